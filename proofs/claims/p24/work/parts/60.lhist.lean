/-! the history of the class, its calls and what it tells -/
def WC (M : Mem) (S : St) (h : Nat) (P : Nat → St) : Prop := RC (M 0) S ∧ h ≤ 4 ∧ ∃ o, o < 5 ∧ M 8 23 1 = nI o ∧ M 8 23 2 = nI h ∧ ∀ i, i < h → RC (M (2 + (o + i) % 5)) (P i)
def ph (h : Nat) : Nat := if h < 4 then h + 1 else 4
def pP (h : Nat) (P : Nat → St) (S : St) : Nat → St := if h < 4 then (fun i => if i = h then S else P i) else (fun i => if i = 3 then S else P (i + 1))
theorem flm5 : ∀ x, x < 10 → f_J9_floorMod_7cf53 M00 (nI x) 5 = some (nI (x % 5)) := by decide +kernel
section HI
variable {M : Mem} {S : St} {h b : Nat} {P : Nat → St}
theorem Inv_n (hv : Inv b S) : S 0 1 ≤ 128 ∧ S 0 5 < 2 := ⟨by have := hv.1.2.2.2.1; omega, hv.1.2.2.2.2.2.2.2.2.2.2.2.2⟩
theorem cl_rowAt {o a : Nat} (ho : o < 5) (ha : a ≤ 4) (e : M 8 23 1 = nI o) : f_X1_rowAt M (nI a) = some (2 + (o + a) % 5) := by
  rw [f_X1_rowAt, e, nI_add, show f_J9_floorMod_7cf53 M (nI (o + a)) 5 = some (nI ((o + a) % 5)) from flm5 _ (by omega), bO_some, if_neg (by rw [nl5, nL_le (by omega) (by omega)]; omega), gd_in (by omega) (by omega), nL_cl (by omega)]
theorem cl_change {F : Mem → Option (Int32 × Mem)} {r : Int32 × St} (hw : WC M S h P) (hv : Inv b S) (hF : ∀ M2, RC (M2 0) S → (∀ i, i < 2 ∨ 6 < i → M2 i = M i) → ∃ M4, F M2 = some (r.1, M4) ∧ RC (M4 0) r.2 ∧ ∀ i, i ≠ 0 → i ≠ 7 → M4 i = M2 i) (hr : r.1 < 0 → r.2 = S) :
    ∃ M', bO (f_X1_prepare 0 M) (fun M2 => bP (F M2) (fun v3 M4 => bP (f_X1_keepUnlessError M4 v3) (fun v5 M6 => some (v5, M6)))) = some (r.1, M') ∧ (∀ i, i = 9 ∨ i = 10 ∨ i = 11 → M' i = M i) ∧ (r.1 < 0 → WC M' S h P) ∧ (¬ r.1 < 0 → WC M' r.2 (ph h) (pP h P S)) := by
  obtain ⟨hc, h4, o, ho, e1, e2, hp⟩ := hw
  obtain ⟨hN, h5⟩ := Inv_n hv
  obtain ⟨M2, c1, c2, c3⟩ := cl_copy (j := 0) (k := 2 + (o + h) % 5) (M := M) (by omega) hc hN h5
  obtain ⟨M4, d1, d2, d3⟩ := hF M2 (by rw [c3 0 (by omega)]; exact hc) (fun i hi => c3 i (by omega))
  have g8 : M4 8 = M 8 := by rw [d3 8 (by omega) (by omega), c3 8 (by omega)]
  have gr : ∀ i, i ≠ 0 → i ≠ 7 → i ≠ 2 + (o + h) % 5 → M4 i = M i := fun i a c e => by rw [d3 i a c, c3 i e]
  have gn : RC (M4 (2 + (o + h) % 5)) S := by rw [d3 _ (by omega) (by omega)]; exact c2
  have pre : f_X1_prepare 0 M = some M2 := by
    rw [f_X1_prepare, e2, cl_rowAt ho h4 e1, bO_some, gd, if_pos (by omega), c1, bO_some]
  rw [pre, bO_some, d1, bP_some, f_X1_keepUnlessError]
  by_cases q : r.1 < 0
  · have nq : ¬ (0 : Int32) ≤ r.1 := fun z => by
      rw [Int32.lt_iff_toInt_lt] at q
      rw [Int32.le_iff_toInt_le] at z
      omega
    rw [if_neg nq, bP_some]
    refine ⟨M4, rfl, fun i hi => gr i (by omega) (by omega) (by omega), fun _ => ⟨by rw [← hr q]; exact d2, h4, o, ho, by rw [g8]; exact e1, by rw [g8]; exact e2, fun i hi => ?_⟩, fun z => absurd q z⟩
    rw [gr _ (by omega) (by omega) (by omega)]
    exact hp i hi
  · have nq : (0 : Int32) ≤ r.1 := by
      rw [Int32.lt_iff_toInt_lt] at q
      rw [Int32.le_iff_toInt_le]
      omega
    rw [if_pos nq, g8, e2]
    by_cases q4 : h = 4
    · subst q4
      have er : ((M 8 23 1 + 1) - (M 8 23 1 + 1) / 5 * 5 : Int32) = nI ((o + 1) % 5) := by
        rw [e1, nI_1, nl5, pk_rem (by omega) (by omega) (by omega)]
      rw [if_pos (by decide), gd, if_pos (by decide), er, bd, bP_some]
      refine ⟨_, rfl, fun i hi => by rw [st_fr (by omega)]; exact gr i (by omega) (by omega) (by omega), fun z => absurd z q, fun _ => ⟨by rw [st_fr (by omega)]; exact d2, by unfold ph; rw [if_neg (by omega)]; exact Nat.le_refl _, (o + 1) % 5, by omega, by rw [st_get, if_pos ⟨rfl, rfl, rfl⟩], by rw [st_get, if_neg (by omega), g8]; exact e2, fun i hi => ?_⟩⟩
      have hi : i < 4 := hi
      rw [st_fr (by omega)]
      unfold pP
      rw [if_neg (by omega)]
      by_cases e : i = 3
      · subst e
        rw [if_pos rfl, show (o + 1) % 5 + 3 = (o + 1) % 5 + 3 from rfl, show ((o + 1) % 5 + 3) % 5 = (o + 4) % 5 by omega]
        exact gn
      · rw [if_neg e, show ((o + 1) % 5 + i) % 5 = (o + (i + 1)) % 5 by omega, gr _ (by omega) (by omega) (by omega)]
        exact hp (i + 1) (by omega)
    · rw [if_neg (by rw [nl4, nL_le (by omega) (by omega)]; omega), nI_1, bd, bP_some]
      refine ⟨_, rfl, fun i hi => by rw [st_fr (by omega)]; exact gr i (by omega) (by omega) (by omega), fun z => absurd z q, fun _ => ⟨by rw [st_fr (by omega)]; exact d2, by unfold ph; split <;> omega, o, ho, by rw [st_get, if_neg (by omega), g8]; exact e1, by unfold ph; rw [if_pos (by omega), st_get, if_pos ⟨rfl, rfl, rfl⟩], fun i hi => ?_⟩⟩
      have hi : i < h + 1 := by unfold ph at hi; rw [if_pos (by omega)] at hi; exact hi
      rw [st_fr (by omega)]
      unfold pP
      rw [if_pos (by omega)]
      by_cases e : i = h
      · subst e
        rw [if_pos rfl]
        exact gn
      · rw [if_neg e, gr _ (by omega) (by omega) (by omega)]
        exact hp i (by omega)
/-- behind a call of the class -/
def CH (M : Mem) (x : Option (Int32 × Mem)) (r : Int32 × St) : Prop := ∃ M' h' P', x = some (r.1, M') ∧ (∀ i, i = 9 ∨ i = 10 ∨ i = 11 → M' i = M i) ∧ WC M' r.2 h' P'
theorem kchg {F : Mem → Option (Int32 × Mem)} {r : Int32 × St} (hw : WC M S h P) (hv : Inv b S) (hF : ∀ M2, RC (M2 0) S → OKc 0 M2 (F M2) r) (hr : r.1 < 0 → r.2 = S) : CH M (bO (f_X1_prepare 0 M) (fun M2 => bP (F M2) (fun v3 M4 => bP (f_X1_keepUnlessError M4 v3) (fun v5 M6 => some (v5, M6))))) r := by
  obtain ⟨M', e1, e2, e3, e4⟩ := cl_change (F := F) (r := r) hw hv (fun M2 c _ => by
    obtain ⟨M4, d1, d2, d3⟩ := hF M2 c
    exact ⟨M4, d1, d2, fun i a _ => d3 i a⟩) hr
  by_cases q : r.1 < 0
  · exact ⟨M', h, P, e1, e2, by rw [hr q]; exact e3 q⟩
  · exact ⟨M', _, _, e1, e2, e4 q⟩
theorem nneg {n : Nat} (h : n < 2 ^ 31) {P : Prop} (q : nI n < 0) : P := absurd q (nI_pos h)
theorem pc8_le (m : Nat) : pc8 m ≤ 8 := by
  unfold pc8
  have h : ∀ c : Bool, c.toNat ≤ 1 := by decide
  have := h (m.testBit 0)
  have := h (m.testBit 1)
  have := h (m.testBit 2)
  have := h (m.testBit 3)
  have := h (m.testBit 4)
  have := h (m.testBit 5)
  have := h (m.testBit 6)
  have := h (m.testBit 7)
  omega
theorem gr_ho (hv : Inv b S) {g : Nat} (hg : g < 4) : S 0 5 = 0 → (S 0 8).testBit g = true → S 0 0 ≤ S 6 g ∧ S 6 g < S 0 0 + S 0 1 := fun q o => by
  have := ((hv.2.2.2.1 q).1 g hg).1 o
  exact ⟨this.1.1, this.1.2.1⟩
theorem k_begin (hw : WC M S h P) (hv : Inv b S) {g : Nat} (hg : g < 4) : CH M (f_X7_begin M (nI g)) (aBegin S g) := by
  have y0 := hv.1.1 0 0
  have y1 := hv.1.1 0 1
  have hb := hv.1.2.2.1
  refine kchg (F := fun M2 => f_X6_beginGroup 0 M2 (nI g)) hw hv (fun M2 c => co_begin c hv.1 hg) (fun q => ?_)
  unfold aBegin at q ⊢
  by_cases z1 : S 0 5 ≠ 0 ∨ (S 0 8).testBit g
  · rw [if_pos z1]
  · rw [if_neg z1] at q ⊢
    by_cases z2 : 60 ≤ S 0 1
    · rw [if_pos z2]
    · rw [if_neg z2] at q
      exact nneg (by omega) q
theorem k_write (hw : WC M S h P) (hv : Inv b S) {g p v : Nat} (hg : g < 4) (hp : p < 8) (hvl : v < 100) : CH M (f_X7_write M (nI g) (nI p) (nI v)) (aWrite S g p v) := by
  have y0 := val_le hv.1.1 (p := p)
  have hb := hv.1.2.2.1
  refine kchg (F := fun M2 => f_X6_writePage 0 M2 (nI g) (nI p) (nI v)) hw hv (fun M2 c => co_write c hv.1 hg hp hvl) (fun q => ?_)
  unfold aWrite at q ⊢
  by_cases z1 : S 0 5 ≠ 0 ∨ (S 0 8).testBit g = false ∨ ¬ (hol S p < 0 ∨ hol S p = nI g)
  · rw [if_pos z1]
  · rw [if_neg z1] at q ⊢
    by_cases z2 : 60 ≤ S 0 1
    · rw [if_pos z2]
    · rw [if_neg z2] at q
      exact nneg (by omega) q
theorem k_settle (hw : WC M S h P) (hv : Inv b S) {g : Nat} (hg : g < 4) : CH M (f_X7_settle M (nI g)) (aSettle S g) := by
  have y0 := pc8_le (S 8 g)
  refine kchg (F := fun M2 => f_X6_settleGroup 0 M2 (nI g)) hw hv (fun M2 c => co_settle c hv.1 hg) (fun q => ?_)
  unfold aSettle at q ⊢
  by_cases z1 : S 0 5 ≠ 0 ∨ (S 0 8).testBit g = false
  · rw [if_pos z1]
  · rw [if_neg z1] at q ⊢
    by_cases z2 : 60 < S 0 1 + 1
    · rw [if_pos z2]
    · rw [if_neg z2] at q
      exact nneg (by omega) q
theorem k_take (hw : WC M S h P) (hv : Inv b S) {g : Nat} (hg : g < 4) : CH M (f_X7_takeBack M (nI g)) (aTake S g) := by
  have y0 := hv.1.1 7 g
  have hb := hv.1.2.2.1
  refine kchg (F := fun M2 => f_X6_takeGroupBack 0 M2 (nI g)) hw hv (fun M2 c => co_take c hv.1 hv.2.1.1.1 hg (gr_ho hv hg)) (fun q => ?_)
  unfold aTake at q ⊢
  by_cases z1 : S 0 5 ≠ 0 ∨ (S 0 8).testBit g = false
  · rw [if_pos z1]
  · rw [if_neg z1] at q ⊢
    by_cases z2 : 60 < S 0 1 + (S 7 g + 1)
    · rw [if_pos z2]
    · rw [if_neg z2] at q
      exact nneg (by omega) q
theorem k_out (hw : WC M S h P) (hv : Inv b S) {p : Nat} (hp : p < 8) : CH M (f_X7_writeOut M (nI p)) (aOut S p) := by
  have y0 := mrk_le hv.1.1 (p := p)
  have hb := hv.1.2.2.1
  refine kchg (F := fun M2 => f_X6_writePageOut 0 M2 (nI p)) hw hv (fun M2 c => co_out c hv.1 hp) (fun q => ?_)
  unfold aOut at q ⊢
  by_cases z1 : S 0 5 ≠ 0 ∨ (S 0 7).testBit p = false
  · rw [if_pos z1]
  · rw [if_neg z1] at q
    exact nneg (by omega) q
theorem k_drop (hw : WC M S h P) (hv : Inv b S) {p : Nat} (hp : p < 8) : CH M (f_X7_dropOut M (nI p)) (aDrop S p) := by
  have y0 := pc8_le (S 0 6 &&& (255 - 2 ^ p))
  refine kchg (F := fun M2 => f_X6_dropPageOut 0 M2 (nI p)) hw hv (fun M2 c => co_drop c hv.1 hp) (fun q => ?_)
  unfold aDrop at q ⊢
  by_cases z1 : S 0 5 ≠ 0 ∨ (S 0 6).testBit p = false ∨ (S 0 7).testBit p
  · rw [if_pos z1]
  · rw [if_neg z1] at q
    exact nneg (by omega) q
theorem k_chk (hw : WC M S h P) (hv : Inv b S) : CH M (f_X7_checkpoint M) (aChk S) := by
  have y0 := hv.1.1 0 0
  have y1 := hv.1.1 0 1
  have hb := hv.1.2.2.1
  refine kchg (F := fun M2 => f_X6_makeCheckpoint 0 M2) hw hv (fun M2 c => co_chk c hv.1) (fun q => ?_)
  unfold aChk at q ⊢
  by_cases z1 : S 0 5 ≠ 0
  · rw [if_pos z1]
  · rw [if_neg z1] at q ⊢
    by_cases z2 : 60 ≤ S 0 1
    · rw [if_pos z2]
    · rw [if_neg z2] at q
      exact nneg (by omega) q
theorem k_dro (hw : WC M S h P) (hv : Inv b S) : CH M (f_X7_dropRecords M) (aDro S) := by
  have y0 := (drb_le hv.2.1).1
  have hN := hv.1.2.2.2.1
  refine kchg (F := fun M2 => f_X6_dropOldRecords 0 M2) hw hv (fun M2 c => co_dro c hv.1 (drb_le hv.2.1).1) (fun q => ?_)
  unfold aDro at q ⊢
  by_cases z1 : S 0 5 ≠ 0 ∨ S 0 3 = 0
  · rw [if_pos z1]
  · rw [if_neg z1] at q
    exact nneg (by omega) q
theorem k_force (hw : WC M S h P) (hv : Inv b S) : CH M (f_X7_force M) (aForce S) := by
  have y0 := hv.1.1 0 0
  have y1 := hv.1.1 0 1
  have hb := hv.1.2.2.1
  refine kchg (F := fun M2 => f_X6_forceAll 0 M2) hw hv (fun M2 c => co_force c hv.1) (fun q => ?_)
  unfold aForce at q ⊢
  by_cases z1 : S 0 5 ≠ 0
  · rw [if_pos z1]
  · rw [if_neg z1] at q
    exact nneg (by omega) q
theorem k_stop (hw : WC M S h P) (hv : Inv b S) {t : Nat} (ht : t < 2) : CH M (f_X7_stop M (nI t)) (aStop S t) := by
  have hN := hv.1.2.2.2.1
  refine kchg (F := fun M2 => f_X6_stopStore 0 M2 (nI t)) hw hv (fun M2 c => co_stop c hv.1 ht) (fun q => ?_)
  unfold aStop at q ⊢
  by_cases z1 : S 0 5 ≠ 0
  · rw [if_pos z1]
  · rw [if_neg z1] at q
    exact nneg (by omega) q
theorem Inv_Ck (hv : Inv b S) : Ck b S := fun q => by
  have c := hv.2.1.2.2.1 q
  have := c.2.1
  have := hv.2.1.1.2.2.2
  exact ⟨c.1, by omega, c.2.2.1, c.2.2.2.2.1⟩
theorem c_rest {j : Nat} (hj : j ≠ 7) (hc : RC (M j) S) (hv : Inv b S) : ∃ M', f_X5_run j M = some ((aRest S).1, M') ∧ RC (M' j) (aRest S).2 ∧ (∀ i, i ≠ j → i ≠ 7 → M' i = M i) ∧ (S 0 5 ≠ 0 → M' 7 20 4 = nI (rs1 S).2 ∧ M' 7 20 5 = nI (rs2 S).2.2.2 ∧ M' 7 20 3 = nI (look S).1 ∧ M' 7 20 2 = nI (lf S)) := by
  by_cases q : S 0 5 = 0
  · refine ⟨M, ?_, by unfold aRest; rw [if_pos q]; exact hc, fun _ _ _ => rfl, fun z => absurd q z⟩
    unfold aRest
    rw [f_X5_run, hc.1.2.2.2.2.2.1.1, if_pos (by rw [q]; rfl), if_pos q]
  · obtain ⟨k1, k2, k3⟩ := look_iv hv.2.1
    obtain ⟨r1, r2, r3, r4⟩ := rs2_F hv q
    exact co_rest hj hc hv.1 hv.2.1.1.1 (Inv_Ck hv) (fun _ p hp => (k3 p hp).imp id (fun z => z.1)) (fun _ => by omega) r3
theorem k_rest (hw : WC M S h P) (hv : Inv b S) : CH M (f_X7_restart M) (aRest S) := by
  have hr0 : (aRest S).1 < 0 → (aRest S).2 = S := fun q => by
    unfold aRest at q ⊢
    by_cases z1 : S 0 5 = 0
    · rw [if_pos z1]
    · rw [if_neg z1] at q
      have := (rs1_iv hv z1).2.2.2.2
      have hN := hv.1.2.2.2.1
      exact nneg (by omega) q
  obtain ⟨M', e1, e2, e3, e4⟩ := cl_change (F := fun M2 => f_X5_run 0 M2) (r := aRest S) hw hv (fun M2 c _ => by
    obtain ⟨M4, d1, d2, d3, -⟩ := c_rest (j := 0) (by omega) c hv
    exact ⟨M4, d1, d2, d3⟩) hr0
  by_cases q : (aRest S).1 < 0
  · exact ⟨M', h, P, e1, e2, by rw [hr0 q]; exact e3 q⟩
  · exact ⟨M', _, _, e1, e2, e4 q⟩
end HI
