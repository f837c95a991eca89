/-! the histories of both -/
theorem RQ_cg {s s' : Nat → Int32} {S : St} (h : RQ s S) (hN : S 0 1 ≤ 128) (e : ∀ i, i < 2117 → s' i = s i) : RQ s' S := by
  obtain ⟨k1, k2, k3, k4⟩ := h
  exact ⟨RN_cg k1 (fun i _ => e i (by omega)) rfl rfl rfl rfl rfl, RP_cg k2 (fun i _ _ => e i (by omega)) (fun _ _ _ _ => rfl), RG_cg k3 (fun i _ _ => e i (by omega)) (fun _ _ _ _ => rfl), RR_cg k4 (fun i _ a => e i (by omega)) rfl rfl rfl (fun _ _ _ _ => rfl)⟩
def WC (M : Mem) (S : St) (h : Nat) (P : Nat → St) : Prop := RC (M 0) S ∧ h ≤ 4 ∧ ∃ o, o < 5 ∧ M 8 23 1 = nI o ∧ M 8 23 2 = nI h ∧ ∀ i, i < h → RC (M (2 + (o + i) % 5)) (P i)
def WD (M : Mem) (S : St) (h : Nat) (P : Nat → St) : Prop := RQ (M 11 29) S ∧ M 11 28 4 = nI h ∧ M 11 28 5 = 0 ∧ ∀ i, i < h → RQ (fun k => M 11 30 (2117 * i + k)) (P i)
def WI (b : Nat) (S : St) (h : Nat) (P : Nat → St) : Prop := Inv b S ∧ ∀ i, i < h → Inv b (P i)
def ph (h : Nat) : Nat := if h < 4 then h + 1 else 4
def pP (h : Nat) (P : Nat → St) (S : St) : Nat → St := if h < 4 then (fun i => if i = h then S else P i) else (fun i => if i = 3 then S else P (i + 1))
theorem flm5 : ∀ x, x < 10 → f_J9_floorMod_7cf53 M00 (nI x) 5 = some (nI (x % 5)) := by decide +kernel
section HI
variable {M : Mem} {S : St} {h b : Nat} {P : Nat → St}
theorem Inv_n (hv : Inv b S) : S 0 1 ≤ 128 ∧ S 0 5 < 2 := ⟨by have := hv.1.2.2.2.1; omega, hv.1.2.2.2.2.2.2.2.2.2.2.2.2⟩
theorem cl_rowAt {o a : Nat} (ho : o < 5) (ha : a ≤ 4) (e : M 8 23 1 = nI o) : f_X1_rowAt M (nI a) = some (2 + (o + a) % 5) := by
  rw [f_X1_rowAt, e, nI_add, show f_J9_floorMod_7cf53 M (nI (o + a)) 5 = some (nI ((o + a) % 5)) from flm5 _ (by omega), bO_some, if_neg (by rw [nl5, nL_le (by omega) (by omega)]; omega), gd_in (by omega) (by omega), nL_cl (by omega)]
theorem cl_change {F : Mem → Option (Int32 × Mem)} {r : Int32 × St} (hw : WC M S h P) (hv : Inv b S) (hF : ∀ M2, RC (M2 0) S → (∀ i, i < 2 ∨ 6 < i → M2 i = M i) → ∃ M4, F M2 = some (r.1, M4) ∧ RC (M4 0) r.2 ∧ ∀ i, i ≠ 0 → i ≠ 7 → M4 i = M2 i) (hr : r.1 < 0 → r.2 = S) :
    ∃ M', bO (f_X1_prepare 0 M) (fun M2 => bP (F M2) (fun v3 M4 => bP (f_X1_keepUnlessError M4 v3) (fun v5 M6 => some (v5, M6)))) = some (r.1, M') ∧ (∀ i, i = 9 ∨ i = 10 ∨ i = 11 → M' i = M i) ∧ (r.1 < 0 → WC M' S h P) ∧ (¬ r.1 < 0 → WC M' r.2 (ph h) (pP h P S)) := by
  obtain ⟨hc, h4, o, ho, e1, e2, hp⟩ := hw
  obtain ⟨hN, h5⟩ := Inv_n hv
  obtain ⟨M2, c1, c2, c3⟩ := cl_copy (j := 0) (k := 2 + (o + h) % 5) (M := M) (by omega) hc hN h5
  obtain ⟨M4, d1, d2, d3⟩ := hF M2 (by rw [c3 0 (by omega)]; exact hc) (fun i hi => c3 i (by omega))
  have g8 : M4 8 = M 8 := by rw [d3 8 (by omega) (by omega), c3 8 (by omega)]
  have gr : ∀ i, i ≠ 0 → i ≠ 7 → i ≠ 2 + (o + h) % 5 → M4 i = M i := fun i a c e => by rw [d3 i a c, c3 i e]
  have gn : RC (M4 (2 + (o + h) % 5)) S := by rw [d3 _ (by omega) (by omega)]; exact c2
  have pre : f_X1_prepare 0 M = some M2 := by
    rw [f_X1_prepare, e2, cl_rowAt ho h4 e1, bO_some, gd, if_pos (by omega), c1, bO_some]
  rw [pre, bO_some, d1, bP_some, f_X1_keepUnlessError]
  by_cases q : r.1 < 0
  · have nq : ¬ (0 : Int32) ≤ r.1 := fun z => by
      rw [Int32.lt_iff_toInt_lt] at q
      rw [Int32.le_iff_toInt_le] at z
      omega
    rw [if_neg nq, bP_some]
    refine ⟨M4, rfl, fun i hi => gr i (by omega) (by omega) (by omega), fun _ => ⟨by rw [← hr q]; exact d2, h4, o, ho, by rw [g8]; exact e1, by rw [g8]; exact e2, fun i hi => ?_⟩, fun z => absurd q z⟩
    rw [gr _ (by omega) (by omega) (by omega)]
    exact hp i hi
  · have nq : (0 : Int32) ≤ r.1 := by
      rw [Int32.lt_iff_toInt_lt] at q
      rw [Int32.le_iff_toInt_le]
      omega
    rw [if_pos nq, g8, e2]
    by_cases q4 : h = 4
    · subst q4
      have er : ((M 8 23 1 + 1) - (M 8 23 1 + 1) / 5 * 5 : Int32) = nI ((o + 1) % 5) := by
        rw [e1, nI_1, nl5, pk_rem (by omega) (by omega) (by omega)]
      rw [if_pos (by decide), gd, if_pos (by decide), er, bd, bP_some]
      refine ⟨_, rfl, fun i hi => by rw [st_fr (by omega)]; exact gr i (by omega) (by omega) (by omega), fun z => absurd z q, fun _ => ⟨by rw [st_fr (by omega)]; exact d2, by unfold ph; rw [if_neg (by omega)]; exact Nat.le_refl _, (o + 1) % 5, by omega, by rw [st_get, if_pos ⟨rfl, rfl, rfl⟩], by rw [st_get, if_neg (by omega), g8]; exact e2, fun i hi => ?_⟩⟩
      have hi : i < 4 := hi
      rw [st_fr (by omega)]
      unfold pP
      rw [if_neg (by omega)]
      by_cases e : i = 3
      · subst e
        rw [if_pos rfl, show (o + 1) % 5 + 3 = (o + 1) % 5 + 3 from rfl, show ((o + 1) % 5 + 3) % 5 = (o + 4) % 5 by omega]
        exact gn
      · rw [if_neg e, show ((o + 1) % 5 + i) % 5 = (o + (i + 1)) % 5 by omega, gr _ (by omega) (by omega) (by omega)]
        exact hp (i + 1) (by omega)
    · rw [if_neg (by rw [nl4, nL_le (by omega) (by omega)]; omega), nI_1, bd, bP_some]
      refine ⟨_, rfl, fun i hi => by rw [st_fr (by omega)]; exact gr i (by omega) (by omega) (by omega), fun z => absurd z q, fun _ => ⟨by rw [st_fr (by omega)]; exact d2, by unfold ph; split <;> omega, o, ho, by rw [st_get, if_neg (by omega), g8]; exact e1, by unfold ph; rw [if_pos (by omega), st_get, if_pos ⟨rfl, rfl, rfl⟩], fun i hi => ?_⟩⟩
      have hi : i < h + 1 := by unfold ph at hi; rw [if_pos (by omega)] at hi; exact hi
      rw [st_fr (by omega)]
      unfold pP
      rw [if_pos (by omega)]
      by_cases e : i = h
      · subst e
        rw [if_pos rfl]
        exact gn
      · rw [if_neg e, gr _ (by omega) (by omega) (by omega)]
        exact hp i (by omega)
theorem cl_undo (hw : WC M S h P) (hv : WI b S h P) (hh : h ≠ 0) : ∃ M', f_X7_undo M = some (nI (h - 1), M') ∧ (∀ i, i = 9 ∨ i = 10 ∨ i = 11 → M' i = M i) ∧ WC M' (P (h - 1)) (h - 1) P := by
  obtain ⟨hc, h4, o, ho, e1, e2, hp⟩ := hw
  obtain ⟨hN, h5⟩ := Inv_n (hv.2 (h - 1) (by omega))
  have z1 : st M 8 23 2 (nI (h - 1)) 8 23 1 = nI o := by rw [st_get, if_neg (by omega)]; exact e1
  obtain ⟨M', c1, c2, c3⟩ := cl_copy (j := 2 + (o + (h - 1)) % 5) (k := 0) (M := st M 8 23 2 (nI (h - 1))) (S := P (h - 1)) (by omega) (by rw [st_fr (by omega)]; exact hp (h - 1) (by omega)) hN h5
  have g8 : M' 8 = st M 8 23 2 (nI (h - 1)) 8 := c3 8 (by omega)
  refine ⟨M', ?_, fun i hi => by rw [c3 i (by omega), st_fr (by omega)], c2, by omega, o, ho, by rw [g8]; exact z1, by rw [g8, st_get, if_pos ⟨rfl, rfl, rfl⟩], fun i hi => ?_⟩
  · rw [f_X7_undo, f_X1_restoreLatest, e2, if_neg (by rw [nl0, nL_eq (by omega) (by omega)]; exact hh), nl1, nL_sub (by omega), bd, st_get, if_pos ⟨rfl, rfl, rfl⟩, cl_rowAt ho (by omega) z1, bO_some, gd, if_pos (by omega), c1, bO_some, g8, st_get, if_pos ⟨rfl, rfl, rfl⟩, bP_some]
  · rw [c3 _ (by omega), st_fr (by omega)]
    exact hp i (by omega)
theorem cl_undo0 (hw : WC M S h P) (hh : h = 0) : f_X7_undo M = some (-1000002, M) := by
  obtain ⟨hc, h4, o, ho, e1, e2, hp⟩ := hw
  rw [f_X7_undo, f_X1_restoreLatest, e2, hh, if_pos (by decide), bP_some]
/-! the model's -/
theorem m_ch59 {m : Nat} (hm : m < 4) : ∀ (d k fu : Nat) (M : Mem), k + d = 2117 → d < fu → M 11 28 4 = nI m →
    ∃ M', itr (f_X8_changes_L59) (fun _ _ => none) fu M (nI k) = some M' ∧ (∀ g r i, ¬ (g = 11 ∧ (r = 30 ∨ (r = 28 ∧ i = 4))) → M' g r i = M g r i) ∧ M' 11 28 4 = nI (m + 1) ∧ (∀ i, k ≤ i → i < 2117 → M' 11 30 (2117 * m + i) = M 11 29 i) ∧ (∀ j, (j < 2117 * m + k ∨ 2117 * m + 2117 ≤ j) → M' 11 30 j = M 11 30 j) := by
  intro d
  induction d with
  | zero =>
    intro k fu M hk hf h4
    obtain ⟨f, rfl⟩ : ∃ f, fu = f + 1 := ⟨fu - 1, by omega⟩
    refine ⟨st M 11 28 4 (nI (m + 1)), ?_, fun g r i q => by rw [st_get, if_neg (by omega)], by rw [st_get, if_pos ⟨rfl, rfl, rfl⟩], fun i a c => by omega, fun j _ => by rw [st_get, if_neg (by omega)]⟩
    rw [itr_s, f_X8_changes_L59, if_pos (by rw [show (2117 : Int32) = nI 2117 from rfl, nL_le (by omega) (by omega)]; omega), h4, nI_1, bd]
  | succ d ih =>
    intro k fu M hk hf h4
    obtain ⟨f, rfl⟩ : ∃ f, fu = f + 1 := ⟨fu - 1, by omega⟩
    have e30 : ∀ j, st M 11 30 (2117 * m + k) (M 11 29 k) 11 30 j = if j = 2117 * m + k then M 11 29 k else M 11 30 j := fun j => by
      rw [st_get]
      by_cases e : j = 2117 * m + k
      · rw [if_pos ⟨rfl, rfl, e⟩, if_pos e]
      · rw [if_neg (fun y => e y.2.2), if_neg e]
    obtain ⟨M', a1, a2, a3, a4, a5⟩ := ih (k + 1) f (st M 11 30 (2117 * m + k) (M 11 29 k)) (by omega) (by omega) (by rw [st_get, if_neg (by omega)]; exact h4)
    refine ⟨M', ?_, fun g r i q => by rw [a2 g r i q, st_get, if_neg (by omega)], a3, fun i a c => ?_, fun j hj => by rw [a5 j (by omega), e30, if_neg (by omega)]⟩
    · rw [itr_s, f_X8_changes_L59, if_neg (by rw [show (2117 : Int32) = nI 2117 from rfl, nL_le (by omega) (by omega)]; omega), h4, show (2117 : Int32) = nI 2117 from rfl, pk_mul, nI_add, gd_in (by omega) (by omega), gd_in (by omega) (by omega), nL_cl (by omega), nL_cl (by omega), bd, bd, nI_1]
      exact a1
    · by_cases e : i = k
      · rw [e, a5 _ (by omega), e30, if_pos rfl]
      · rw [a4 i (by omega) c, st_get, if_neg (by omega)]
theorem m_ch18 : ∀ (d k fu : Nat) (M : Mem), k + d = 6351 → d < fu →
    ∃ M', itr (f_X8_changes_L18) (fun _ _ => none) fu M (nI k) = f_X8_changes_L57 (st M' 11 28 4 ((M' 11 28 4) - 1)) ∧ (∀ g r i, ¬ (g = 11 ∧ r = 30) → M' g r i = M g r i) ∧ (∀ j, k ≤ j → j < 6351 → M' 11 30 j = M 11 30 (j + 2117)) ∧ (∀ j, (j < k ∨ 6351 ≤ j) → M' 11 30 j = M 11 30 j) := by
  intro d
  induction d with
  | zero =>
    intro k fu M hk hf
    obtain ⟨f, rfl⟩ : ∃ f, fu = f + 1 := ⟨fu - 1, by omega⟩
    refine ⟨M, ?_, fun _ _ _ _ => rfl, fun j a c => by omega, fun _ _ => rfl⟩
    rw [itr_s, f_X8_changes_L18, if_pos (by rw [show (6351 : Int32) = nI 6351 from rfl, nL_le (by omega) (by omega)]; omega), bd]
  | succ d ih =>
    intro k fu M hk hf
    obtain ⟨f, rfl⟩ : ∃ f, fu = f + 1 := ⟨fu - 1, by omega⟩
    have e30 : ∀ j, st M 11 30 k (M 11 30 (k + 2117)) 11 30 j = if j = k then M 11 30 (k + 2117) else M 11 30 j := fun j => by
      rw [st_get]
      by_cases e : j = k
      · rw [if_pos ⟨rfl, rfl, e⟩, if_pos e]
      · rw [if_neg (fun y => e y.2.2), if_neg e]
    obtain ⟨M', a1, a2, a4, a5⟩ := ih (k + 1) f (st M 11 30 k (M 11 30 (k + 2117))) (by omega) (by omega)
    refine ⟨M', ?_, fun g r i q => by rw [a2 g r i q, st_get, if_neg (by omega)], fun j a c => ?_, fun j hj => by rw [a5 j (by omega), e30, if_neg (by omega)]⟩
    · rw [itr_s, f_X8_changes_L18, if_neg (by rw [show (6351 : Int32) = nI 6351 from rfl, nL_le (by omega) (by omega)]; omega), show (2117 : Int32) = nI 2117 from rfl, nI_add, gd_in (by omega) (by omega), gd_in (by omega) (by omega), nL_cl (by omega), nL_cl (by omega), bd, bd, nI_1]
      exact a1
    · by_cases e : j = k
      · rw [e, a5 _ (by omega), e30, if_pos rfl]
      · rw [a4 j (by omega) c, e30, if_neg (by omega)]
theorem m_changes (hw : WD M S h P) (h4 : h ≤ 4) (hv : WI b S h P) : ∃ M9, f_X8_changes M = some M9 ∧ M9 11 29 = M 11 29 ∧ (∀ g r i, ¬ (g = 11 ∧ (r = 30 ∨ (r = 28 ∧ i = 4))) → M9 g r i = M g r i) ∧ M9 11 28 4 = nI (ph h) ∧ (∀ i, i < ph h → RQ (fun k => M9 11 30 (2117 * i + k)) (pP h P S i)) := by
  obtain ⟨w1, w2, w3, w4⟩ := hw
  have row : ∀ M9 : Mem, (∀ g r i, ¬ (g = 11 ∧ (r = 30 ∨ (r = 28 ∧ i = 4))) → M9 g r i = M g r i) → M9 11 29 = M 11 29 := fun M9 q => by
    funext i
    exact q 11 29 i (by omega)
  rw [f_X8_changes, w3, if_pos rfl, w2]
  by_cases q : h = 4
  · subst q
    rw [if_pos (by decide)]
    obtain ⟨M1, a1, a2, a3, a4⟩ := m_ch18 6351 0 FU M rfl (by decide)
    have z4 : M1 11 28 4 = nI 4 := by rw [a2 11 28 4 (by omega)]; exact w2
    obtain ⟨M', b1, b2, b3, b4, b5⟩ := m_ch59 (m := 3) (by omega) 2117 0 FU (st M1 11 28 4 (nI 3)) rfl (by decide) (by rw [st_get, if_pos ⟨rfl, rfl, rfl⟩])
    have fr : ∀ g r i, ¬ (g = 11 ∧ (r = 30 ∨ (r = 28 ∧ i = 4))) → M' g r i = M g r i := fun g r i q => by
      rw [b2 g r i q, st_get, if_neg (by omega), a2 g r i (by omega)]
    refine ⟨M', ?_, row M' fr, fr, b3, fun i hi => ?_⟩
    · rw [z4, nl1, nL_sub (by omega)] at a1
      exact a1.trans b1
    · have hi : i < 4 := hi
      unfold pP
      rw [if_neg (by omega)]
      by_cases e : i = 3
      · subst e
        rw [if_pos rfl]
        refine RQ_cg w1 (Inv_n hv.1).1 (fun k hk => ?_)
        show M' 11 30 (2117 * 3 + k) = _
        rw [b4 k (by omega) hk, st_get, if_neg (by omega), a2 11 29 k (by omega)]
      · rw [if_neg e]
        refine RQ_cg (w4 (i + 1) (by omega)) (Inv_n (hv.2 (i + 1) (by omega))).1 (fun k hk => ?_)
        show M' 11 30 (2117 * i + k) = M 11 30 (2117 * (i + 1) + k)
        rw [b5 _ (by omega), st_get, if_neg (by omega), a3 _ (by omega) (by omega), show 2117 * i + k + 2117 = 2117 * (i + 1) + k by omega]
  · rw [if_neg (by rw [nl4, nL_eq (by omega) (by omega)]; exact q)]
    obtain ⟨M', b1, b2, b3, b4, b5⟩ := m_ch59 (m := h) (by omega) 2117 0 FU M rfl (by decide) w2
    refine ⟨M', b1, row M' b2, b2, by unfold ph; rw [if_pos (by omega)]; exact b3, fun i hi => ?_⟩
    have hi : i < h + 1 := by unfold ph at hi; rw [if_pos (by omega)] at hi; exact hi
    unfold pP
    rw [if_pos (by omega)]
    by_cases e : i = h
    · subst e
      rw [if_pos rfl]
      exact RQ_cg w1 (Inv_n hv.1).1 (fun k hk => b4 k (by omega) hk)
    · rw [if_neg e]
      exact RQ_cg (w4 i (by omega)) (Inv_n (hv.2 i (by omega))).1 (fun k hk => b5 _ (by omega))
theorem m_change {x : Option (Int32 × Mem)} {r : Int32 × St} (hw : WD M S h P) (h4 : h ≤ 4) (hv : WI b S h P) (hx : OKw M x S r) :
    ∃ M', x = some (r.1, M') ∧ (∀ g, g ≠ 11 → M' g = M g) ∧ (∀ i, i = 5 ∨ i = 7 → M' 11 28 i = M 11 28 i) ∧ M' 11 33 = M 11 33 ∧ (r.1 < 0 → WD M' S h P) ∧ (¬ r.1 < 0 → WD M' r.2 (ph h) (pP h P S)) := by
  rcases hx with ⟨a1, a2, a3⟩ | ⟨a1, a2⟩
  · exact ⟨M, a3, fun _ _ => rfl, fun _ _ => rfl, rfl, fun _ => hw, fun z => absurd a1 z⟩
  · obtain ⟨M9, e9, h29, f9, c1, c2⟩ := m_changes hw h4 hv
    obtain ⟨M', b1, b2, b3⟩ := a2 M9 e9 h29
    have fr : ∀ g r i, ¬ (g = 11 ∧ (r = 29 ∨ r = 34 ∨ r = 30 ∨ (r = 28 ∧ (i = 9 ∨ i = 10 ∨ i = 4)))) → M' g r i = M g r i := fun g r i q => by
      rw [b3 g r i (by omega), f9 g r i (by omega)]
    refine ⟨M', b1, fun g hg => ?_, fun i hi => fr 11 28 i (by omega), ?_, fun z => absurd z a1, fun _ => ⟨b2, ?_, ?_, fun i hi => ?_⟩⟩
    · funext r' i
      exact fr g r' i (by omega)
    · funext i
      exact fr 11 33 i (by omega)
    · rw [b3 11 28 4 (by omega)]; exact c1
    · rw [fr 11 28 5 (by omega)]; exact hw.2.2.1
    · have e : (fun k => M' 11 30 (2117 * i + k)) = (fun k => M9 11 30 (2117 * i + k)) := by
        funext k
        exact b3 11 30 _ (by omega)
      rw [e]
      exact c2 i hi
theorem m_undo (hw : WD M S h P) (h4 : h ≤ 4) (hv : WI b S h P) (hh : h ≠ 0) : ∃ M', f_X8_undo M = some (nI (h - 1), M') ∧ (∀ g, g ≠ 11 → M' g = M g) ∧ (∀ i, i = 5 ∨ i = 7 → M' 11 28 i = M 11 28 i) ∧ M' 11 33 = M 11 33 ∧ WD M' (P (h - 1)) (h - 1) P := by
  obtain ⟨w1, w2, w3, w4⟩ := hw
  have lp : ∀ (d k fu : Nat) (M : Mem), k + d = 2117 → d < fu → M 11 28 4 = nI (h - 1) →
      ∃ M', itr (f_X8_undo_L22) (fun _ _ => none) fu M (nI k) = some (nI (h - 1), M') ∧ (∀ g r i, ¬ (g = 11 ∧ r = 29) → M' g r i = M g r i) ∧ (∀ i, k ≤ i → i < 2117 → M' 11 29 i = M 11 30 (2117 * (h - 1) + i)) ∧ (∀ j, (j < k ∨ 2117 ≤ j) → M' 11 29 j = M 11 29 j) := by
    intro d
    induction d with
    | zero =>
      intro k fu M hk hf z4
      obtain ⟨f, rfl⟩ : ∃ f, fu = f + 1 := ⟨fu - 1, by omega⟩
      refine ⟨M, ?_, fun _ _ _ _ => rfl, fun j a c => by omega, fun _ _ => rfl⟩
      rw [itr_s, f_X8_undo_L22, if_pos (by rw [show (2117 : Int32) = nI 2117 from rfl, nL_le (by omega) (by omega)]; omega), z4]
    | succ d ih =>
      intro k fu M hk hf z4
      obtain ⟨f, rfl⟩ : ∃ f, fu = f + 1 := ⟨fu - 1, by omega⟩
      obtain ⟨M', a1, a2, a3, a4⟩ := ih (k + 1) f (st M 11 29 k (M 11 30 (2117 * (h - 1) + k))) (by omega) (by omega) (by rw [st_get, if_neg (by omega)]; exact z4)
      refine ⟨M', ?_, fun g r i q => by rw [a2 g r i q, st_get, if_neg (by omega)], fun i a c => ?_, fun j hj => by rw [a4 j (by omega), sg, if_neg (by omega)]⟩
      · rw [itr_s, f_X8_undo_L22, if_neg (by rw [show (2117 : Int32) = nI 2117 from rfl, nL_le (by omega) (by omega)]; omega), z4, show (2117 : Int32) = nI 2117 from rfl, pk_mul, nI_add, gd_in (by omega) (by omega), gd_in (by omega) (by omega), nL_cl (by omega), nL_cl (by omega), bd, bd, nI_1]
        exact a1
      · by_cases e : i = k
        · rw [e, a4 _ (by omega), sg, if_pos rfl]
        · rw [a3 i (by omega) c, st_get, if_neg (by omega)]
  obtain ⟨M', a1, a2, a3, a4⟩ := lp 2117 0 FU (st M 11 28 4 (nI (h - 1))) rfl (by decide) (by rw [st_get, if_pos ⟨rfl, rfl, rfl⟩])
  have fr : ∀ g r i, ¬ (g = 11 ∧ (r = 29 ∨ (r = 28 ∧ i = 4))) → M' g r i = M g r i := fun g r i q => by
    rw [a2 g r i (by omega), st_get, if_neg (by omega)]
  refine ⟨M', ?_, fun g hg => ?_, fun i hi => fr 11 28 i (by omega), ?_, ?_, ?_, ?_, fun i hi => ?_⟩
  · rw [f_X8_undo, w2, if_neg (by rw [nl0, nL_eq (by omega) (by omega)]; exact hh), nl1, nL_sub (by omega), bd]
    exact a1
  · funext r i
    exact fr g r i (by omega)
  · funext i
    exact fr 11 33 i (by omega)
  · refine RQ_cg (w4 (h - 1) (by omega)) (Inv_n (hv.2 (h - 1) (by omega))).1 (fun k hk => ?_)
    show M' 11 29 k = M 11 30 (2117 * (h - 1) + k)
    rw [a3 k (by omega) hk, st_get, if_neg (by omega)]
  · rw [a2 11 28 4 (by omega), st_get, if_pos ⟨rfl, rfl, rfl⟩]
  · rw [fr 11 28 5 (by omega)]; exact w3
  · have e : (fun k => M' 11 30 (2117 * i + k)) = (fun k => M 11 30 (2117 * i + k)) := by
      funext k
      exact fr 11 30 _ (by omega)
    rw [e]
    exact w4 i (by omega)
theorem m_copies (M : Mem) (rf rt : Nat) (hne : rf ≠ rt) : ∃ M', f_X8_copies rf rt M = some M' ∧ (∀ g r i, ¬ (g = 11 ∧ r = rt) → M' g r i = M g r i) ∧ (∀ i, i < 2117 → M' 11 rt i = M 11 rf i) := by
  have lp : ∀ (d k fu : Nat) (M : Mem), k + d = 2117 → d < fu →
      ∃ M', itr (f_X8_copies_L2 rf rt) (fun _ _ => none) fu M (nI k) = some M' ∧ (∀ g r i, ¬ (g = 11 ∧ r = rt) → M' g r i = M g r i) ∧ (∀ i, k ≤ i → i < 2117 → M' 11 rt i = M 11 rf i) ∧ (∀ j, (j < k ∨ 2117 ≤ j) → M' 11 rt j = M 11 rt j) := by
    intro d
    induction d with
    | zero =>
      intro k fu M hk hf
      obtain ⟨f, rfl⟩ : ∃ f, fu = f + 1 := ⟨fu - 1, by omega⟩
      refine ⟨M, ?_, fun _ _ _ _ => rfl, fun j a c => by omega, fun _ _ => rfl⟩
      rw [itr_s, f_X8_copies_L2, if_pos (by rw [show (2117 : Int32) = nI 2117 from rfl, nL_le (by omega) (by omega)]; omega)]
    | succ d ih =>
      intro k fu M hk hf
      obtain ⟨f, rfl⟩ : ∃ f, fu = f + 1 := ⟨fu - 1, by omega⟩
      obtain ⟨M', a1, a2, a3, a4⟩ := ih (k + 1) f (st M 11 rt k (M 11 rf k)) (by omega) (by omega)
      refine ⟨M', ?_, fun g r i q => by rw [a2 g r i q, st_get, if_neg (by omega)], fun i a c => ?_, fun j hj => by rw [a4 j (by omega), st_get, if_neg (by omega)]⟩
      · rw [itr_s, f_X8_copies_L2, if_neg (by rw [show (2117 : Int32) = nI 2117 from rfl, nL_le (by omega) (by omega)]; omega), gd_in (by omega) (by omega), gd_in (by omega) (by omega), nL_cl (by omega), bd, bd, nI_1]
        exact a1
      · by_cases e : i = k
        · rw [e, a4 _ (by omega), st_get, if_pos ⟨rfl, rfl, rfl⟩]
        · rw [a3 i (by omega) c, st_get, if_neg (by omega)]
  obtain ⟨M', a1, a2, a3, a4⟩ := lp 2117 0 FU M rfl (by decide)
  exact ⟨M', a1, a2, fun i hi => a3 i (by omega) hi⟩
end HI
