/-! one turn of the law: what it keeps; stops, forcing, dropping out, dropping records -/
def PB (t : Nat) (S : St) : Prop := phi S (S 0 0) (S 0 1) ≤ 64 ∧ S 0 0 + phi S (S 0 0) (S 0 1) ≤ 1 + 2 * t
def JJ (b t : Nat) (M : Mem) (S : St) : Prop := LSt M S ∧ (∃ h P, WC M S h P) ∧ Inv b S ∧ PB t S ∧ M 9 25 1 = 0
def RS (b t : Nat) (x : Option (Int32 × Mem)) : Prop := ∃ M' S', x = some (1, M') ∧ JJ (b + 500) (t + 1) M' S'
section A1
variable {M M1 : Mem} {S T : St} {b t g p n h : Nat} {P : Nat → St}
theorem PB_same (h : PB t S) (e0 : T 0 0 = S 0 0) (e1 : T 0 1 = S 0 1) (er : ∀ f n, f = 9 ∨ f = 10 ∨ f = 14 → T f n = S f n) : PB (t + 1) T := by
  obtain ⟨h1, h2⟩ := h
  have e : phi T (T 0 0) (T 0 1) = phi S (S 0 0) (S 0 1) := by
    rw [e0, e1]
    exact phi_cg (fun n _ => ⟨er 9 n (by omega), er 10 n (by omega), er 14 n (by omega)⟩)
  unfold PB
  rw [e, e0]
  omega
theorem PB_le (h : PB t S) : PB (t + 1) S := PB_same h rfl rfl (fun _ _ _ => rfl)
theorem PB_ext {kd u : Nat} (h : PB t S) (E : EX S T kd g u) (hN : S 0 1 < 32) : PB (t + 1) T := by
  obtain ⟨h1, h2⟩ := h
  obtain ⟨e0, e1, er, -⟩ := E
  have a := phi_ext2 (S := S) (T := T) (F := S 0 0) (N := S 0 1) (fun n hn => ⟨(er n hn).1, (er n hn).2.1, (er n hn).2.2.2.2⟩)
  have c := phi_le T (S 0 0) (S 0 1 + 1)
  unfold PB
  rw [e0, e1]
  omega
theorem PB_n (h : PB t S) : S 0 1 ≤ 64 ∧ S 0 0 + S 0 1 ≤ 1 + 2 * t := by
  obtain ⟨h1, h2⟩ := h
  have := phi_n S (S 0 0) (S 0 1)
  omega
theorem WC_fr (hw : WC M S h P) (e : ∀ i, i ≠ 11 → M1 i = M i) : WC M1 S h P := by
  obtain ⟨hc, h4, o, ho, e1, e2, hp⟩ := hw
  refine ⟨by rw [e 0 (by omega)]; exact hc, h4, o, ho, by rw [e 8 (by omega)]; exact e1, by rw [e 8 (by omega)]; exact e2, fun i hi => ?_⟩
  rw [e _ (by omega)]
  exact hp i hi
/-- the end of a turn that calls the class last -/
theorem fin {x : Option (Int32 × Mem)} {r : Int32 × St} {w : Int32} (hc : CH M1 x r) (hL : LSt M1 r.2) (h9 : M1 9 25 1 = 0) (e : r.1 = w) (hi : Inv (b + 500) r.2) (hp : PB (t + 1) r.2) : RS b t (bP x (fun v M3 => if v = w then some ((1 : Int32), M3) else some ((0 : Int32), M3))) := by
  obtain ⟨M', h', P', e1, e2, e3⟩ := hc
  refine ⟨M', r.2, ?_, LO_fr hL (e2 11 (by omega)), ⟨h', P', e3⟩, hi, hp, by rw [e2 9 (by omega)]; exact h9⟩
  rw [e1, bP_some, if_pos e]
/-- .. and one that is refused -/
theorem fin0 {x : Option (Int32 × Mem)} {r : Int32 × St} (hj : JJ b t M S) (hbb : b + 500 < 2 ^ 27) (hc : CH M x r) (e : r = (-1000002, S)) : RS b t (bP x (fun v M3 => if v = (-1000002 : Int32) then some ((1 : Int32), M3) else some ((0 : Int32), M3))) := by
  subst e
  obtain ⟨j1, j2, j3, j4, j5⟩ := hj
  exact fin hc j1 j5 rfl (Inv_le j3 (by omega) hbb) (PB_le j4)
theorem rem_n (y d : Nat) (hy : y < 2 ^ 31) (h0 : 0 < d) (hd : d < 2 ^ 31) : nI y - nI y / nI d * nI d = nI (y % d) := pk_rem hy h0 hd
theorem gd2 {α : Type} {d : Nat} {x : Option α} (h0 : 0 < d) (hd : d < 2 ^ 31) : gd (¬ nI d = 0) x = x := by
  unfold gd
  rw [if_pos (by rw [nl0, nL_eq (by omega) (by omega)]; omega)]
theorem A_stop (hj : JJ b t M S) (hbb : b + 500 < 2 ^ 27) (q5 : S 0 5 = 0) {y : Nat} (hy : y < 10000000) : RS b t (f_L_acts_L1123 M (nI y)) := by
  obtain ⟨j1, ⟨h, P, j2⟩, j3, j4, j5⟩ := hj
  have hN := PB_n j4
  rw [f_L_acts_L1123, nl2, gd2 (by omega) (by omega), rem_n y 2 (by omega) (by omega) (by omega)]
  obtain ⟨M', h', P', e1, e2, e3⟩ := k_stop j2 j3 (t := y % 2) (by omega)
  obtain ⟨M2, a1, a2, a3⟩ := l_stop (LO_fr j1 (e2 11 (by omega))) j3 hN.1 (t := y % 2) (by omega)
  have es : (aStop S (y % 2)).2 = stp S (y % 2) := by unfold aStop; rw [if_neg (by omega)]
  have ev : (aStop S (y % 2)).1 = nI (S 0 1 - (mst S (y % 2) + 1 - S 0 0)) := by unfold aStop; rw [if_neg (by omega)]; rfl
  refine ⟨M2, stp S (y % 2), ?_, a2, ⟨h', P', by rw [← es]; exact WC_fr e3 a3⟩, by rw [← es]; exact iv_stop j3 _ hbb, ?_, by rw [a3 9 (by omega), e2 9 (by omega)]; exact j5⟩
  · rw [e1, bP_some, gd2 (by omega) (by omega), a1, bP_some, if_pos ev]
  · obtain ⟨v1, v2, -⟩ := stp_v (S := S) (y % 2)
    obtain ⟨m1, m2, m3, m4⟩ := mst_spec j3.2.1 (y % 2)
    have n7 := j3.1.2.2.2.2.2.2.1
    have c := phi_cut S (S 0 0) (mst S (y % 2) + 1 - S 0 0) (S 0 1 - (mst S (y % 2) + 1 - S 0 0))
    rw [show mst S (y % 2) + 1 - S 0 0 + (S 0 1 - (mst S (y % 2) + 1 - S 0 0)) = S 0 1 by omega] at c
    have e : phi (stp S (y % 2)) (stp S (y % 2) 0 0) (stp S (y % 2) 0 1) = phi S (S 0 0) (mst S (y % 2) + 1 - S 0 0) := by
      rw [stp_o (by omega), v1]
      exact phi_cg (fun n _ => ⟨stp_o (by omega), stp_o (by omega), stp_o (by omega)⟩)
    obtain ⟨p1, p2⟩ := j4
    unfold PB
    rw [e, stp_o (by omega)]
    omega
theorem A_force (hj : JJ b t M S) (hbb : b + 500 < 2 ^ 27) (q5 : S 0 5 = 0) : RS b t (bP (f_X7_force M) (fun v51 M52 => bO (f_L_last M52) (fun v53 => bP (f_L_force M52 v53) (fun v54 M55 => (if v51 = v54 then some ((1 : Int32), M55) else some ((0 : Int32), M55)))))) := by
  obtain ⟨j1, ⟨h, P, j2⟩, j3, j4, j5⟩ := hj
  have y0 := j3.1.1 0 0
  have y1 := j3.1.1 0 1
  have hb3 := j3.1.2.2.1
  obtain ⟨M', h', P', e1, e2, e3⟩ := k_force j2 j3
  have j1' := LO_fr j1 (e2 11 (by omega))
  obtain ⟨M2, a1, a2, a3⟩ := l_force (n := S 0 0 + S 0 1 - 1) j1' j3.1.1 (by omega) (by omega)
  have es : aForce S = (nI (S 0 0 + S 0 1 - 1 - S 0 2), frc S (S 0 0 + S 0 1 - 1)) := by unfold aForce; rw [if_neg (by omega)]
  rw [es] at e1 e3
  refine ⟨M2, frc S (S 0 0 + S 0 1 - 1), ?_, ?_, ⟨h', P', WC_fr e3 a3.o⟩, ?_, PB_same j4 (frc_o (by omega)) (frc_o (by omega)) (fun f n hf => frc_o (by omega)), by rw [a3.o 9 (by omega), e2 9 (by omega)]; exact j5⟩
  · rw [e1, bP_some, l_last j1'.1 j3.1.2.2.2.2.1, bO_some, a1, bP_some, if_pos rfl]
  · show LO (fun g => (frc S (S 0 0 + S 0 1 - 1) 0 8).testBit g) _ _
    rw [frc_o (by omega)]
    exact a2
  · have := iv_force j3 hbb
    rw [es] at this
    exact this
theorem cnt8 : ∀ m, m < 256 → ∀ p, p < 8 → m.testBit p = true → (((((((((-1 : Int32) + b01 (m.testBit 0)) + b01 (m.testBit 1)) + b01 (m.testBit 2)) + b01 (m.testBit 3)) + b01 (m.testBit 4)) + b01 (m.testBit 5)) + b01 (m.testBit 6)) + b01 (m.testBit 7)) = nI (pc8 (m &&& (255 - 2 ^ p))) := by decide +kernel
theorem A_dropOut (hj : JJ b t M S) (hbb : b + 500 < 2 ^ 27) (q5 : S 0 5 = 0) {y : Nat} (hy : y < 10000000) : RS b t (f_L_acts_L1152 M (nI y) (-1000002)) := by
  have hj0 := hj
  obtain ⟨j1, ⟨h, P, j2⟩, j3, j4, j5⟩ := hj
  have n9 := j3.1.2.2.2.2.2.2.2.2
  have hb3 := j3.1.2.2.1
  obtain ⟨p, ep⟩ : ∃ p, p = y / 4 % 8 := ⟨_, rfl⟩
  have hp : p < 8 := by omega
  obtain ⟨⟨h0, h00⟩, h1, h2, h3, h4⟩ := j1.2.2.1 p hp
  obtain ⟨m1, m2⟩ := l_mark1 j1.2.2.1 j3.1.1 (by omega) hp (j3.2.2.1 p hp)
  rw [f_L_acts_L1152, nl4, nl8, gd2 (by omega) (by omega), gd2 (by omega) (by omega), pk_div (by omega) (by omega) (by omega), rem_n (y / 4) 8 (by omega) (by omega) (by omega), ← ep, bd, nl2, g6c p 2 hp (by omega), c6 p 2 hp (by omega), h2]
  have no : (S 0 6).testBit p = false ∨ (S 0 7).testBit p = true → RS b t (f_L_acts_L1191 M (-1000002) (nI p)) := fun z => by
    rw [f_L_acts_L1191]
    refine fin0 hj0 hbb (k_drop j2 j3 hp) ?_
    unfold aDrop
    rw [if_pos (Or.inr z)]
  cases q6 : (S 0 6).testBit p
  · rw [if_pos (show b01 false = 0 from rfl)]
    exact no (Or.inl q6)
  · rw [if_neg (show ¬ b01 true = 0 by decide), l_mark j1.2.2.1 hp, bO_some, show (6 : Int32) * nI p + (1 : Int32) = (6 : Int32) * nI p + nI 1 from rfl, g6c p 1 hp (by omega), c6 p 1 hp (by omega), m1]
    cases q7 : (S 0 7).testBit p
    · rw [if_pos (by rw [m2]; exact q7)]
      obtain ⟨S', eS⟩ : ∃ S', S' = up S 0 6 (S 0 6 &&& (255 - 2 ^ p)) := ⟨_, rfl⟩
      have ea : aDrop S p = (nI (pc8 (S 0 6 &&& (255 - 2 ^ p))), S') := by
        unfold aDrop
        rw [if_neg (by rw [q6, q7]; simp [q5]), ← eS]
      have stp : ∀ i n z, i < 8 → itr (f_L_acts_L1214) (fun _ _ _ _ => none) (n + 1) M (nI p) z (nI i) = itr (f_L_acts_L1214) (fun _ _ _ _ => none) n M (nI p) (z + b01 ((S 0 6).testBit i)) (nI (i + 1)) := fun i n z hi => by
        rw [itr_s, f_L_acts_L1214, if_neg (by rw [nl8, nL_le (by omega) (by omega)]; omega), nl2, g6c i 2 hi (by omega), c6 i 2 hi (by omega), (j1.2.2.1 i hi).2.2.1, bd, bd, nI_1]
      rw [show FU = 9991 + 1 + 1 + 1 + 1 + 1 + 1 + 1 + 1 + 1 from rfl, show (0 : Int32) = nI 0 from rfl, stp 0 _ _ (by omega), stp 1 _ _ (by omega), stp 2 _ _ (by omega), stp 3 _ _ (by omega), stp 4 _ _ (by omega), stp 5 _ _ (by omega), stp 6 _ _ (by omega), stp 7 _ _ (by omega), itr_s, f_L_acts_L1214, if_pos (by decide), nl2, g6c p 2 hp (by omega), c6 p 2 hp (by omega), bd, cnt8 _ n9.1 p hp q6]
      have F : FQ R30 M (st M 11 30 (6 * p + 2) 0) := FQ.st FQ.rf rfl
      have hc := k_drop (WC_fr j2 F.o) j3 hp
      rw [ea] at hc
      have so : ∀ f i, ¬ (f = 0 ∧ i = 6) → S' f i = S f i := fun f i a => by rw [eS, up_ne a]
      have b6 := (tclr8 _ n9.1 p hp).2
      refine fin hc ?_ (by rw [F.o 9 (by omega)]; exact j5) rfl (by have := iv_drop j3 hp hbb; rw [ea] at this; exact this) (PB_same j4 (so _ _ (by omega)) (so _ _ (by omega)) (fun f n hf => so _ _ (by omega)))
      obtain ⟨k1, k2, k3, k4, k5⟩ := j1
      show LO (fun g => (S' 0 8).testBit g) _ S'
      rw [so 0 8 (by omega)]
      refine ⟨?_, ?_, fun q hq => ?_, ?_, ?_⟩
      · rw [F 11 28 (by omega)]; exact LG_cg k1 (so _ _ (by omega)) (so _ _ (by omega)) (so _ _ (by omega)) (so _ _ (by omega)) (so _ _ (by omega))
      · rw [F 11 29 (by omega)]; exact LQ_cg k2 (fun f g _ hf => so _ _ (by omega))
      · obtain ⟨c0, c1, c2, c3, c4⟩ := k3 q hq
        have e6 : S' 0 6 = (S 0 6 &&& (255 - 2 ^ p)) := by rw [eS, up_at]
        rw [e6, b6 q hq, so 0 7 (by omega), so 1 q (by omega), so 2 q (by omega), so 3 q (by omega), so 4 q (by omega), so 5 q (by omega), sgr_at _ _ _ _ (6 * q), if_neg (by omega), sgr_at _ _ _ _ (6 * q + 1), if_neg (by omega), sgr_at _ _ _ _ (6 * q + 3), if_neg (by omega), sgr_at _ _ _ _ (6 * q + 4), if_neg (by omega), sgr_at _ _ _ _ (6 * q + 5), if_neg (by omega), sgr_at _ _ _ _ (6 * q + 2)]
        refine ⟨c0, c1, ?_, fun z => c3 (by rw [Bool.and_eq_true] at z; exact z.1), c4⟩
        by_cases e : q = p
        · rw [if_pos (by omega), decide_eq_true e, Bool.not_true, Bool.and_false]; rfl
        · rw [if_neg (by omega), decide_eq_false e, Bool.not_false, Bool.and_true]; exact c2
      · rw [wd_cg (F 11 31 (by omega))]; exact LR_cg k4 (so _ _ (by omega)) (so _ _ (by omega)) (fun f i a c => so _ _ (by omega))
      · rw [F 11 32 (by omega)]; exact LN_cg k5 (so _ _ (by omega)) (fun p _ => so _ _ (by omega))
    · rw [if_neg (by rw [m2, q7]; decide)]
      exact no (Or.inr q7)
/-- moving the records -/
theorem l_mv {e N : Nat} (hN : N ≤ 64) (he : e ≤ N) : ∀ (d k fu : Nat) (M : Mem), k + d = N → e ≤ k → d < fu → M 11 28 1 = nI N →
    ∃ M', itr (f_L_acts_L1018) (fun _ _ _ => none) fu M (nI e) (nI k) = bd (st M' 11 28 0 ((M' 11 28 0) + nI e)) (fun M61 => bd (st M61 11 28 1 ((M61 11 28 1) - nI e)) (fun M62 => bP (f_X7_dropRecords M62) (fun v63 M64 => (if v63 = nI e then some ((1 : Int32), M64) else some ((0 : Int32), M64))))) ∧ FQ (fun r => r = 31) M M' ∧ ∀ j, wd M' j = if k ≤ j + e ∧ j + e < N then wd M (j + e) else wd M j := by
  intro d
  induction d with
  | zero =>
    intro k fu M hk h1 hf h28
    obtain ⟨f, rfl⟩ : ∃ f, fu = f + 1 := ⟨fu - 1, by omega⟩
    refine ⟨M, ?_, FQ.rf, fun j => by rw [if_neg (by omega)]⟩
    rw [itr_s, f_L_acts_L1018, h28, if_pos (by rw [nL_le (by omega) (by omega)]; omega)]
  | succ d ih =>
    intro k fu M hk h1 hf h28
    obtain ⟨f, rfl⟩ : ∃ f, fu = f + 1 := ⟨fu - 1, by omega⟩
    have F : FQ (fun r => r = 31) M (stl M (k - e) (ldl M k)) := FQ.stl FQ.rf rfl
    obtain ⟨M', e1, f1, w1⟩ := ih (k + 1) f (stl M (k - e) (ldl M k)) (by omega) (by omega) (by omega) (by rw [F 11 28 (by omega)]; exact h28)
    refine ⟨M', ?_, F.tr f1, fun j => ?_⟩
    · rw [itr_s, f_L_acts_L1018, h28, if_neg (by rw [nL_le (by omega) (by omega)]; omega), nL_sub h1, gd_in (by omega) (by omega), gd_in (by omega) (by omega), nL_cl (by omega), nL_cl (by omega), bd, bd, nI_1]
      exact e1
    · rw [w1, wd_stl2, wd_stl2]
      by_cases q : k + 1 ≤ j + e ∧ j + e < N
      · rw [if_pos q, if_neg (by omega), if_pos (by omega)]
      · rw [if_neg q]
        by_cases q2 : j = k - e
        · rw [if_pos q2, if_pos (by omega), q2, show k - e + e = k by omega]
        · rw [if_neg q2, if_neg (by omega)]
theorem A_dropRec (hj : JJ b t M S) (hbb : b + 500 < 2 ^ 27) (q5 : S 0 5 = 0) : RS b t (bO (f_L_latest M) (fun v57 => (if v57 = 0 then bP (f_X7_dropRecords M) (fun v70 M71 => (if v70 = (-1000002 : Int32) then some ((1 : Int32), M71) else some ((0 : Int32), M71))) else bO (f_L_drop M) (fun v59 => itr (f_L_acts_L1018 ) (fun _ _ _ => none) FU M v59 v59)))) := by
  have hj0 := hj
  obtain ⟨j1, ⟨h, P, j2⟩, j3, j4, j5⟩ := hj
  have hb3 := j3.1.2.2.1
  have hN := PB_n j4
  have y3 := j3.1.1 0 3
  have hd := drb_le j3.2.1
  obtain ⟨⟨g0, g1, g2, g3, g4⟩, k2, k3, k4, k5⟩ := id j1
  rw [l_latest j1.1 j1.2.2.2.1 j3.1.1 (by omega) hN.1 j3.2.1, bO_some]
  by_cases q : S 0 3 = 0
  · rw [if_pos (by rw [q]; rfl)]
    refine fin0 hj0 hbb (k_dro j2 j3) ?_
    unfold aDro
    rw [if_pos (Or.inr q)]
  · rw [if_neg (by rw [nl0, nL_eq (by omega) (by omega)]; exact q), l_drop j1.1 j1.2.2.2.1 k5 j3.1.1 (by omega) hN.1 j3.2.1, bO_some]
    obtain ⟨Ma, e1, f1, w1⟩ := l_mv hN.1 hd.1 (S 0 1 - drb S) (drb S) FU M (by omega) (Nat.le_refl _) (by show _ < 10000; omega) g1
    have ea : aDro S = (nI (drb S), dro S) := by unfold aDro; rw [if_neg (by omega)]
    have so : ∀ f i, ¬ (f = 0 ∧ (i = 0 ∨ i = 1)) → dro S f i = S f i := fun f i a => by rw [dro, up_ne (by omega), up_ne (by omega)]
    have eF : dro S 0 0 = S 0 0 + drb S := by rw [dro, up_at]
    have eN : dro S 0 1 = S 0 1 - drb S := by rw [dro, up_ne (by omega), up_at]
    have r28 : Ma 11 28 = M 11 28 := f1 11 28 (by omega)
    rw [e1, r28, g0, bd, sgr_at, if_neg (by omega), r28, g1, nI_add, nL_sub hd.1, bd]
    obtain ⟨Mb, eb⟩ : ∃ Mb, Mb = st (st Ma 11 28 0 (nI (S 0 0 + drb S))) 11 28 1 (nI (S 0 1 - drb S)) := ⟨_, rfl⟩
    rw [← eb]
    have fb : FQ R28 Ma Mb := by rw [eb]; exact FQ.st (FQ.st FQ.rf rfl) rfl
    have hc := k_dro (M := Mb) (WC_fr (WC_fr j2 f1.o) fb.o) j3
    rw [ea] at hc
    have lo : ∀ j, Mb 11 28 j = if j = 1 then nI (S 0 1 - drb S) else if j = 0 then nI (S 0 0 + drb S) else M 11 28 j := fun j => by rw [eb, sgr_at, sgr_at, r28]
    refine fin hc ?_ (by rw [fb.o 9 (by omega), f1.o 9 (by omega)]; exact j5) rfl (by have := iv_dro j3 hbb; rw [ea] at this; exact this) ?_
    · show LO (fun g => (dro S 0 8).testBit g) _ (dro S)
      rw [so 0 8 (by omega)]
      refine ⟨⟨?_, ?_, ?_, ?_, ?_⟩, ?_, ?_, fun j hj => ?_, ?_⟩
      · rw [lo, if_neg (by omega), if_pos rfl, eF]
      · rw [lo, if_pos rfl, eN]
      · rw [lo, if_neg (by omega), if_neg (by omega), so _ _ (by omega)]; exact g2
      · rw [lo, if_neg (by omega), if_neg (by omega), so _ _ (by omega)]; exact g3
      · rw [lo, if_neg (by omega), if_neg (by omega), so _ _ (by omega)]; exact g4
      · rw [fb 11 29 (by omega), f1 11 29 (by omega)]; exact LQ_cg k2 (fun f g _ hf => so _ _ (by omega))
      · rw [fb 11 30 (by omega), f1 11 30 (by omega)]; exact LPg_cg k3 (fun f p _ hf => so _ _ (by omega))
      · rw [eN] at hj
        have hj : j < S 0 1 - drb S := hj
        rw [wd_cg (fb 11 31 (by omega)), w1, if_pos (by omega), eF, show S 0 0 + drb S + j = S 0 0 + (j + drb S) by omega]
        exact RF_cg (k4 (j + drb S) (by omega)) (fun f a c => so _ _ (by omega))
      · rw [fb 11 32 (by omega), f1 11 32 (by omega)]; exact LN_cg k5 (so _ _ (by omega)) (fun p _ => so _ _ (by omega))
    · show PB (t + 1) (dro S)
      have c := phi_drop2 S (S 0 0) (drb S) (S 0 1 - drb S)
      rw [show drb S + (S 0 1 - drb S) = S 0 1 by omega] at c
      have e : phi (dro S) (dro S 0 0) (dro S 0 1) = phi S (S 0 0 + drb S) (S 0 1 - drb S) := by
        rw [eF, eN]
        exact phi_cg (fun n _ => ⟨so _ _ (by omega), so _ _ (by omega), so _ _ (by omega)⟩)
      obtain ⟨p1, p2⟩ := j4
      unfold PB
      rw [e, eF]
      omega
end A1
