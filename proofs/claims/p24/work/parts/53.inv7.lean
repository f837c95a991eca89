theorem TI_init {S : St} {l0 : Nat} (hj : JI S) (hp : PI S) (hs : Sm S) (hl : l0 < 16) (h : ∀ g, g < 4 → l0.testBit g = true → OJ S g (S 0 0) (S 0 0 + S 0 1)) (ho : ∀ g, g < 4 → l0.testBit g = true → (S 0 8).testBit g = true ∨ True) : TI S l0 (S 0 0 + S 0 1) (S, l0, (fun _ => false), 0) := by
  refine ⟨⟨hj, hp, hs, by omega, Nat.le_refl _⟩, fun _ _ _ => rfl, fun m m1 m2 => ⟨fun z => (nomatch z), ?_⟩, hl, fun g hg o => ⟨o, ?_⟩, fun g hg o _ => o, fun g hg o => ⟨id, Iff.rfl⟩, fun g hg => ?_⟩
  · rintro ⟨n, n1, n2, -⟩
    have n2 : n < S 0 0 + S 0 1 := n2
    omega
  · obtain ⟨n, n1, n2⟩ := h g hg o
    exact ⟨n, n1.2.1, n1, n2⟩
  · show (S 0 8).testBit g = true ↔ ((S 0 8).testBit g = true ∧ (l0.testBit g = false ∨ l0.testBit g = true))
    cases l0.testBit g <;> simp
theorem Lp_tst {b : Nat} {k : Nat} {x : X4} (h : Lp b x.1) (h1 : x.1 0 0 ≤ k) (h2 : k < x.1 0 0 + x.1 0 1) (hb : b + 1 < 2 ^ 28) : Lp (b + 1) (tst k x).1 := by
  obtain ⟨hB, hb1, hb2, hb3, hs, hw⟩ := id h
  have h' : Lp (b + 1) x.1 := ⟨Bd_le hB (by omega), by omega, hb, by omega, hs, hw⟩
  unfold tst
  split
  · exact h'
  · split
    · exact h'
    · rename_i q3 q5
      split
      · split
        · exact Lp_endg h ((hw k h1 h2).2.1 (by omega)) hb
        · split
          · rename_i q1
            exact Lp_twb h h1 h2 q1.1 hb
          · exact h'
      · exact h'
theorem tst_F (n : Nat) (x : X4) : (tst n x).1 0 0 = x.1 0 0 := by
  unfold tst
  split
  · rfl
  · split
    · rfl
    · split
      · split
        · exact (endg_n (S := x.1) (g := x.1 10 n)).1
        · split
          · exact (twb_n (S := x.1) (n := n)).1
          · rfl
      · rfl
theorem Lp_tlb {lo : Nat} : ∀ (d b : Nat) (x : X4), Lp b x.1 → b + d < 2 ^ 28 → x.1 0 0 = lo + 1 → d ≤ x.1 0 1 → Lp (b + d) (tlb lo d x).1
  | 0, b, x, h, _, _, _ => h
  | d + 1, b, x, h, hb, e0, hd => by
    rw [tlb]
    by_cases q : x.2.1 = 0
    · rw [if_pos q]
      obtain ⟨hB, hb1, hb2, hb3, hs, hw⟩ := h
      exact ⟨Bd_le hB (by omega), by omega, by omega, by omega, hs, hw⟩
    · rw [if_neg q]
      have := Lp_tlb d (b + 1) (tst (lo + d + 1) x) (Lp_tst h (by omega) (by omega) (by omega)) (by omega) (by rw [tst_F]; exact e0) (by have := (tst_N (lo + d + 1) x).1; omega)
      rw [show b + (d + 1) = b + 1 + d by omega]
      exact this
section IZ
variable {S : St} {b g : Nat}
theorem rs1_e {f i : Nat} (h : 5 < f ∨ f = 1 ∨ f = 2 ∨ (f = 0 ∧ i ≠ 6 ∧ i ≠ 7)) : (rs1 S).1 f i = S f i := rs1_n h
/-- the state of a restart behind doing again, and behind taking back -/
theorem rs1_iv (h : Inv b S) (q5 : S 0 5 ≠ 0) : JI (rs1 S).1 ∧ PI (rs1 S).1 ∧ Sm (rs1 S).1 ∧ Bd b (rs1 S).1 ∧ (rs1 S).2 ≤ S 0 1 := by
  obtain ⟨⟨n1, ⟨n2, n2'⟩, n3, n4, n5, n6, n7, n8, n9⟩, hj, hp, hr, hst⟩ := h
  obtain ⟨s6, s7, s8, sD⟩ := hst q5
  obtain ⟨k1, k2, k3⟩ := look_iv hj
  have hj0 := hj
  obtain ⟨⟨w, f1, f2', f3⟩, l0, l1, k3', al, ph, dm⟩ := hj0
  obtain ⟨a1, a2, a3, a4⟩ := rdo_iv (sr := (look S).2) (b := b) (F := S 0 0) (N := S 0 1) (L := S 0 3) (dl := S 0 4) k3 n2' n2 (S 0 1) (S 0 0) (S, 0) rfl rfl rfl rfl w hp n9 n1 (Nat.le_refl _) rfl
  refine ⟨?_, a1, a2, a3, by rw [Nat.zero_add] at a4; exact a4⟩
  exact JI_same hj (rs1_e (by omega)) (rs1_e (by omega)) ⟨rs1_e (by omega), rs1_e (by omega), fun p => rs1_e (by omega)⟩ (fun n => ⟨rs1_e (by omega), rs1_e (by omega), rs1_e (by omega), rs1_e (by omega), rs1_e (by omega)⟩) (by rw [rs1_e (by omega)]; exact Nat.le_refl _) (by rw [rs1_e (by omega)]; exact f3) (fun p hp8 => by rw [rs1_e (by omega), rs1_e (by omega)]; exact dm p hp8)
theorem rs2_iv (h : Inv b S) (q5 : S 0 5 ≠ 0) : ∃ k, TI (rs1 S).1 (look S).1 k (rs2 S) ∧ (rs2 S).2.1 = 0 := by
  obtain ⟨j1, p1, s1, b1, c1⟩ := rs1_iv h q5
  obtain ⟨⟨n1, ⟨n2, n2'⟩, n3, n4, n5, n6, n7, n8, n9⟩, hj, hp, hr, hst⟩ := h
  obtain ⟨k1, k2, k3⟩ := look_iv hj
  have e0 : (rs1 S).1 0 0 = S 0 0 := rs1_e (by omega)
  have e1 : (rs1 S).1 0 1 = S 0 1 := rs1_e (by omega)
  have ti := TI_init (l0 := (look S).1) j1 p1 s1 k1 (fun g hg o => by
    rw [e0, e1]
    exact OJ_cg (fun n _ _ => ⟨rs1_e (by omega), rs1_e (by omega)⟩) ((k2 g hg).mp o)) (fun _ _ _ => Or.inr trivial)
  rw [show (rs1 S).1 0 0 + (rs1 S).1 0 1 = (rs1 S).1 0 0 + S 0 1 by rw [e1]] at ti
  have := TI_tlb (by rw [e0]; exact n5) (S 0 1) _ ti
  rw [e0] at this
  exact this
theorem rs2_F (h : Inv b S) (q5 : S 0 5 ≠ 0) : (rs2 S).1 0 0 = S 0 0 ∧ (rs2 S).1 0 1 ≤ 120 ∧ (rs2 S).1 0 9 = S 0 9 ∧ Lp (b + 120) (rs2 S).1 := by
  obtain ⟨j1, p1, s1, b1, c1⟩ := rs1_iv h q5
  obtain ⟨k, ⟨⟨hj, hp, hs, a1, a2⟩, so, -⟩, -⟩ := rs2_iv h q5
  obtain ⟨⟨n1, ⟨n2, n2'⟩, n3, n4, n5, n6, n7, n8, n9⟩, -⟩ := h
  have e0 : (rs1 S).1 0 0 = S 0 0 := rs1_e (by omega)
  have e1 : (rs1 S).1 0 1 = S 0 1 := rs1_e (by omega)
  refine ⟨(so 0 0 (by omega)).trans e0, ?_, (so 0 9 (by omega)).trans (rs1_e (by omega)), ?_⟩
  · have := hj.2.2.2.2.2.1
    unfold phi at this
    omega
  · have := Lp_tlb (lo := S 0 0 - 1) (S 0 1) b ((rs1 S).1, (look S).1, (fun _ => false), 0) ⟨b1, n2, by omega, by show (rs1 S).1 0 0 + (rs1 S).1 0 1 ≤ b; omega, s1, j1.1.1⟩ (by omega) (by show (rs1 S).1 0 0 = _; omega) (by show _ ≤ (rs1 S).1 0 1; omega)
    obtain ⟨z1, z2, z3, z4, z5, z6⟩ := this
    exact ⟨Bd_le z1 (by omega), by omega, by omega, Nat.le_trans z4 (by omega), z5, z6⟩
theorem iv_rest (h : Inv b S) (hbb : b + 500 < 2 ^ 27) : Inv (b + 500) (aRest S).2 := by
  unfold aRest
  by_cases q5 : S 0 5 = 0
  · rw [if_pos q5]; exact Inv_le h (by omega) hbb
  rw [if_neg q5]
  obtain ⟨j1, p1, s1, b1, c1⟩ := rs1_iv h q5
  obtain ⟨k, ⟨⟨hj, hp, hs, a1, a2⟩, so, tk, hl, lb, oj, ot, op⟩, h0⟩ := rs2_iv h q5
  obtain ⟨rF, rN, r9, lp⟩ := rs2_F h q5
  obtain ⟨⟨n1, ⟨n2, n2'⟩, n3, n4, n5, n6, n7, n8, n9⟩, hjS, hpS, hr, hst⟩ := h
  obtain ⟨s6, s7, s8, sD⟩ := hst q5
  obtain ⟨k1, k2, k3⟩ := look_iv hjS
  obtain ⟨R, eR⟩ : ∃ R, R = (rs2 S).1 := ⟨_, rfl⟩
  obtain ⟨T, eT⟩ : ∃ T, T = up (up (frc R (R 0 0 + R 0 1 - 1)) 0 5 0) 0 9 (S 0 9 + (rs1 S).2) := ⟨_, rfl⟩
  show Inv _ (up (up (frc (rs2 S).1 ((rs2 S).1 0 0 + (rs2 S).1 0 1 - 1)) 0 5 0) 0 9 (S 0 9 + (rs1 S).2))
  rw [← eR] at hj hp hs a2 so oj ot op rF rN lp lb ⊢
  rw [← eT]
  have to : ∀ f i, ¬ (f = 0 ∧ (i = 2 ∨ i = 5 ∨ i = 9)) → T f i = R f i := fun f i a => by rw [eT, up_ne (by omega), up_ne (by omega), frc_o (by omega)]
  have t2 : T 0 2 = R 0 2 + (R 0 0 + R 0 1 - 1 - R 0 2) := by rw [eT]; simp [frc, up]
  have t5 : T 0 5 = 0 := by rw [eT]; simp [up]
  have e0 : (rs1 S).1 0 0 = S 0 0 := rs1_e (by omega)
  have e1 : (rs1 S).1 0 1 = S 0 1 := rs1_e (by omega)
  have hj0 := hj
  obtain ⟨⟨w, f1, f2', f3⟩, l0, l1, k3', al, ph, dm⟩ := hj0
  have hj' : JI T := JI_same hj (to 0 0 (by omega)) (to 0 1 (by omega)) (SL_of (fun f i a => to f i (by omega))) (fun n => ⟨to 9 n (by omega), to 10 n (by omega), to 11 n (by omega), to 12 n (by omega), to 14 n (by omega)⟩) (by omega) (by omega) (fun p hp8 => by rw [to 2 p (by omega)]; have := dm p hp8; omega)
  have r8 : R 0 8 = 0 := by
    have z : ∀ g, g < 4 → (R 0 8).testBit g = false := fun g hg => by
      cases q : (R 0 8).testBit g
      · rfl
      · have := ((op g hg).mp q).1
        rw [rs1_e (by omega), s8, Nat.zero_testBit] at this
        exact nomatch this
    exact bits16 _ hs.2.2.1 (z 0 (by omega)) (z 1 (by omega)) (z 2 (by omega)) (z 3 (by omega))
  have no : ∀ g, g < 4 → ¬ OJ R g (S 0 0) (R 0 0 + R 0 1) := by
    intro g hg z
    cases q : (look S).1.testBit g
    · have y := (ot g hg q).2
      rw [e0] at y
      have y2 := y.mp z
      rw [e1] at y2
      have y3 : OJ S g (S 0 0) (S 0 0 + S 0 1) := OJ_cg (fun n _ _ => ⟨(rs1_e (S := S) (f := 9) (i := n) (by omega)).symm, (rs1_e (S := S) (f := 10) (i := n) (by omega)).symm⟩) y2
      have y4 := (k2 g hg).mpr y3
      rw [q] at y4
      exact nomatch y4
    · have y := oj g hg q
      rw [e0] at y
      have y2 := y z
      rw [h0, Nat.zero_testBit] at y2
      exact nomatch y2
  have n19 := n1 0 9
  refine ⟨Nm_of hj' ?_ (by omega) (by rw [to 0 0 (by omega), to 0 1 (by omega)]; omega) hbb ⟨by rw [to 0 6 (by omega)]; exact hs.1, by rw [to 0 7 (by omega)]; exact hs.2.1, by rw [to 0 8 (by omega)]; exact hs.2.2.1, fun i hi => by rw [to 8 i (by omega)]; exact hs.2.2.2.1 i hi, by rw [t5]; decide⟩, hj', fun p hp8 => ?_, fun _ => ⟨fun g hg => ?_, fun a c p ha hc hp8 hne oa oc => ?_⟩, fun z => absurd t5 z⟩
  · rw [eT]
    have B0 : Bd (b + 500) R := Bd_le lp.1 (by omega)
    have := B0 0 2
    exact Bd_up (Bd_up (Bd_up B0 (by omega)) (by omega)) (by omega)
  · exact PP_of (hp p hp8) (by rw [to 0 6 (by omega)]) (by rw [to 0 7 (by omega)]) (to 2 p (by omega)) (to 4 p (by omega)) (to 5 p (by omega)) (by rw [to 0 0 (by omega), to 0 1 (by omega)]; exact Nat.le_refl _) (fun z => by rw [to 0 0 (by omega)]; exact ((hp p hp8).2.2 z).1) (fun z y => by rw [to 0 3 (by omega)] at y; rw [to 0 4 (by omega)]; exact ((hp p hp8).2.2 z).2.2 y)
  · rw [to 0 8 (by omega), r8, Nat.zero_testBit]
    refine ⟨fun z => (nomatch z), fun z => absurd ?_ (no g hg)⟩
    rw [to 0 0 (by omega), to 0 1 (by omega), rF] at z
    rw [rF]
    exact OJ_cg (fun n _ _ => ⟨(to 9 n (by omega)).symm, (to 10 n (by omega)).symm⟩) z
  · rw [to 0 8 (by omega), r8, Nat.zero_testBit] at oa
    exact nomatch oa
theorem pw4 : ∀ g, g < 4 → 2 ^ g < 16 ∧ ((2 ^ g) &&& (255 - 2 ^ g)) = 0 ∧ ∀ o, o < 4 → (2 ^ g).testBit o = decide (o = g) := by decide +kernel
/-- taking one group back, as the loop over losers does it -/
theorem tlb_tbk {lo : Nat} (hk : K3 S) (hF : S 0 0 = lo + 1) (hw : WF S) (hg : g < 4) (hg1 : LB S g (S 0 0) (S 0 0 + S 0 1) (S 6 g)) (hg2 : S 9 (S 6 g) = 0) (hg3 : ∀ n, S 6 g < n → n < S 0 0 + S 0 1 → S 9 n = 3 → S 10 n ≠ g) : ∀ (d : Nat) (T : St) (tk : Nat → Bool) (c : Nat), S 6 g + d < S 0 0 + S 0 1 → (∀ n, n < S 0 0 + S 0 1 → T 9 n = S 9 n ∧ T 10 n = S 10 n ∧ T 14 n = S 14 n) → T 0 0 = S 0 0 → S 0 1 ≤ T 0 1 → (∀ m, S 6 g < m → m < S 0 0 + S 0 1 → S 9 m = 1 → S 10 m = g → tk m = false) →
    (tlb lo (S 6 g + d - lo) (T, 2 ^ g, tk, c)).1 = endg (tbk g (S 6 g) d T) g ∧ (tlb lo (S 6 g + d - lo) (T, 2 ^ g, tk, c)).2.2.2 = c + cnt (fun n => S 9 n = 1 ∧ S 10 n = g) (S 6 g + 1) d
  | 0, T, tk, c, h1, h2, e0, e1, h3 => by
    obtain ⟨p1, p2, p3⟩ := pw4 g hg
    have b1 := hg1.1
    have b2 := hg1.2.1
    have b3 := hg1.2.2.1.2
    obtain ⟨r1, r2, r3⟩ := h2 _ b2
    have ne : ¬ (2 ^ g = 0) := by
      have := p3 g hg
      intro z
      rw [z, Nat.zero_testBit] at this
      simp at this
    rw [show S 6 g + 0 - lo = (S 6 g - lo - 1) + 1 by omega, tlb, if_neg ne, show lo + (S 6 g - lo - 1) + 1 = S 6 g by omega]
    have et : tst (S 6 g) (T, 2 ^ g, tk, c) = (endg T g, 0, tk, c) := by
      unfold tst
      dsimp only
      rw [if_neg (show ¬ (T 9 (S 6 g) = 3) by omega), if_neg (show ¬ (T 9 (S 6 g) = 5) by omega), if_pos (show Nat.testBit (2 ^ g) (T 10 (S 6 g)) = true by rw [r2, b3]; exact (p3 g hg).trans (decide_eq_true rfl)), if_pos (show T 9 (S 6 g) = 0 by omega)]
      show (endg T (T 10 (S 6 g)), 2 ^ g &&& (255 - 2 ^ T 10 (S 6 g)), tk, c) = _
      rw [r2, b3, p2]
    rw [et]
    have fin : ∀ e, tlb lo e (endg T g, 0, tk, c) = (endg T g, 0, tk, c) := by
      intro e
      cases e with
      | zero => rfl
      | succ e => rw [tlb, if_pos rfl]
    rw [fin]
    exact ⟨rfl, rfl⟩
  | d + 1, T, tk, c, h1, h2, e0, e1, h3 => by
    obtain ⟨p1, p2, p3⟩ := pw4 g hg
    have b1 := hg1.1
    have nbd := hg1.2.2.2 (S 6 g + d + 1) (by omega) (by omega)
    obtain ⟨r1, r2, r3⟩ := h2 (S 6 g + d + 1) (by omega)
    obtain ⟨w1, w2, w3⟩ := hw (S 6 g + d + 1) (by omega) (by omega)
    have ne : ¬ (2 ^ g = 0) := by
      have := p3 g hg
      intro z
      rw [z, Nat.zero_testBit] at this
      simp at this
    have ec := cnt_add (fun n => S 9 n = 1 ∧ S 10 n = g) (S 6 g + 1) d 1
    have e1' : cnt (fun n => S 9 n = 1 ∧ S 10 n = g) (S 6 g + 1 + d) 1 = cI (S 9 (S 6 g + d + 1) = 1 ∧ S 10 (S 6 g + d + 1) = g) := by
      rw [cnt, cnt, Nat.zero_add]
      congr 1
      rw [show S 6 g + 1 + d + 0 = S 6 g + d + 1 by omega]
    rw [e1'] at ec
    rw [show S 6 g + (d + 1) - lo = (S 6 g + d - lo) + 1 by omega, tlb, if_neg ne, show lo + (S 6 g + d - lo) + 1 = S 6 g + d + 1 by omega, tbk, ec]
    by_cases k3 : S 9 (S 6 g + d + 1) = 3
    · have et : tst (S 6 g + d + 1) (T, 2 ^ g, tk, c) = (T, 2 ^ g, (fun m => tk m || decide (m = T 14 (S 6 g + d + 1))), c) := by
        unfold tst
        dsimp only
        rw [if_pos (show T 9 (S 6 g + d + 1) = 3 by omega)]
      rw [et, if_neg (by omega), cI_0 (by omega), Nat.add_zero]
      refine tlb_tbk hk hF hw hg hg1 hg2 hg3 d T _ c (by omega) h2 e0 e1 (fun m m1 m2 m3 m4 => ?_)
      show (tk m || decide (m = T 14 (S 6 g + d + 1))) = false
      rw [h3 m m1 m2 m3 m4, r3]
      refine decide_eq_false (fun z => ?_)
      have y := (hk (S 6 g + d + 1) (by omega) (by omega) k3).2 (by omega)
      exact hg3 (S 6 g + d + 1) (by omega) (by omega) k3 (by rw [← y.2, ← z]; exact m4)
    · by_cases k5 : S 9 (S 6 g + d + 1) = 5
      · have et : tst (S 6 g + d + 1) (T, 2 ^ g, tk, c) = (T, 2 ^ g, tk, c) := by
          unfold tst
          dsimp only
          rw [if_neg (show ¬ T 9 (S 6 g + d + 1) = 3 by omega), if_pos (show T 9 (S 6 g + d + 1) = 5 by omega)]
        rw [et, if_neg (by omega), cI_0 (by omega), Nat.add_zero]
        exact tlb_tbk hk hF hw hg hg1 hg2 hg3 d T _ c (by omega) h2 e0 e1 h3
      · have ow := w2 k5
        by_cases kw : S 9 (S 6 g + d + 1) = 1 ∧ S 10 (S 6 g + d + 1) = g
        · have et : tst (S 6 g + d + 1) (T, 2 ^ g, tk, c) = (twb T (S 6 g + d + 1), 2 ^ g, tk, c + 1) := by
            unfold tst
            dsimp only
            rw [if_neg (show ¬ T 9 (S 6 g + d + 1) = 3 by omega), if_neg (show ¬ T 9 (S 6 g + d + 1) = 5 by omega), if_pos (show Nat.testBit (2 ^ g) (T 10 (S 6 g + d + 1)) = true by rw [r2, kw.2]; exact (p3 g hg).trans (decide_eq_true rfl)), if_neg (show ¬ T 9 (S 6 g + d + 1) = 0 by omega), if_pos (show T 9 (S 6 g + d + 1) = 1 ∧ tk (S 6 g + d + 1) = false from ⟨by omega, h3 _ (by omega) (by omega) kw.1 kw.2⟩)]
          rw [et, if_pos (by omega), cI_1 kw]
          have tn := twb_n (S := T) (n := S 6 g + d + 1)
          have := tlb_tbk hk hF hw hg hg1 hg2 hg3 d (twb T (S 6 g + d + 1)) tk (c + 1) (by omega) (fun n hn => ?_) (by rw [tn.1]; exact e0) (by rw [tn.2]; omega) h3
          · refine ⟨this.1, by rw [this.2]; omega⟩
          · obtain ⟨x1, x2, x3⟩ := h2 n hn
            obtain ⟨y1, y2, y3, y4, y5, y6⟩ := app_r (S := T) (a1 := 3) (a2 := T 10 (S 6 g + d + 1)) (a3 := T 11 (S 6 g + d + 1)) (a4 := val T (T 11 (S 6 g + d + 1))) (a5 := T 12 (S 6 g + d + 1)) (a6 := S 6 g + d + 1) (n := n)
            have e : ¬ (n = T 0 0 + T 0 1) := by omega
            rw [if_neg e] at y1 y2 y6
            unfold twb
            rw [put_o (by omega), put_o (by omega), put_o (by omega), y1, y2, y6]
            exact ⟨x1, x2, x3⟩
        · have et : tst (S 6 g + d + 1) (T, 2 ^ g, tk, c) = (T, 2 ^ g, tk, c) := by
            unfold tst
            dsimp only
            rw [if_neg (show ¬ T 9 (S 6 g + d + 1) = 3 by omega), if_neg (show ¬ T 9 (S 6 g + d + 1) = 5 by omega)]
            by_cases q : S 10 (S 6 g + d + 1) = g
            · have n0 : S 9 (S 6 g + d + 1) ≠ 0 := fun z => nbd ⟨Or.inl z, q⟩
              have n1 : S 9 (S 6 g + d + 1) ≠ 1 := fun z => kw ⟨z, q⟩
              rw [if_neg (show ¬ T 9 (S 6 g + d + 1) = 0 by omega), if_neg (show ¬ (T 9 (S 6 g + d + 1) = 1 ∧ tk (S 6 g + d + 1) = false) from fun z => n1 (by omega))]
              exact ite_self _
            · rw [if_neg (show ¬ Nat.testBit (2 ^ g) (T 10 (S 6 g + d + 1)) = true by rw [r2]; exact fun z => q (of_decide_eq_true ((p3 _ ow).symm.trans z)))]
          rw [et, if_neg (by rw [r1, r2]; exact kw), cI_0 kw, Nat.add_zero]
          exact tlb_tbk hk hF hw hg hg1 hg2 hg3 d T _ c (by omega) h2 e0 e1 h3
/-- the whole of it: the loop over losers with the one group -/
theorem take_eq (h : Inv b S) (q5 : S 0 5 = 0) (hg : g < 4) (o : (S 0 8).testBit g = true) : (tlb (S 0 0 - 1) (S 0 1) (S, 2 ^ g, (fun _ => false), 0)).1 = endg (tbk g (S 6 g) (S 0 0 + S 0 1 - 1 - S 6 g) S) g ∧ (tlb (S 0 0 - 1) (S 0 1) (S, 2 ^ g, (fun _ => false), 0)).2.2.2 = S 7 g := by
  obtain ⟨⟨n1, ⟨n2, n2'⟩, n3, n4, n5, n6, n7, n8, n9⟩, hj, hp, hr, hst⟩ := h
  obtain ⟨g1, g2, g3, g4, g5⟩ := ((hr q5).1 g hg).1 o
  have b1 := g1.1
  have b2 := g1.2.1
  have := tlb_tbk (S := S) (g := g) (lo := S 0 0 - 1) hj.2.2.2.1 (by omega) hj.1.1 hg g1 g2 g4 (S 0 0 + S 0 1 - 1 - S 6 g) S (fun _ => false) 0 (by omega) (fun _ _ => ⟨rfl, rfl, rfl⟩) rfl (Nat.le_refl _) (fun _ _ _ _ _ => rfl)
  rw [show S 6 g + (S 0 0 + S 0 1 - 1 - S 6 g) - (S 0 0 - 1) = S 0 1 by omega] at this
  refine ⟨this.1, ?_⟩
  rw [this.2, g5, Nat.zero_add]
  have ec := cnt_add (fun n => S 9 n = 1 ∧ S 10 n = g) (S 6 g) 1 (S 0 0 + S 0 1 - 1 - S 6 g)
  rw [show 1 + (S 0 0 + S 0 1 - 1 - S 6 g) = S 0 0 + S 0 1 - S 6 g by omega] at ec
  rw [ec, cnt, cnt, cI_0 (by rw [Nat.add_zero, g2]; omega)]
  omega
theorem take_TI (h : Inv b S) (q5 : S 0 5 = 0) (hg : g < 4) (o : (S 0 8).testBit g = true) : ∃ k, TI S (2 ^ g) k (tlb (S 0 0 - 1) (S 0 1) (S, 2 ^ g, (fun _ => false), 0)) ∧ (tlb (S 0 0 - 1) (S 0 1) (S, 2 ^ g, (fun _ => false), 0)).2.1 = 0 := by
  obtain ⟨⟨n1, ⟨n2, n2'⟩, n3, n4, n5, n6, n7, n8, n9⟩, hj, hp, hr, hst⟩ := h
  obtain ⟨p1, p2, p3⟩ := pw4 g hg
  have ti := TI_init (l0 := 2 ^ g) hj hp n9 p1 (fun g' hg' z => by
    rw [p3 g' hg'] at z
    have z : g' = g := of_decide_eq_true z
    rw [z]
    obtain ⟨g1, g2, -⟩ := ((hr q5).1 g hg).1 o
    exact ⟨_, g1, g2⟩) (fun _ _ _ => Or.inr trivial)
  exact TI_tlb n5 (S 0 1) _ ti
theorem iv_take (h : Inv b S) (hg : g < 4) (hbb : b + 500 < 2 ^ 27) : Inv (b + 500) (aTake S g).2 := by
  unfold aTake
  by_cases q1 : S 0 5 ≠ 0 ∨ (S 0 8).testBit g = false
  · rw [if_pos q1]; exact Inv_le h (by omega) hbb
  rw [if_neg q1]
  by_cases q2 : 60 < S 0 1 + (S 7 g + 1)
  · rw [if_pos q2]; exact Inv_le h (by omega) hbb
  rw [if_neg q2]
  have q3 : S 0 5 = 0 := by
    by_cases z : S 0 5 = 0
    · exact z
    · exact absurd (Or.inl z) q1
  have q4 : (S 0 8).testBit g = true := by
    cases z : (S 0 8).testBit g
    · exact absurd (Or.inr z) q1
    · rfl
  have te := (take_eq h q3 hg q4).1
  obtain ⟨k, ⟨⟨hj, hp, hs, a1, a2⟩, so, tk, hl, lb, oj, ot, op⟩, h0⟩ := take_TI h q3 hg q4
  show Inv _ (endg (tbk g (S 6 g) (S 0 0 + S 0 1 - 1 - S 6 g) S) g)
  rw [← te]
  obtain ⟨⟨n1, ⟨n2, n2'⟩, n3, n4, n5, n6, n7, n8, n9⟩, hjS, hpS, hr, hst⟩ := h
  obtain ⟨r1, r2⟩ := hr q3
  obtain ⟨p1, p2, p3⟩ := pw4 g hg
  have lp := Lp_tlb (lo := S 0 0 - 1) (S 0 1) b (S, 2 ^ g, (fun _ => false), 0) ⟨n1, n2, by omega, n2', n9, hjS.1.1⟩ (by omega) (by show S 0 0 = _; omega) (Nat.le_refl _)
  obtain ⟨R, eR⟩ : ∃ R, R = tlb (S 0 0 - 1) (S 0 1) (S, 2 ^ g, (fun _ => false), 0) := ⟨_, rfl⟩
  rw [← eR] at hj hp hs a2 so oj ot op lp h0 ⊢
  have e0 : R.1 0 0 = S 0 0 := so 0 0 (by omega)
  have e5 : R.1 0 5 = S 0 5 := so 0 5 (by omega)
  have lp4 := lp.2.2.2.1
  refine ⟨Nm_of hj (Bd_le lp.1 (by omega)) (by omega) (by omega) hbb hs, hj, hp, fun _ => ⟨fun g' hg' => ?_, fun a c p ha hc hp8 hne oa oc => ?_⟩, fun z => absurd (e5.trans q3) z⟩
  · rw [op g' hg', h0, Nat.zero_testBit, p3 g' hg', e0]
    by_cases e : g' = g
    · rw [decide_eq_true e]
      refine ⟨fun z => by simp at z, fun z => ?_⟩
      have y := oj g' hg' (by rw [p3 g' hg', decide_eq_true e]) (by rw [e0]; exact z)
      rw [h0, Nat.zero_testBit] at y
      exact nomatch y
    · rw [decide_eq_false e]
      have y := ot g' hg' (by rw [p3 g' hg', decide_eq_false e])
      rw [e0] at y
      exact ⟨fun z => y.1 ((r1 g' hg').1 z.1), fun z => ⟨(r1 g' hg').2 (y.2.mp z), Or.inl rfl⟩⟩
  · have za := ((op a ha).mp oa).1
    have zc := ((op c hc).mp oc).1
    rw [so 8 a (by omega), so 8 c (by omega)]
    exact r2 a c p ha hc hp8 hne za zc
end IZ
