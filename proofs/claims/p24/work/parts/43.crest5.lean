section CR5
variable {j b : Nat} {M : Mem} {S : St}
theorem endg_n {g : Nat} : endg S g 0 0 = S 0 0 ∧ endg S g 0 1 = S 0 1 + 1 := by
  unfold endg lev
  simp [up, app]
theorem Lp_endg (h : Lp b S) {g : Nat} (hg : g < 4) (hb : b + 1 < 2 ^ 28) : Lp (b + 1) (endg S g) := by
  obtain ⟨hB, hb1, hb2, hb3, hs, hw⟩ := h
  have B1 : Bd (b + 1) (app S 4 g 0 0 0 0) := Bd_app hB (by omega) (by omega) (by omega) (by omega) (by omega) (by omega) (by omega)
  have s1 := Sm_app (a1 := 4) (a2 := g) (a3 := 0) (a4 := 0) (a5 := 0) (a6 := 0) hs
  have w1 : WF (app S 4 g 0 0 0 0) := WF_app hw (by omega) (fun _ => hg) (fun h => by omega)
  have s3 := s1.2.2.1
  have e1 : app S 4 g 0 0 0 0 0 8 = S 0 8 := app_o (by omega) (by omega)
  have t := (tset4 (S 0 8) hs.2.2.1 g hg).2
  refine ⟨?_, by omega, by omega, ?_, ?_, ?_⟩
  · unfold endg lev
    exact Bd_up B1 (by rw [e1]; omega)
  · have n := endg_n (S := S) (g := g)
    rw [n.1, n.2]; omega
  · obtain ⟨a1, a2, a3, a4, a5⟩ := s1
    unfold endg lev
    refine ⟨by simpa [up] using a1, by simpa [up] using a2, ?_, fun g' hg' => by simpa [up] using a4 g' hg', by simpa [up] using a5⟩
    rw [e1, up_at]
    exact t
  · intro n h1 h2
    have e : ∀ f i, f ≠ 0 → endg S g f i = app S 4 g 0 0 0 0 f i := by
      intro f i hf
      unfold endg lev
      simp [up, hf]
    have e0 := endg_n (S := S) (g := g)
    rw [e _ _ (by omega), e _ _ (by omega), e _ _ (by omega)]
    exact w1 n (by rw [app_F]; omega) (by rw [app_F, app_N]; omega)
theorem tst_N (n : Nat) (x : St × Nat × (Nat → Bool) × Nat) : x.1 0 1 ≤ (tst n x).1 0 1 ∧ (tst n x).1 0 1 ≤ x.1 0 1 + 1 := by
  unfold tst
  split
  · exact ⟨Nat.le_refl _, Nat.le_succ _⟩
  · split
    · exact ⟨Nat.le_refl _, Nat.le_succ _⟩
    · split
      · split
        · show x.1 0 1 ≤ endg x.1 (x.1 10 n) 0 1 ∧ endg x.1 (x.1 10 n) 0 1 ≤ x.1 0 1 + 1
          rw [endg_n.2]; omega
        · split
          · show x.1 0 1 ≤ twb x.1 n 0 1 ∧ twb x.1 n 0 1 ≤ x.1 0 1 + 1
            rw [twb_n.2]; omega
          · exact ⟨Nat.le_refl _, Nat.le_succ _⟩
      · exact ⟨Nat.le_refl _, Nat.le_succ _⟩
theorem tlb_mono (lo : Nat) : ∀ (d : Nat) (x : St × Nat × (Nat → Bool) × Nat), x.1 0 1 ≤ (tlb lo d x).1 0 1
  | 0, x => Nat.le_refl _
  | d + 1, x => by
    rw [tlb]
    split
    · exact Nat.le_refl _
    · exact Nat.le_trans (tst_N _ x).1 (tlb_mono lo d _)
/-- one turn of the loop over losers -/
theorem cl_tl (hj : j ≠ 7) : ∀ (d fu b : Nat) (x : St × Nat × (Nat → Bool) × Nat) (M : Mem) (lo : Nat), RC (M j) x.1 → Lp b x.1 → b + d < 2 ^ 28 → x.1 0 0 = lo + 1 → d ≤ x.1 0 1 → (tlb lo d x).1 0 1 ≤ 128 → d < fu → x.2.1 < 16 → Tk M (lo + 1) x.2.2.1 → M 7 20 5 = nI x.2.2.2 →
    ∃ M', itr (f_X5_takeLosersBack_L43 j) (fun _ _ _ => none) fu M (nI x.2.1) (nI (lo + d)) = some M' ∧ RC (M' j) (tlb lo d x).1 ∧ Lp (b + d) (tlb lo d x).1 ∧ (tlb lo d x).1 0 0 = lo + 1 ∧ (tlb lo d x).1 0 1 ≤ x.1 0 1 + d ∧ x.1 0 1 ≤ (tlb lo d x).1 0 1 ∧ M' 7 20 5 = nI (tlb lo d x).2.2.2 ∧ (∀ i, i ≠ j → i ≠ 7 → M' i = M i) ∧ (∀ i, i ≠ 5 → M' 7 20 i = M 7 20 i) := by
  intro d
  induction d with
  | zero =>
    intro fu b x M lo h hl hb e0 hd hN hf hx hT h5
    obtain ⟨f, rfl⟩ : ∃ f, fu = f + 1 := ⟨fu - 1, by omega⟩
    have hb2 := hl.2.2.1
    have hB := hl.1 0 0
    refine ⟨M, ?_, h, hl, e0, by show x.1 0 1 ≤ _; omega, by show _ ≤ x.1 0 1; omega, h5, fun _ _ _ => rfl, fun _ _ => rfl⟩
    rw [itr_s, f_X5_takeLosersBack_L43, if_pos (by rw [h.1.1, nL_lt (by omega) (by omega)]; omega)]
  | succ d ih =>
    intro fu b x M lo h hl hb e0 hd hN hf hx hT h5
    obtain ⟨f, rfl⟩ : ∃ f, fu = f + 1 := ⟨fu - 1, by omega⟩
    obtain ⟨hB, hb1, hb2, hb3, hs, hw⟩ := id hl
    have hB0 := hB 0 0
    have hB1 := hB 0 1
    have hN0 := tlb_mono lo (d + 1) x
    rw [itr_s, f_X5_takeLosersBack_L43, if_neg (by rw [h.1.1, nL_lt (by omega) (by omega)]; omega)]
    by_cases qz : x.2.1 = 0
    · have et : tlb lo (d + 1) x = x := by rw [tlb, if_pos qz]
      rw [if_pos (by rw [qz]; rfl), et]
      exact ⟨M, rfl, h, ⟨Bd_le hB (by omega), by omega, by omega, by omega, hs, hw⟩, e0, by omega, by omega, h5, fun _ _ _ => rfl, fun _ _ => rfl⟩
    · have et : tlb lo (d + 1) x = tlb lo d (tst (lo + d + 1) x) := by rw [tlb, if_neg qz]
      have hN1 : (tlb lo d (tst (lo + d + 1) x)).1 0 1 ≤ 128 := by rw [← et]; exact hN
      have hN2 := tlb_mono lo d (tst (lo + d + 1) x)
      rw [if_neg (by rw [nl0, nL_eq (by omega) (by omega)]; exact qz), et]
      have n1 : x.1 0 0 ≤ lo + d + 1 := by omega
      have n2 : lo + d + 1 < x.1 0 0 + x.1 0 1 := by omega
      obtain ⟨w1, w2, w3⟩ := hw _ n1 n2
      obtain ⟨r1, r2, r3, r4, r5, r6⟩ := h.2.2.2 (lo + d + 1 - x.1 0 0) (by omega)
      rw [show x.1 0 0 + (lo + d + 1 - x.1 0 0) = lo + d + 1 by omega] at r1 r2 r6
      have h14 := hB 14 (lo + d + 1)
      rw [show lo + (d + 1) = lo + d + 1 by omega, cl_atI h hB (by omega) (by omega) (by omega) n1 n2, bO, cl_atI h hB (by omega) (by omega) (by omega) n1 n2, bO, r1, r2]
      have cont : ∀ (M1 : Mem), RC (M1 j) (tst (lo + d + 1) x).1 → Lp (b + 1) (tst (lo + d + 1) x).1 → (tst (lo + d + 1) x).1 0 0 = lo + 1 → x.1 0 1 ≤ (tst (lo + d + 1) x).1 0 1 → (tst (lo + d + 1) x).1 0 1 ≤ x.1 0 1 + 1 → (tst (lo + d + 1) x).2.1 < 16 → Tk M1 (lo + 1) (tst (lo + d + 1) x).2.2.1 → M1 7 20 5 = nI (tst (lo + d + 1) x).2.2.2 → (∀ i, i ≠ j → i ≠ 7 → M1 i = M i) → (∀ i, i ≠ 5 → M1 7 20 i = M 7 20 i) →
          ∃ M', f_X5_takeLosersBack_L205 j (itr (f_X5_takeLosersBack_L43 j) (fun _ _ _ => none) f) M1 (nI (tst (lo + d + 1) x).2.1) (nI (lo + d + 1)) = some M' ∧ RC (M' j) (tlb lo d (tst (lo + d + 1) x)).1 ∧ Lp (b + (d + 1)) (tlb lo d (tst (lo + d + 1) x)).1 ∧ (tlb lo d (tst (lo + d + 1) x)).1 0 0 = lo + 1 ∧ (tlb lo d (tst (lo + d + 1) x)).1 0 1 ≤ x.1 0 1 + (d + 1) ∧ x.1 0 1 ≤ (tlb lo d (tst (lo + d + 1) x)).1 0 1 ∧ M' 7 20 5 = nI (tlb lo d (tst (lo + d + 1) x)).2.2.2 ∧ (∀ i, i ≠ j → i ≠ 7 → M' i = M i) ∧ (∀ i, i ≠ 5 → M' 7 20 i = M 7 20 i) := by
        intro M1 c1 c2 c3 c4 c5 c6 c7 c8 c9 c10
        obtain ⟨M', a1, a2, a3, a4, a5, a6, a7, a8, a9⟩ := ih f (b + 1) (tst (lo + d + 1) x) M1 lo c1 c2 (by omega) c3 (by omega) hN1 (by omega) c6 c7 c8
        refine ⟨M', ?_, a2, by rw [show b + (d + 1) = b + 1 + d by omega]; exact a3, a4, by omega, by omega, a7, fun i q1 q2 => (a8 i q1 q2).trans (c9 i q1 q2), fun i q => (a9 i q).trans (c10 i q)⟩
        rw [f_X5_takeLosersBack_L205, bd, show nI (lo + d + 1) + (-1 : Int32) = nI (lo + d) from pk_m1 _]
        exact a1
      have idc : tst (lo + d + 1) x = x → ∃ M', f_X5_takeLosersBack_L205 j (itr (f_X5_takeLosersBack_L43 j) (fun _ _ _ => none) f) M (nI x.2.1) (nI (lo + d + 1)) = some M' ∧ RC (M' j) (tlb lo d (tst (lo + d + 1) x)).1 ∧ Lp (b + (d + 1)) (tlb lo d (tst (lo + d + 1) x)).1 ∧ (tlb lo d (tst (lo + d + 1) x)).1 0 0 = lo + 1 ∧ (tlb lo d (tst (lo + d + 1) x)).1 0 1 ≤ x.1 0 1 + (d + 1) ∧ x.1 0 1 ≤ (tlb lo d (tst (lo + d + 1) x)).1 0 1 ∧ M' 7 20 5 = nI (tlb lo d (tst (lo + d + 1) x)).2.2.2 ∧ (∀ i, i ≠ j → i ≠ 7 → M' i = M i) ∧ (∀ i, i ≠ 5 → M' 7 20 i = M 7 20 i) := by
        intro e
        have := cont M (by rw [e]; exact h) (by rw [e]; exact ⟨Bd_le hB (by omega), by omega, by omega, by omega, hs, hw⟩) (by rw [e]; exact e0) (by rw [e]; omega) (by rw [e]; omega) (by rw [e]; exact hx) (by rw [e]; exact hT) (by rw [e]; exact h5) (fun _ _ _ => rfl) (fun _ _ => rfl)
        rw [e] at this ⊢
        exact this
      -- a record of the kind 3
      have K3 : x.1 9 (lo + d + 1) = 3 → ∀ (z y6 : Int32), ∃ M', f_X5_takeLosersBack_L106 j (itr (f_X5_takeLosersBack_L43 j) (fun _ _ _ => none) f) M (nI x.2.1) (nI (lo + d + 1)) (nI 3) y6 z = some M' ∧ RC (M' j) (tlb lo d (tst (lo + d + 1) x)).1 ∧ Lp (b + (d + 1)) (tlb lo d (tst (lo + d + 1) x)).1 ∧ (tlb lo d (tst (lo + d + 1) x)).1 0 0 = lo + 1 ∧ (tlb lo d (tst (lo + d + 1) x)).1 0 1 ≤ x.1 0 1 + (d + 1) ∧ x.1 0 1 ≤ (tlb lo d (tst (lo + d + 1) x)).1 0 1 ∧ M' 7 20 5 = nI (tlb lo d (tst (lo + d + 1) x)).2.2.2 ∧ (∀ i, i ≠ j → i ≠ 7 → M' i = M i) ∧ (∀ i, i ≠ 5 → M' 7 20 i = M 7 20 i) := by
        intro q z y6
        have ets : tst (lo + d + 1) x = (x.1, x.2.1, (fun m => x.2.2.1 m || decide (m = x.1 14 (lo + d + 1))), x.2.2.2) := by
          unfold tst
          rw [if_pos q]
        obtain ⟨M1, a1, a2, a3, a4⟩ := cl_note (M := M) (F := lo + 1) (t := x.1 14 (lo + d + 1)) (by omega) (by omega) hT
        rw [f_X5_takeLosersBack_L106, if_pos (show nI 3 = (3 : Int32) from rfl), cl_atI h hB (by omega) (by omega) (by omega) n1 n2, bO, r6, h.1.1, e0, a1, bO]
        have := cont M1 (by rw [ets, a3 j hj]; exact h) (by rw [ets]; exact ⟨Bd_le hB (by omega), by omega, by omega, by show x.1 0 0 + x.1 0 1 ≤ _; omega, hs, hw⟩) (by rw [ets]; exact e0) (by rw [ets]; exact Nat.le_refl _) (by rw [ets]; show x.1 0 1 ≤ _; omega) (by rw [ets]; exact hx) (by rw [ets]; exact a2) (by rw [ets, a4]; exact h5) (fun i _ q2 => a3 i q2) (fun i _ => a4 i)
        rw [ets] at this ⊢
        exact this
      have hgs : ∀ (q3 : x.1 9 (lo + d + 1) ≠ 3) (y6 : Int32), tst (lo + d + 1) x = x → ∃ M', f_X5_takeLosersBack_L105 j (itr (f_X5_takeLosersBack_L43 j) (fun _ _ _ => none) f) M (nI x.2.1) (nI (lo + d + 1)) (nI (x.1 9 (lo + d + 1))) y6 = some M' ∧ RC (M' j) (tlb lo d (tst (lo + d + 1) x)).1 ∧ Lp (b + (d + 1)) (tlb lo d (tst (lo + d + 1) x)).1 ∧ (tlb lo d (tst (lo + d + 1) x)).1 0 0 = lo + 1 ∧ (tlb lo d (tst (lo + d + 1) x)).1 0 1 ≤ x.1 0 1 + (d + 1) ∧ x.1 0 1 ≤ (tlb lo d (tst (lo + d + 1) x)).1 0 1 ∧ M' 7 20 5 = nI (tlb lo d (tst (lo + d + 1) x)).2.2.2 ∧ (∀ i, i ≠ j → i ≠ 7 → M' i = M i) ∧ (∀ i, i ≠ 5 → M' 7 20 i = M 7 20 i) := by
        intro q3 y6 e
        rw [f_X5_takeLosersBack_L105, f_X5_takeLosersBack_L106, if_neg (by rw [nl3, nL_eq (by omega) (by omega)]; exact q3), if_pos rfl, f_X5_takeLosersBack_L164, if_pos rfl]
        exact idc e
      by_cases q5 : x.1 9 (lo + d + 1) = 5
      · rw [if_pos (show eo (x.1 9 (lo + d + 1)) (x.1 10 (lo + d + 1)) < 0 by rw [q5]; show (-1000004 : Int32) < 0; decide)]
        exact hgs (by omega) _ (by unfold tst; rw [if_neg (by omega), if_pos q5])
      · have wg := w2 q5
        have eg : eo (x.1 9 (lo + d + 1)) (x.1 10 (lo + d + 1)) = nI (x.1 10 (lo + d + 1)) := by unfold eo; rw [if_neg q5]
        rw [eg, if_neg (by rw [nL_neg (by omega)]; exact id), if_neg (by rw [nl4, nL_le (by omega) (by omega)]; omega), bit8 _ (by omega) _ (by omega)]
        by_cases q3 : x.1 9 (lo + d + 1) = 3
        · have k0 := K3 q3 0 (nI (x.1 10 (lo + d + 1)))
          have k1 := K3 q3 1 (nI (x.1 10 (lo + d + 1)))
          cases x.2.1.testBit (x.1 10 (lo + d + 1))
          · rw [if_neg (show ¬ (b01 false = 1) by decide), f_X5_takeLosersBack_L105, q3]
            exact k0
          · rw [if_pos (show b01 true = 1 from rfl), q3]
            exact k1
        · cases qb : x.2.1.testBit (x.1 10 (lo + d + 1))
          · rw [if_neg (show ¬ (b01 false = 1) by decide)]
            exact hgs q3 _ (by unfold tst; rw [if_neg q3, if_neg q5, if_neg (by rw [qb]; decide)])
          · rw [if_pos (show b01 true = 1 from rfl), f_X5_takeLosersBack_L106, if_neg (by rw [nl3, nL_eq (by omega) (by omega)]; exact q3), if_neg (show ¬ ((1 : Int32) = 0) by decide)]
            by_cases q0 : x.1 9 (lo + d + 1) = 0
            · have ets : tst (lo + d + 1) x = (endg x.1 (x.1 10 (lo + d + 1)), x.2.1 &&& (255 - 2 ^ x.1 10 (lo + d + 1)), x.2.2.1, x.2.2.2) := by
                unfold tst
                rw [if_neg q3, if_neg q5, if_pos qb, if_pos q0]
              have hq : (tst (lo + d + 1) x).1 0 1 = x.1 0 1 + 1 := by rw [ets]; exact (endg_n (S := x.1) (g := x.1 10 (lo + d + 1))).2
              obtain ⟨M1, a1, a2, a3⟩ := cl_endg h hl (by omega) wg
              have en := endg_n (S := x.1) (g := x.1 10 (lo + d + 1))
              have e7 : M1 7 = M 7 := a3 7 (fun e => hj e.symm)
              rw [if_pos (by rw [q0]; rfl), a1, bO, bd, bclr8 _ (by omega) _ (by omega)]
              have := cont M1 (by rw [ets]; exact a2) (by rw [ets]; exact Lp_endg hl wg (by omega)) (by rw [ets]; exact en.1.trans e0) (by rw [ets]; exact Nat.le_trans (Nat.le_succ _) (Nat.le_of_eq en.2.symm)) (by rw [ets]; exact Nat.le_of_eq en.2) (by rw [ets]; exact (tset4 _ hx _ wg).2) (by rw [ets]; intro i hi; rw [e7]; exact hT i hi) (by rw [ets, e7]; exact h5) (fun i q1 _ => a3 i q1) (fun i _ => by rw [e7])
              rw [ets] at this ⊢
              exact this
            · rw [if_neg (by rw [nl0, nL_eq (by omega) (by omega)]; exact q0), f_X5_takeLosersBack_L164, if_neg (show ¬ ((1 : Int32) = 0) by decide)]
              by_cases q1 : x.1 9 (lo + d + 1) = 1
              · rw [if_pos (by rw [q1]; rfl), h.1.1, e0, cl_isTk (by omega) (by omega) hT, bO]
                cases qt : x.2.2.1 (lo + d + 1)
                · have ets : tst (lo + d + 1) x = (twb x.1 (lo + d + 1), x.2.1, x.2.2.1, x.2.2.2 + 1) := by
                    unfold tst
                    rw [if_neg q3, if_neg q5, if_pos qb, if_neg q0, if_pos ⟨q1, qt⟩]
                  have hq : (tst (lo + d + 1) x).1 0 1 = x.1 0 1 + 1 := by rw [ets]; exact (twb_n (S := x.1) (n := lo + d + 1)).2
                  obtain ⟨M1, a1, a2, a3⟩ := cl_twb h hl (by omega) n1 n2 q1
                  have tn := twb_n (S := x.1) (n := lo + d + 1)
                  have e7 : M1 7 = M 7 := a3 7 (fun e => hj e.symm)
                  rw [if_pos (show b01 false = 0 from rfl), a1, bO, bd, e7, h5, nI_1]
                  have hs7 : st M1 7 20 5 (nI (x.2.2.2 + 1)) j = M1 j := st_fr hj
                  have := cont (st M1 7 20 5 (nI (x.2.2.2 + 1))) (by rw [ets, hs7]; exact a2) (by rw [ets]; exact Lp_twb hl n1 n2 q1 (by omega)) (by rw [ets]; exact tn.1.trans e0) (by rw [ets]; exact Nat.le_trans (Nat.le_succ _) (Nat.le_of_eq tn.2.symm)) (by rw [ets]; exact Nat.le_of_eq tn.2) (by rw [ets]; exact hx) (by rw [ets]; intro i hi; rw [st_get, if_neg (by omega), e7]; exact hT i hi) (by rw [ets, st_get, if_pos ⟨rfl, rfl, rfl⟩]) (fun i c1 c2 => by rw [st_fr c2]; exact a3 i c1) (fun i c => by rw [st_get, if_neg (by omega), e7])
                  rw [ets] at this ⊢
                  exact this
                · rw [if_neg (show ¬ (b01 true = 0) by decide)]
                  exact idc (by unfold tst; rw [if_neg q3, if_neg q5, if_pos qb, if_neg q0, if_neg (by rw [qt]; simp)])
              · rw [if_neg (by rw [nl1, nL_eq (by omega) (by omega)]; exact q1)]
                exact idc (by unfold tst; rw [if_neg q3, if_neg q5, if_pos qb, if_neg q0, if_neg (fun h => q1 h.1)])
end CR5
