def rst (sr : Nat → Nat) (n : Nat) (x : St × Nat) : St × Nat := if (x.1 9 n = 1 ∨ x.1 9 n = 3) ∧ sr (x.1 11 n) ≠ 0 ∧ sr (x.1 11 n) ≤ n ∧ mrk x.1 (x.1 11 n) < n then (put x.1 (x.1 11 n) (x.1 13 n) n, x.2 + 1) else x
def rdo (sr : Nat → Nat) : Nat → Nat → St × Nat → St × Nat
  | 0, _, x => x
  | d + 1, n, x => rdo sr d (n + 1) (rst sr n x)
theorem rdo_add {sr : Nat → Nat} : ∀ (d1 d2 n : Nat) (x : St × Nat), rdo sr (d1 + d2) n x = rdo sr d2 (n + d1) (rdo sr d1 n x)
  | 0, d2, n, x => by rw [Nat.zero_add]; rfl
  | d1 + 1, d2, n, x => by
    rw [show d1 + 1 + d2 = (d1 + d2) + 1 by omega, rdo, rdo_add d1 d2 (n + 1), rdo, show n + 1 + d1 = n + (d1 + 1) by omega]
theorem rdo_skip {sr : Nat → Nat} {x : St × Nat} : ∀ (d n : Nat), (∀ m, n ≤ m → m < n + d → rst sr m x = x) → rdo sr d n x = x
  | 0, n, _ => rfl
  | d + 1, n, h => by
    rw [rdo, h n (by omega) (by omega)]
    exact rdo_skip d (n + 1) (fun m h1 h2 => h m (by omega) (by omega))
section CR3
variable {j b : Nat} {M : Mem} {S : St}
theorem cl_after {p n : Nat} {sr : Nat → Nat} (hp : p < 8) (hs : M 7 21 p = nI (sr p)) (hb : sr p < 2 ^ 28) (hn : n < 2 ^ 28) : f_X5_isAfterStart M (nI p) (nI n) = some (b01 (decide (sr p ≠ 0 ∧ sr p ≤ n))) := by
  rw [f_X5_isAfterStart, if_neg (by rw [nL_neg (by omega)]; exact id), if_neg (by rw [nl8, nL_le (by omega) (by omega)]; omega), gd_in hp (by omega), nL_cl (by omega), hs]
  by_cases q : sr p = 0
  · rw [if_pos (by rw [q]; rfl), decide_eq_false (fun h => h.1 q)]
    rfl
  · rw [if_neg (by rw [nl0, nL_eq (by omega) (by omega)]; exact q), gd_in hp (by omega)]
    by_cases q2 : sr p ≤ n
    · rw [if_neg (by rw [nL_lt (by omega) (by omega)]; omega), decide_eq_true ⟨q, q2⟩]
      rfl
    · rw [if_pos (by rw [nL_lt (by omega) (by omega)]; omega), decide_eq_false (fun h => q2 h.2)]
      rfl
theorem cl_least {sr : Nat → Nat} (hR : ∀ p, p < 8 → M 7 21 p = nI (sr p)) (hb : ∀ p, sr p < 2 ^ 28) : ∃ m, f_X5_leastStart M = some (nI m) ∧ m < 2 ^ 28 ∧ (m = 0 → ∀ p, p < 8 → sr p = 0) ∧ (m ≠ 0 → (∃ p, p < 8 ∧ sr p = m) ∧ ∀ p, p < 8 → sr p = 0 ∨ m ≤ sr p) := by
  have lp : ∀ d i fu m : Nat, i + d = 8 → d < fu → m < 2 ^ 28 → (m = 0 → ∀ p, p < i → sr p = 0) → (m ≠ 0 → (∃ p, p < 8 ∧ sr p = m) ∧ ∀ p, p < i → sr p = 0 ∨ m ≤ sr p) →
      ∃ m', itr (f_X5_leastStart_L4 M) (fun _ _ => none) fu (nI m) (nI i) = some (nI m') ∧ m' < 2 ^ 28 ∧ (m' = 0 → ∀ p, p < 8 → sr p = 0) ∧ (m' ≠ 0 → (∃ p, p < 8 ∧ sr p = m') ∧ ∀ p, p < 8 → sr p = 0 ∨ m' ≤ sr p) := by
    intro d
    induction d with
    | zero =>
      intro i fu m hi hf hm h1 h2
      obtain ⟨f, rfl⟩ : ∃ f, fu = f + 1 := ⟨fu - 1, by omega⟩
      have hi : i = 8 := by omega
      subst hi
      refine ⟨m, ?_, hm, h1, h2⟩
      rw [itr_s, f_X5_leastStart_L4, if_pos (by decide)]
    | succ d ih =>
      intro i fu m hi hf hm h1 h2
      obtain ⟨f, rfl⟩ : ∃ f, fu = f + 1 := ⟨fu - 1, by omega⟩
      have r := hR i (by omega)
      have r2 := hb i
      rw [itr_s, f_X5_leastStart_L4, if_neg (by rw [nl8, nL_le (by omega) (by omega)]; omega), gd_in (by omega) (by omega), nL_cl (by omega), r]
      by_cases q : sr i = 0
      · rw [if_pos (by rw [q]; rfl), f_X5_leastStart_L40, bd, nI_1]
        refine ih (i + 1) f m (by omega) (by omega) hm (fun e p hp => ?_) (fun e => ⟨(h2 e).1, fun p hp => ?_⟩)
        · by_cases e2 : p = i
          · rw [e2]; exact q
          · exact h1 e p (by omega)
        · by_cases e2 : p = i
          · rw [e2]; exact Or.inl q
          · exact (h2 e).2 p (by omega)
      · rw [if_neg (by rw [nl0, nL_eq (by omega) (by omega)]; exact q)]
        by_cases q2 : m = 0
        · rw [if_pos (by rw [q2]; rfl), f_X5_leastStart_L33, gd_in (by omega) (by omega), bd, nL_cl (by omega), r, f_X5_leastStart_L40, bd, nI_1]
          refine ih (i + 1) f (sr i) (by omega) (by omega) r2 (fun e => absurd e q) (fun e => ⟨⟨i, by omega, rfl⟩, fun p hp => ?_⟩)
          by_cases e2 : p = i
          · rw [e2]; exact Or.inr (Nat.le_refl _)
          · exact Or.inl (h1 q2 p (by omega))
        · rw [if_neg (by rw [nl0, nL_eq (by omega) (by omega)]; exact q2), gd_in (by omega) (by omega)]
          by_cases q3 : m ≤ sr i
          · rw [if_pos (by rw [nL_le (by omega) (by omega)]; exact q3), f_X5_leastStart_L40, bd, nI_1]
            refine ih (i + 1) f m (by omega) (by omega) hm (fun e => absurd e q2) (fun e => ⟨(h2 e).1, fun p hp => ?_⟩)
            by_cases e2 : p = i
            · rw [e2]; exact Or.inr q3
            · exact (h2 e).2 p (by omega)
          · rw [if_neg (by rw [nL_le (by omega) (by omega)]; exact q3), f_X5_leastStart_L33, gd_in (by omega) (by omega), bd, nL_cl (by omega), r, f_X5_leastStart_L40, bd, nI_1]
            refine ih (i + 1) f (sr i) (by omega) (by omega) r2 (fun e => absurd e q) (fun e => ⟨⟨i, by omega, rfl⟩, fun p hp => ?_⟩)
            by_cases e2 : p = i
            · rw [e2]; exact Or.inr (Nat.le_refl _)
            · rcases (h2 q2).2 p (by omega) with e3 | e3
              · exact Or.inl e3
              · exact Or.inr (by omega)
  rw [f_X5_leastStart]
  exact lp 8 0 FU 0 (by omega) (by decide) (by decide) (fun _ p hp => by omega) (fun e => absurd rfl e)
theorem rst_n (sr : Nat → Nat) (n : Nat) (x : St × Nat) : ∀ f i, (5 < f ∨ f = 1 ∨ f = 2 ∨ (f = 0 ∧ i ≠ 6 ∧ i ≠ 7)) → (rst sr n x).1 f i = x.1 f i := by
  intro f i h
  unfold rst
  split
  · exact put_o h
  · rfl
theorem cl_redo (hj : j ≠ 7) {sr : Nat → Nat} {F N : Nat} (hsr : ∀ p, sr p < 2 ^ 28) (hFN : F + N ≤ b) (hb : b < 2 ^ 27) (hb1 : 256 ≤ b) (hN : N ≤ 128) : ∀ (d n fu : Nat) (x : St × Nat) (M : Mem), RC (M j) x.1 → Bd b x.1 → Sm x.1 → WF x.1 → x.1 0 0 = F → x.1 0 1 = N → n + d = F + N → F ≤ n → 1 ≤ F → d < fu → (∀ p, p < 8 → M 7 21 p = nI (sr p)) → M 7 20 4 = nI x.2 →
    ∃ M', itr (f_X5_doAgain_L24 j) (fun _ _ _ => none) fu M (nI (F + N - 1)) (nI n) = some M' ∧ RC (M' j) (rdo sr d n x).1 ∧ Bd b (rdo sr d n x).1 ∧ Sm (rdo sr d n x).1 ∧ WF (rdo sr d n x).1 ∧ M' 7 20 4 = nI (rdo sr d n x).2 ∧ (∀ i, i ≠ j → i ≠ 7 → M' i = M i) ∧ (∀ i, i ≠ 4 → M' 7 20 i = M 7 20 i) := by
  intro d
  induction d with
  | zero =>
    intro n fu x M h hB hs hw e0 e1 hn h1 hF hf hR h4
    obtain ⟨f, rfl⟩ : ∃ f, fu = f + 1 := ⟨fu - 1, by omega⟩
    refine ⟨M, ?_, h, hB, hs, hw, h4, fun _ _ _ => rfl, fun _ _ => rfl⟩
    rw [itr_s, f_X5_doAgain_L24, if_pos (by rw [nL_lt (by omega) (by omega)]; omega)]
  | succ d ih =>
    intro n fu x M h hB hs hw e0 e1 hn h1 hF hf hR h4
    obtain ⟨f, rfl⟩ : ∃ f, fu = f + 1 := ⟨fu - 1, by omega⟩
    obtain ⟨w1, w2, w3⟩ := hw n (by omega) (by omega)
    obtain ⟨r1, r2, r3, r4, r5, r6⟩ := h.2.2.2 (n - x.1 0 0) (by omega)
    rw [show x.1 0 0 + (n - x.1 0 0) = n by omega] at r1 r3 r5
    have h13 := hB 13 n
    have h9 := hB 9 n
    have cont : ∀ (M1 : Mem), RC (M1 j) (rst sr n x).1 → Bd b (rst sr n x).1 → Sm (rst sr n x).1 → WF (rst sr n x).1 → (∀ p, p < 8 → M1 7 21 p = nI (sr p)) → M1 7 20 4 = nI (rst sr n x).2 → (∀ i, i ≠ j → i ≠ 7 → M1 i = M i) → (∀ i, i ≠ 4 → M1 7 20 i = M 7 20 i) →
        ∃ M', f_X5_doAgain_L129 j (itr (f_X5_doAgain_L24 j) (fun _ _ _ => none) f) M1 (nI (F + N - 1)) (nI n) = some M' ∧ RC (M' j) (rdo sr (d + 1) n x).1 ∧ Bd b (rdo sr (d + 1) n x).1 ∧ Sm (rdo sr (d + 1) n x).1 ∧ WF (rdo sr (d + 1) n x).1 ∧ M' 7 20 4 = nI (rdo sr (d + 1) n x).2 ∧ (∀ i, i ≠ j → i ≠ 7 → M' i = M i) ∧ (∀ i, i ≠ 4 → M' 7 20 i = M 7 20 i) := by
      intro M1 c1 c2 c3 c4 c5 c6 c7 c8
      obtain ⟨M', a1, a2, a3, a4, a5, a6, a7, a8⟩ := ih (n + 1) f (rst sr n x) M1 c1 c2 c3 c4 (by rw [rst_n _ _ _ _ _ (by omega)]; exact e0) (by rw [rst_n _ _ _ _ _ (by omega)]; exact e1) (by omega) (by omega) hF (by omega) c5 c6
      refine ⟨M', ?_, a2, a3, a4, a5, a6, fun i q1 q2 => (a7 i q1 q2).trans (c7 i q1 q2), fun i q => (a8 i q).trans (c8 i q)⟩
      rw [f_X5_doAgain_L129, bd, nI_1]
      exact a1
    have idc : rst sr n x = x → ∃ M', f_X5_doAgain_L129 j (itr (f_X5_doAgain_L24 j) (fun _ _ _ => none) f) M (nI (F + N - 1)) (nI n) = some M' ∧ RC (M' j) (rdo sr (d + 1) n x).1 ∧ Bd b (rdo sr (d + 1) n x).1 ∧ Sm (rdo sr (d + 1) n x).1 ∧ WF (rdo sr (d + 1) n x).1 ∧ M' 7 20 4 = nI (rdo sr (d + 1) n x).2 ∧ (∀ i, i ≠ j → i ≠ 7 → M' i = M i) ∧ (∀ i, i ≠ 4 → M' 7 20 i = M 7 20 i) := by
      intro e
      exact cont M (by rw [e]; exact h) (by rw [e]; exact hB) (by rw [e]; exact hs) (by rw [e]; exact hw) hR (by rw [e]; exact h4) (fun _ _ _ => rfl) (fun _ _ => rfl)
    rw [itr_s, f_X5_doAgain_L24, if_neg (by rw [nL_lt (by omega) (by omega)]; omega), cl_atI h hB (by omega) (by omega) (by omega) (by omega) (by omega), bO, cl_atI h hB (by omega) (by omega) (by omega) (by omega) (by omega), bO, r1, r3]
    by_cases qk : x.1 9 n = 1 ∨ x.1 9 n = 3
    · have w := w3 qk
      have s1 := hsr (x.1 11 n)
      have hm := mrk_le hB (p := x.1 11 n)
      have ek : ep (x.1 9 n) (x.1 11 n) = nI (x.1 11 n) := by unfold ep; rw [if_pos qk]
      have W : ∃ M', f_X5_doAgain_L67 j (itr (f_X5_doAgain_L24 j) (fun _ _ _ => none) f) M (nI (F + N - 1)) (nI n) (nI (x.1 11 n)) = some M' ∧ RC (M' j) (rdo sr (d + 1) n x).1 ∧ Bd b (rdo sr (d + 1) n x).1 ∧ Sm (rdo sr (d + 1) n x).1 ∧ WF (rdo sr (d + 1) n x).1 ∧ M' 7 20 4 = nI (rdo sr (d + 1) n x).2 ∧ (∀ i, i ≠ j → i ≠ 7 → M' i = M i) ∧ (∀ i, i ≠ 4 → M' 7 20 i = M 7 20 i) := by
        rw [f_X5_doAgain_L67, f_X5_doAgain_L72, if_neg (by decide), cl_after w (hR _ w) s1 (by omega), bO]
        by_cases q1 : sr (x.1 11 n) ≠ 0 ∧ sr (x.1 11 n) ≤ n
        · rw [decide_eq_true q1, if_neg (show ¬ (b01 true = 0) by decide), cl_markOf h hs w, bO]
          by_cases q2 : mrk x.1 (x.1 11 n) < n
          · rw [if_neg (by rw [nL_le (by omega) (by omega)]; omega), cl_atI h hB (by omega) (by omega) (by omega) (by omega) (by omega), bO, r5]
            obtain ⟨M2, a1, a2, a3⟩ := cl_put h hs w (x.1 13 n) n
            have er : rst sr n x = (put x.1 (x.1 11 n) (x.1 13 n) n, x.2 + 1) := by
              unfold rst
              rw [if_pos ⟨qk, q1.1, q1.2, q2⟩]
            have e7 : M2 7 = M 7 := a3 7 (by omega)
            rw [a1, bO, bd]
            refine cont _ ?_ ?_ ?_ ?_ ?_ ?_ ?_ ?_
            · rw [er, st_fr hj]; exact a2
            · rw [er]; exact Bd_put hB hs hb1 w h13 (by omega)
            · rw [er]; exact Sm_put hs w
            · rw [er]; exact WF_put hw
            · intro p hp
              rw [st_get, if_neg (by omega), e7]
              exact hR p hp
            · rw [er, st_get, if_pos ⟨rfl, rfl, rfl⟩, e7, h4, nI_1]
            · intro i c1 c2
              rw [st_fr c2]
              exact a3 i c1
            · intro i c1
              rw [st_get, if_neg (by omega), e7]
          · rw [if_pos (by rw [nL_le (by omega) (by omega)]; omega)]
            exact idc (by unfold rst; rw [if_neg (fun h => q2 h.2.2.2)])
        · rw [decide_eq_false q1, if_pos (show b01 false = 0 from rfl)]
          exact idc (by unfold rst; rw [if_neg (fun h => q1 ⟨h.2.1, h.2.2.1⟩)])
      rw [ek]
      rcases qk with qk | qk
      · rw [if_pos (by rw [qk]; rfl)]
        exact W
      · rw [if_neg (by rw [qk]; decide), if_pos (by rw [qk]; rfl)]
        exact W
    · rw [if_neg (by rw [nl1, nL_eq (by omega) (by omega)]; omega), if_neg (by rw [nl3, nL_eq (by omega) (by omega)]; omega), f_X5_doAgain_L72, if_pos rfl]
      exact idc (by unfold rst; rw [if_neg (fun h => qk h.1)])
end CR3
