section IX
variable {S T : St} {b g p v : Nat}
theorem up_ne {f i v f' i' : Nat} (h : ¬ (f' = f ∧ i' = i)) : up S f i v f' i' = S f' i' := by
  unfold up
  rw [if_neg h]
/-- only D, the disk and the sets of pages change -/
theorem iv_page (h : Inv b S) (q3 : S 0 5 = 0) (hbb : b + 500 < 2 ^ 27) (to : ∀ f i, ¬ (f = 0 ∧ (i = 2 ∨ i = 6 ∨ i = 7)) → f ≠ 1 → f ≠ 2 → T f i = S f i) (hD : S 0 2 ≤ T 0 2) (hD2 : T 0 2 < S 0 0 + S 0 1) (hdm : ∀ p, p < 8 → T 2 p ≤ T 0 2) (h6 : T 0 6 < 256) (h7 : T 0 7 < 256) (hP : PI T) (hB : Bd (b + 500) T) : Inv (b + 500) T := by
  obtain ⟨⟨n1, ⟨n2, n2'⟩, n3, n4, n5, n6, n7, n8, n9⟩, hj, hp, hr, hst⟩ := h
  obtain ⟨r1, r2⟩ := hr q3
  have er : ∀ n, T 9 n = S 9 n ∧ T 10 n = S 10 n ∧ T 11 n = S 11 n ∧ T 12 n = S 12 n ∧ T 14 n = S 14 n := fun n => ⟨to 9 n (by omega) (by omega) (by omega), to 10 n (by omega) (by omega) (by omega), to 11 n (by omega) (by omega) (by omega), to 12 n (by omega) (by omega) (by omega), to 14 n (by omega) (by omega) (by omega)⟩
  have eF : T 0 0 = S 0 0 := to 0 0 (by omega) (by omega) (by omega)
  have eN : T 0 1 = S 0 1 := to 0 1 (by omega) (by omega) (by omega)
  have e8 : T 0 8 = S 0 8 := to 0 8 (by omega) (by omega) (by omega)
  have e5 : T 0 5 = S 0 5 := to 0 5 (by omega) (by omega) (by omega)
  have hj' : JI T := JI_same hj eF eN (SL_of (fun f i a => to f i (by omega) (by omega) (by omega))) er hD hD2 hdm
  refine ⟨Nm_of hj' hB (by omega) (by omega) hbb ⟨h6, h7, by rw [e8]; exact n9.2.2.1, fun i hi => by rw [to 8 i (by omega) (by omega) (by omega)]; exact n9.2.2.2.1 i hi, by rw [e5]; exact n9.2.2.2.2⟩, hj', hP, fun _ => ⟨fun g' hg' => ?_, fun a c p ha hc hp8 hne oa oc => ?_⟩, fun z => absurd (e5.trans q3) z⟩
  · rw [e8, eF, eN]
    refine ⟨fun z => GC_same ((r1 g' hg').1 z) eF eN er (fun y => by rw [to 0 3 (by omega) (by omega) (by omega)] at y; rw [to 0 4 (by omega) (by omega) (by omega)]; exact ((r1 g' hg').1 z).2.2.1 y) (to 6 g' (by omega) (by omega) (by omega)) (to 7 g' (by omega) (by omega) (by omega)), fun z => (r1 g' hg').2 (OJ_cg (fun n _ _ => ⟨(er n).1.symm, (er n).2.1.symm⟩) z)⟩
  · rw [e8] at oa oc
    rw [to 8 a (by omega) (by omega) (by omega), to 8 c (by omega) (by omega) (by omega)]
    exact r2 a c p ha hc hp8 hne oa oc
theorem iv_out (h : Inv b S) (hp8 : p < 8) (hbb : b + 500 < 2 ^ 27) : Inv (b + 500) (aOut S p).2 := by
  unfold aOut
  by_cases q1 : S 0 5 ≠ 0 ∨ (S 0 7).testBit p = false
  · rw [if_pos q1]; exact Inv_le h (by omega) hbb
  rw [if_neg q1]
  have h0 := h
  obtain ⟨⟨n1, ⟨n2, n2'⟩, n3, n4, n5, n6, n7, n8, n9⟩, hj, hp, hr, hst⟩ := h0
  have q3 : S 0 5 = 0 := by
    by_cases z : S 0 5 = 0
    · exact z
    · exact absurd (Or.inl z) q1
  have q4 : (S 0 7).testBit p = true := by
    cases z : (S 0 7).testBit p
    · exact absurd (Or.inr z) q1
    · rfl
  obtain ⟨p1, p2, p3⟩ := hp p hp8
  obtain ⟨p4, p5⟩ := p1.mp q4
  have em : mrk S p = S 4 p := by unfold mrk; rw [if_pos p4]
  have pm := p2 p4
  obtain ⟨T, eT⟩ : ∃ T, T = toD (frc S (mrk S p)) p := ⟨_, rfl⟩
  show Inv _ (toD (frc S (mrk S p)) p)
  rw [← eT]
  have to : ∀ f i, ¬ (f = 0 ∧ (i = 2 ∨ i = 6 ∨ i = 7)) → f ≠ 1 → f ≠ 2 → T f i = S f i := fun f i a c d => by rw [eT, toD_o (by omega), frc_o (by omega)]
  have t6 : T 0 6 = S 0 6 := by rw [eT, toD_o (by omega), frc_o (by omega)]
  have t7 : T 0 7 = (S 0 7 &&& (255 - 2 ^ p)) := by rw [eT]; simp [toD, frc, up]
  have t2 : T 0 2 = S 0 2 + (S 4 p - S 0 2) := by rw [eT, toD_o (by omega), em]; simp [frc, up]
  have t22 : ∀ q, T 2 q = if q = p then S 4 p else S 2 q := fun q => by
    rw [eT]
    by_cases e : q = p
    · subst e; simp [toD, frc, up]
    · simp [toD, frc, up, e]
  have c7 := tclr8 (S 0 7) n9.2.1 p hp8
  have hj0 := hj
  obtain ⟨⟨w, f1, f2', f3⟩, l0, l1, k3, al, ph, dm⟩ := hj0
  refine iv_page h q3 hbb to (by omega) (by omega) (fun q hq => ?_) (by rw [t6]; exact n9.1) (by rw [t7]; exact c7.1) (fun q hq => ?_) ?_
  · rw [t22]
    have := dm q hq
    split <;> omega
  · by_cases e : q = p
    · subst e
      unfold PI at hp
      refine ⟨?_, ?_, ?_⟩
      · rw [t7, c7.2 q hq, t22, if_pos rfl, to 4 q (by omega) (by omega) (by omega), decide_eq_true rfl]
        simp
      · rw [t22, if_pos rfl, to 4 q (by omega) (by omega) (by omega), to 0 0 (by omega) (by omega) (by omega), to 0 1 (by omega) (by omega) (by omega)]
        exact fun _ => ⟨Nat.le_refl _, pm.2⟩
      · rw [t7, c7.2 q hq, decide_eq_true rfl]
        simp
    · refine PP_of (hp q hq) (by rw [t6]) (by rw [t7, c7.2 q hq, decide_eq_false e, Bool.not_false, Bool.and_true]) (by rw [t22, if_neg e]) (to 4 q (by omega) (by omega) (by omega)) (to 5 q (by omega) (by omega) (by omega)) (by rw [to 0 0 (by omega) (by omega) (by omega), to 0 1 (by omega) (by omega) (by omega)]; exact Nat.le_refl _) (fun z => by rw [to 0 0 (by omega) (by omega) (by omega)]; exact ((hp q hq).2.2 z).1) (fun z y => by rw [to 0 3 (by omega) (by omega) (by omega)] at y; rw [to 0 4 (by omega) (by omega) (by omega)]; exact ((hp q hq).2.2 z).2.2 y)
  · rw [eT]
    have B0 : Bd (b + 500) (frc S (mrk S p)) := Bd_up (Bd_le n1 (by omega)) (by rw [em]; have := n1 0 2; have := n1 4 p; omega)
    refine Bd_up (Bd_up (Bd_up B0 (B0 _ _)) (B0 _ _)) ?_
    rw [frc_o (by omega)]
    have := c7.1
    omega
theorem iv_drop (h : Inv b S) (hp8 : p < 8) (hbb : b + 500 < 2 ^ 27) : Inv (b + 500) (aDrop S p).2 := by
  unfold aDrop
  by_cases q1 : S 0 5 ≠ 0 ∨ (S 0 6).testBit p = false ∨ (S 0 7).testBit p = true
  · rw [if_pos q1]; exact Inv_le h (by omega) hbb
  rw [if_neg q1]
  have h0 := h
  obtain ⟨⟨n1, ⟨n2, n2'⟩, n3, n4, n5, n6, n7, n8, n9⟩, hj, hp, hr, hst⟩ := h0
  have q3 : S 0 5 = 0 := by
    by_cases z : S 0 5 = 0
    · exact z
    · exact absurd (Or.inl z) q1
  have q4 : (S 0 7).testBit p = false := by
    cases z : (S 0 7).testBit p
    · rfl
    · exact absurd (Or.inr (Or.inr z)) q1
  obtain ⟨T, eT⟩ : ∃ T, T = up S 0 6 (S 0 6 &&& (255 - 2 ^ p)) := ⟨_, rfl⟩
  show Inv _ (up S 0 6 (S 0 6 &&& (255 - 2 ^ p)))
  rw [← eT]
  have to : ∀ f i, ¬ (f = 0 ∧ i = 6) → T f i = S f i := fun f i a => by rw [eT, up_ne a]
  have t6 : T 0 6 = (S 0 6 &&& (255 - 2 ^ p)) := by rw [eT, up_at]
  have c6 := tclr8 (S 0 6) n9.1 p hp8
  have hj0 := hj
  obtain ⟨⟨w, f1, f2', f3⟩, l0, l1, k3, al, ph, dm⟩ := hj0
  have e2 := to 0 2 (by omega)
  refine iv_page h q3 hbb (fun f i a _ _ => to f i (by omega)) (by omega) (by omega) (fun q hq => by rw [to 2 q (by omega), e2]; exact dm q hq) (by rw [t6]; exact c6.1) (by rw [to 0 7 (by omega)]; exact n9.2.1) (fun q hq => ?_) ?_
  · obtain ⟨p1, p2, p3⟩ := hp q hq
    rw [t6, c6.2 q hq, to 0 7 (by omega), to 4 q (by omega), to 2 q (by omega), to 5 q (by omega), to 0 0 (by omega), to 0 1 (by omega), to 0 3 (by omega), to 0 4 (by omega)]
    by_cases e : q = p
    · subst e
      rw [decide_eq_true rfl, q4]
      simp
    · rw [decide_eq_false e, Bool.not_false, Bool.and_true]
      exact ⟨p1, p2, p3⟩
  · rw [eT]
    refine Bd_up (Bd_le n1 (by omega)) ?_
    have := c6.1
    omega
theorem iv_force (h : Inv b S) (hbb : b + 500 < 2 ^ 27) : Inv (b + 500) (aForce S).2 := by
  unfold aForce
  by_cases q3 : S 0 5 ≠ 0
  · rw [if_pos q3]; exact Inv_le h (by omega) hbb
  rw [if_neg q3]
  have q3 : S 0 5 = 0 := by omega
  have h0 := h
  obtain ⟨⟨n1, ⟨n2, n2'⟩, n3, n4, n5, n6, n7, n8, n9⟩, hj, hp, hr, hst⟩ := h0
  obtain ⟨T, eT⟩ : ∃ T, T = frc S (S 0 0 + S 0 1 - 1) := ⟨_, rfl⟩
  show Inv _ (frc S (S 0 0 + S 0 1 - 1))
  rw [← eT]
  have to : ∀ f i, ¬ (f = 0 ∧ i = 2) → T f i = S f i := fun f i a => by rw [eT, frc_o a]
  have t2 : T 0 2 = S 0 2 + (S 0 0 + S 0 1 - 1 - S 0 2) := by rw [eT, frc, up_at]
  have hj0 := hj
  obtain ⟨⟨w, f1, f2', f3⟩, l0, l1, k3, al, ph, dm⟩ := hj0
  refine iv_page h q3 hbb (fun f i a _ _ => to f i (by omega)) (by omega) (by omega) (fun q hq => by rw [to 2 q (by omega)]; have := dm q hq; omega) (by rw [to 0 6 (by omega)]; exact n9.1) (by rw [to 0 7 (by omega)]; exact n9.2.1) (fun q hq => ?_) ?_
  · rw [to 0 6 (by omega), to 0 7 (by omega), to 4 q (by omega), to 2 q (by omega), to 5 q (by omega), to 0 0 (by omega), to 0 1 (by omega), to 0 3 (by omega), to 0 4 (by omega)]
    exact hp q hq
  · rw [eT]
    exact Bd_up (Bd_le n1 (by omega)) (by omega)
theorem mg_spec (S : St) (n : Nat) : ∀ i, (∀ g, g < i → (S 0 8).testBit g = true → mg S n i ≤ S 6 g) ∧ (mg S n i = n ∨ ∃ g, g < i ∧ (S 0 8).testBit g = true ∧ mg S n i = S 6 g)
  | 0 => ⟨fun g hg => by omega, Or.inl rfl⟩
  | i + 1 => by
    obtain ⟨h1, h2⟩ := mg_spec S n i
    rw [mg]
    cases q : (S 0 8).testBit i
    · rw [if_neg (by decide)]
      refine ⟨fun g hg o => ?_, ?_⟩
      · by_cases e : g = i
        · rw [e, q] at o; exact nomatch o
        · exact h1 g (by omega) o
      · rcases h2 with h2 | ⟨g, hg, a1, a2⟩
        · exact Or.inl h2
        · exact Or.inr ⟨g, by omega, a1, a2⟩
    · rw [if_pos rfl]
      by_cases c : S 6 i < mg S n i
      · rw [if_pos c]
        refine ⟨fun g hg o => ?_, Or.inr ⟨i, by omega, q, rfl⟩⟩
        by_cases e : g = i
        · rw [e]; exact Nat.le_refl _
        · have := h1 g (by omega) o
          omega
      · rw [if_neg c]
        refine ⟨fun g hg o => ?_, ?_⟩
        · by_cases e : g = i
          · rw [e]; omega
          · exact h1 g (by omega) o
        · rcases h2 with h2 | ⟨g, hg, a1, a2⟩
          · exact Or.inl h2
          · exact Or.inr ⟨g, by omega, a1, a2⟩
theorem mp_spec (S : St) (n : Nat) : ∀ i, mp S n i ≤ mg S n 4 ∧ (∀ p, p < i → (S 0 7).testBit p = true → mp S n i ≤ S 5 p) ∧ (mp S n i = mg S n 4 ∨ ∃ p, p < i ∧ (S 0 7).testBit p = true ∧ mp S n i = S 5 p)
  | 0 => ⟨Nat.le_refl _, fun g hg => by omega, Or.inl rfl⟩
  | i + 1 => by
    obtain ⟨h0, h1, h2⟩ := mp_spec S n i
    rw [mp]
    cases q : (S 0 7).testBit i
    · rw [if_neg (by decide)]
      refine ⟨h0, fun g hg o => ?_, ?_⟩
      · by_cases e : g = i
        · rw [e, q] at o; exact nomatch o
        · exact h1 g (by omega) o
      · rcases h2 with h2 | ⟨g, hg, a1, a2⟩
        · exact Or.inl h2
        · exact Or.inr ⟨g, by omega, a1, a2⟩
    · rw [if_pos rfl]
      by_cases c : S 5 i < mp S n i
      · rw [if_pos c]
        refine ⟨by omega, fun g hg o => ?_, Or.inr ⟨i, by omega, q, rfl⟩⟩
        by_cases e : g = i
        · rw [e]; exact Nat.le_refl _
        · have := h1 g (by omega) o
          omega
      · rw [if_neg c]
        refine ⟨h0, fun g hg o => ?_, ?_⟩
        · by_cases e : g = i
          · rw [e]; omega
          · exact h1 g (by omega) o
        · rcases h2 with h2 | ⟨g, hg, a1, a2⟩
          · exact Or.inl h2
          · exact Or.inr ⟨g, by omega, a1, a2⟩
theorem iv_chk (h : Inv b S) (hbb : b + 500 < 2 ^ 27) : Inv (b + 500) (aChk S).2 := by
  unfold aChk
  by_cases q3 : S 0 5 ≠ 0
  · rw [if_pos q3]; exact Inv_le h (by omega) hbb
  rw [if_neg q3]
  by_cases q2 : 60 ≤ S 0 1
  · rw [if_pos q2]; exact Inv_le h (by omega) hbb
  rw [if_neg q2]
  have q3 : S 0 5 = 0 := by omega
  have h0 := h
  obtain ⟨⟨n1, ⟨n2, n2'⟩, n3, n4, n5, n6, n7, n8, n9⟩, hj, hp, hr, hst⟩ := h0
  obtain ⟨r1, r2⟩ := hr q3
  obtain ⟨⟨w, f1, f2', f3⟩, l0, l1, k3, al, ph, dm⟩ := hj
  obtain ⟨X, eX⟩ : ∃ X, X = app S 5 0 0 (S 0 8) (S 0 7) 0 := ⟨_, rfl⟩
  obtain ⟨T, eT⟩ : ∃ T, T = ckp S := ⟨_, rfl⟩
  show Inv _ (ckp S)
  rw [← eT]
  have tx : ∀ f i, ¬ (f = 0 ∧ (i = 2 ∨ i = 3 ∨ i = 4)) → f ≠ 15 → T f i = X f i := fun f i a c => by
    rw [eT, ckp, up_ne (by omega)]
    simp only [upr]
    rw [if_neg c, up_ne (by omega), up_ne (by omega), eX]
  have to : ∀ f i, f < 9 → ¬ (f = 0 ∧ (i = 1 ∨ i = 2 ∨ i = 3 ∨ i = 4)) → T f i = S f i := fun f i a c => by rw [tx f i (by omega) (by omega), eX, app_o (by omega) (by omega)]
  have E : EX S T 5 0 0 := by
    have E0 : EX S X 5 0 0 := by rw [eX]; exact EX_app
    exact EX_of E0 (fun f i a => tx f i (by omega) (by omega))
  have t12 : T 12 (S 0 0 + S 0 1) = S 0 8 := by rw [tx _ _ (by omega) (by omega), eX, app_r.2.2.2.1, if_pos rfl]
  have t3 : T 0 3 = S 0 0 + S 0 1 := by rw [eT]; simp [ckp, up, upr]
  have t4 : T 0 4 = mp S (S 0 0 + S 0 1) 8 := by rw [eT]; simp [ckp, up, upr]
  have t2 : T 0 2 = S 0 0 + S 0 1 := by
    have : T 0 2 = S 0 2 + (S 0 0 + S 0 1 - S 0 2) := by rw [eT]; simp [ckp, up]
    omega
  have t15 : ∀ p, p < 8 → T 15 p = if (S 0 7).testBit p then S 5 p else 0 := fun p hp8 => by
    rw [eT]
    simp [ckp, up, upr, hp8]
  obtain ⟨eF, eN, er, e9, e10, e14⟩ := id E
  have e' := EX_lt E
  obtain ⟨m1, m2⟩ := mg_spec S (S 0 0 + S 0 1) 4
  obtain ⟨m3, m4, m5⟩ := mp_spec S (S 0 0 + S 0 1) 8
  have m6 := mg_le (S := S) (n := S 0 0 + S 0 1) 4
  have op : ∀ g, g < 4 → ∀ n, LB S g (S 0 0) (S 0 0 + S 0 1) n → S 9 n = 0 → (S 0 8).testBit g = true ∧ S 6 g = n := fun g hg n hn hk => by
    have o := (r1 g hg).2 ⟨n, hn, hk⟩
    exact ⟨o, LB_uq ((r1 g hg).1 o).1 hn⟩
  have hck : CK T := by
    refine ⟨by omega, by omega, by rw [t3, e9], fun n a1 a2 => by omega, by rw [t3, t12]; exact n9.2.2.1, fun g hg => ?_, ⟨by omega, fun g hg n hn hk => ?_, fun p hp8 hne => ?_, ?_⟩, fun p hp8 => ?_⟩
    · rw [t3, t12, eF]
      refine ⟨fun o => OJ_cg e' ⟨S 6 g, ((r1 g hg).1 o).1, ((r1 g hg).1 o).2.1⟩, fun o => (r1 g hg).2 (OJ_cg (sy2 e') o)⟩
    · rw [t3, eF] at hn
      have hn' := LB_cg (sy2 e') hn
      obtain ⟨o1, o2⟩ := op g hg n hn' (by rw [← (e' n hn'.1 hn'.2.1).1]; exact hk)
      have := m1 g hg o1
      rw [t4]
      omega
    · rw [t15 p hp8] at hne ⊢
      cases q : (S 0 7).testBit p
      · rw [q] at hne; exact absurd rfl hne
      · rw [if_pos rfl, t4]
        exact m4 p hp8 q
    · rw [t4, t3, eF]
      rcases m5 with m5 | ⟨p, hp8, a1, a2⟩
      · rcases m2 with m2 | ⟨g, hg, a1, a2⟩
        · exact Or.inl (by omega)
        · have gc := (r1 g hg).1 a1
          refine Or.inr (Or.inl ⟨g, hg, S 6 g, LB_cg e' gc.1, by rw [(e' _ gc.1.1 gc.1.2.1).1]; exact gc.2.1, by omega⟩)
      · refine Or.inr (Or.inr ⟨p, hp8, ?_, ?_⟩)
        · rw [t15 p hp8, a1, if_pos rfl]
          have := ((hp p hp8).2.2 a1).1
          omega
        · rw [t15 p hp8, a1, if_pos rfl]
          exact a2
    · rw [t15 p hp8, eF]
      cases q : (S 0 7).testBit p
      · exact Or.inl rfl
      · rw [if_pos rfl]
        exact Or.inr ((hp p hp8).2.2 q).1
  have hj' : JI T := by
    refine ⟨⟨fun n a1 a2 => ?_, by omega, by omega, by omega⟩, fun q => by omega, fun _ => hck, fun n a1 a2 hk3 => ?_, fun n a1 a2 hk m hm => ?_, ?_, fun p hp8 => ?_⟩
    · by_cases q : n = S 0 0 + S 0 1
      · rw [q, e9]
        exact ⟨by omega, fun z => absurd rfl z, fun z => by omega⟩
      · obtain ⟨x9, x10, x11, -, -⟩ := er n (by omega)
        rw [x9, x10, x11]
        exact w n (by omega) (by omega)
    · by_cases q : n = S 0 0 + S 0 1
      · rw [q, e9] at hk3; omega
      · obtain ⟨x9, x10, x11, x12, x14⟩ := er n (by omega)
        rw [x9] at hk3
        obtain ⟨b1, b2⟩ := k3 n (by omega) (by omega) hk3
        rw [x14, x10, eF]
        refine ⟨b1, fun z => ?_⟩
        rw [(er _ (show S 14 n < _ by omega)).1, (er _ (show S 14 n < _ by omega)).2.1]
        exact b2 z
    · by_cases q : n = S 0 0 + S 0 1
      · rw [q, e9] at hk; omega
      · obtain ⟨x9, x10, x11, x12, x14⟩ := er n (by omega)
        rw [x9] at hk
        rw [x10, eF] at hm
        have h1 := LB_cg (T := S) (S := T) (fun k c1 c2 => ⟨(er k (by omega)).1.symm, (er k (by omega)).2.1.symm⟩) hm
        have h2 := h1.2.1
        rw [(er m (by omega)).1]
        exact al n (by omega) (by omega) hk m h1
    · rw [eF, eN]
      exact Nat.le_trans (phi_le _ _ _) (by omega)
    · rw [to 2 p (by omega) (by omega), t2]
      have := dm p hp8
      omega
  have sM : Sm T := by
    refine ⟨by rw [to 0 6 (by omega) (by omega)]; exact n9.1, by rw [to 0 7 (by omega) (by omega)]; exact n9.2.1, by rw [to 0 8 (by omega) (by omega)]; exact n9.2.2.1, fun i hi => ?_, by rw [to 0 5 (by omega) (by omega)]; exact n9.2.2.2.2⟩
    rw [to 8 i (by omega) (by omega)]
    exact n9.2.2.2.1 i hi
  have B1 : Bd (b + 500) T := by
    have s3 := n9.2.2.1
    have s2 := n9.2.1
    have B0 : Bd (b + 500) (app S 5 0 0 (S 0 8) (S 0 7) 0) := Bd_app n1 (by omega) (by omega) (by omega) (by omega) (by omega) (by omega) (by omega)
    rw [eT]
    refine Bd_up ?_ (by omega)
    have B2 : Bd (b + 500) (up (up (app S 5 0 0 (S 0 8) (S 0 7) 0) 0 3 (S 0 0 + S 0 1)) 0 4 (mp S (S 0 0 + S 0 1) 8)) := Bd_up (Bd_up B0 (by omega)) (by omega)
    intro f i
    simp only [upr]
    split
    · have y1 := n1 5 i
      have y2 := n1 15 i
      split
      · split <;> omega
      · omega
    · exact B2 f i
  refine ⟨Nm_of hj' B1 (by omega) (by omega) hbb sM, hj', fun p hp8 => ?_, fun _ => ⟨fun g' hg' => ?_, fun a c p ha hc hp8 hne oa oc => ?_⟩, fun z => absurd q3 (by rw [← to 0 5 (by omega) (by omega)]; exact z)⟩
  · exact PP_of (hp p hp8) (by rw [to 0 6 (by omega) (by omega)]) (by rw [to 0 7 (by omega) (by omega)]) (to 2 p (by omega) (by omega)) (to 4 p (by omega) (by omega)) (to 5 p (by omega) (by omega)) (by omega) (fun z => by rw [eF]; exact ((hp p hp8).2.2 z).1) (fun z _ => by rw [t4]; exact m4 p hp8 z)
  · rw [to 0 8 (by omega) (by omega)]
    refine ⟨fun z => GC_ext ((r1 g' hg').1 z) n7 E (Or.inr rfl) (fun _ => by rw [t4]; have := m1 g' hg' z; omega) (to 6 g' (by omega) (by omega)) (to 7 g' (by omega) (by omega)), fun z => ?_⟩
    rw [eF, eN, ← Nat.add_assoc] at z
    exact (r1 g' hg').2 ((OJ_up e' (by unfold bd4; rw [e9]; omega)).mp z)
  · rw [to 0 8 (by omega) (by omega)] at oa oc
    rw [to 8 a (by omega) (by omega), to 8 c (by omega) (by omega)]
    exact r2 a c p ha hc hp8 hne oa oc
end IX
