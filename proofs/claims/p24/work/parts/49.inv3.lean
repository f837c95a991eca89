theorem ent_o {S : St} {g n f i : Nat} (h : f ≠ 6 ∧ f ≠ 7 ∧ f ≠ 8 ∧ ¬ (f = 0 ∧ i = 8)) : ent S g n f i = S f i := by
  simp only [ent, up]
  rw [if_neg h.2.2.2, if_neg (by omega), if_neg (by omega), if_neg (by omega)]
theorem hld_o {S : St} {g n f i : Nat} (h : f ≠ 7 ∧ f ≠ 8) : hld S g n f i = S f i := by
  simp only [hld, up]
  rw [if_neg (by omega), if_neg (by omega)]
theorem lev_o {S : St} {g f i : Nat} (h : ¬ (f = 0 ∧ i = 8)) : lev S g f i = S f i := by
  simp only [lev, up]
  rw [if_neg h]
theorem frc_o {S : St} {n f i : Nat} (h : ¬ (f = 0 ∧ i = 2)) : frc S n f i = S f i := by
  simp only [frc, up]
  rw [if_neg h]
theorem toD_o {S : St} {p f i : Nat} (h : f ≠ 1 ∧ f ≠ 2 ∧ ¬ (f = 0 ∧ i = 7)) : toD S p f i = S f i := by
  simp only [toD, up]
  rw [if_neg h.2.2, if_neg (by omega), if_neg (by omega)]
theorem EX_app {S : St} {kd g pg a v t : Nat} : EX S (app S kd g pg a v t) kd g t := by
  refine ⟨app_F, app_N, fun n h => ?_, ?_, ?_, ?_⟩
  · obtain ⟨r1, r2, r3, r4, r5, r6⟩ := app_r (S := S) (a1 := kd) (a2 := g) (a3 := pg) (a4 := a) (a5 := v) (a6 := t) (n := n)
    have e : ¬ (n = S 0 0 + S 0 1) := by omega
    rw [r1, r2, r3, r4, r6, if_neg e, if_neg e, if_neg e, if_neg e, if_neg e]
    exact ⟨rfl, rfl, rfl, rfl, rfl⟩
  all_goals
    obtain ⟨r1, r2, r3, r4, r5, r6⟩ := app_r (S := S) (a1 := kd) (a2 := g) (a3 := pg) (a4 := a) (a5 := v) (a6 := t) (n := S 0 0 + S 0 1)
  · rw [r1, if_pos rfl]
  · rw [r2, if_pos rfl]
  · rw [r6, if_pos rfl]
theorem EX_of {S X T : St} {kd g t : Nat} (h : EX S X kd g t) (e : ∀ f i, (9 ≤ f ∧ f ≤ 14) ∨ (f = 0 ∧ i < 2) → T f i = X f i) : EX S T kd g t := by
  obtain ⟨eF, eN, er, e9, e10, e14⟩ := h
  refine ⟨(e 0 0 (by omega)).trans eF, (e 0 1 (by omega)).trans eN, fun n hn => ?_, (e 9 _ (by omega)).trans e9, (e 10 _ (by omega)).trans e10, (e 14 _ (by omega)).trans e14⟩
  obtain ⟨r1, r2, r3, r4, r5⟩ := er n hn
  exact ⟨(e 9 n (by omega)).trans r1, (e 10 n (by omega)).trans r2, (e 11 n (by omega)).trans r3, (e 12 n (by omega)).trans r4, (e 14 n (by omega)).trans r5⟩
theorem EX_lt {S T : St} {kd g t : Nat} (E : EX S T kd g t) : ∀ n, S 0 0 ≤ n → n < S 0 0 + S 0 1 → T 9 n = S 9 n ∧ T 10 n = S 10 n := fun n _ h => ⟨(E.2.2.1 n h).1, (E.2.2.1 n h).2.1⟩
theorem SL_of {S T : St} (e : ∀ f i, (f = 0 ∧ (i = 3 ∨ i = 4)) ∨ f = 15 → T f i = S f i) : SL S T := ⟨e 0 3 (by omega), e 0 4 (by omega), fun p => e 15 p (by omega)⟩
theorem hol_spec (S : St) (p : Nat) : (hol S p = -1000004 ∧ ∀ g, g < 4 → hb S g p = false) ∨ ∃ g, g < 4 ∧ hol S p = nI g ∧ hb S g p = true := by
  unfold hol
  cases h0 : hb S 0 p
  · cases h1 : hb S 1 p
    · cases h2 : hb S 2 p
      · cases h3 : hb S 3 p
        · refine Or.inl ⟨rfl, fun g hg => ?_⟩
          rcases (show g = 0 ∨ g = 1 ∨ g = 2 ∨ g = 3 by omega) with e | e | e | e <;> rw [e] <;> assumption
        · exact Or.inr ⟨3, by omega, rfl, h3⟩
      · exact Or.inr ⟨2, by omega, rfl, h2⟩
    · exact Or.inr ⟨1, by omega, rfl, h1⟩
  · exact Or.inr ⟨0, by omega, rfl, h0⟩
section IW
variable {S : St} {b g p v : Nat}
theorem JI_dl (h : JI S) : S 0 3 ≠ 0 → S 0 4 ≤ S 0 3 ∧ S 0 3 ≤ S 0 2 := fun q => ⟨(h.2.2.1 q).2.2.2.2.2.2.1.1, (h.2.2.1 q).2.1⟩
theorem iv_begin (h : Inv b S) (hg : g < 4) (hb : b + 500 < 2 ^ 27) : Inv (b + 500) (aBegin S g).2 := by
  unfold aBegin
  by_cases q1 : S 0 5 ≠ 0 ∨ (S 0 8).testBit g = true
  · rw [if_pos q1]; exact Inv_le h (by omega) hb
  rw [if_neg q1]
  by_cases q2 : 60 ≤ S 0 1
  · rw [if_pos q2]; exact Inv_le h (by omega) hb
  rw [if_neg q2]
  obtain ⟨⟨n1, ⟨n2, n2'⟩, n3, n4, n5, n6, n7, n8, n9⟩, hj, hp, hr, hst⟩ := h
  have q3 : S 0 5 = 0 := by
    by_cases z : S 0 5 = 0
    · exact z
    · exact absurd (Or.inl z) q1
  have q4 : (S 0 8).testBit g = false := by
    cases z : (S 0 8).testBit g
    · rfl
    · exact absurd (Or.inr z) q1
  obtain ⟨r1, r2⟩ := hr q3
  obtain ⟨T, eT⟩ : ∃ T, T = ent (app S 0 g 0 0 0 0) g (S 0 0 + S 0 1) := ⟨_, rfl⟩
  show Inv _ (ent (app S 0 g 0 0 0 0) g (S 0 0 + S 0 1))
  have to : ∀ f i, (f < 6 ∨ f = 15) → ¬ (f = 0 ∧ (i = 1 ∨ i = 8)) → T f i = S f i := fun f i a c => by rw [eT, ent_o (by omega), app_o (by omega) (by omega)]
  have E : EX S T 0 g 0 := EX_of EX_app (fun f i a => by rw [eT, ent_o (by omega)])
  have t6 : ∀ i, T 6 i = if i = g then S 0 0 + S 0 1 else S 6 i := fun i => by rw [eT]; simp [ent, app, up]
  have t7 : ∀ i, T 7 i = if i = g then 0 else S 7 i := fun i => by rw [eT]; simp [ent, app, up]
  have t8 : ∀ i, T 8 i = if i = g then 0 else S 8 i := fun i => by rw [eT]; simp [ent, app, up]
  have tO : T 0 8 = (S 0 8 ||| 2 ^ g) := by rw [eT]; simp [ent, app, up]
  have sO := tset8 (S 0 8) (by have := n9.2.2.1; omega) g (by omega)
  have sM : Sm T := by
    refine ⟨by rw [to 0 6 (by omega) (by omega)]; exact n9.1, by rw [to 0 7 (by omega) (by omega)]; exact n9.2.1, by rw [tO]; exact (tset4 _ n9.2.2.1 g hg).1, fun i hi => ?_, by rw [to 0 5 (by omega) (by omega)]; exact n9.2.2.2.2⟩
    rw [t8]
    split
    · decide
    · exact n9.2.2.2.1 i hi
  have B1 : Bd (b + 500) T := by
    rw [eT]
    have B0 : Bd (b + 500) (app S 0 g 0 0 0 0) := Bd_app n1 (by omega) (by omega) (by omega) (by omega) (by omega) (by omega) (by omega)
    refine Bd_up (Bd_up (Bd_up (Bd_up B0 (by omega)) (by omega)) (by omega)) ?_
    rw [app_o (by omega) (by omega)]
    have := sO.1
    omega
  have f2 : T 0 2 = S 0 2 := to 0 2 (by omega) (by omega)
  have dlL := JI_dl hj
  have hj0 := hj
  obtain ⟨⟨w, f1, f2', f3⟩, l0, l1, k3, al, ph, dm⟩ := hj0
  have hj' : JI T := JI_ext hj E (SL_of (fun f i a => to f i (by omega) (by omega))) (by omega) hg (fun z => by omega) (by omega) (by omega) (fun p hp => by rw [to 2 p (by omega) (by omega), f2]; exact dm p hp) (fun z => by omega) (fun z => by omega) (Nat.le_trans (phi_le _ _ _) (by omega))
  have hT : T 0 0 = S 0 0 ∧ T 0 1 = S 0 1 + 1 := ⟨E.1, E.2.1⟩
  have hL : ∀ x, (S 0 3 ≠ 0 → S 0 4 ≤ x) → T 0 3 ≠ 0 → T 0 4 ≤ x := fun x a z => by rw [to 0 3 (by omega) (by omega)] at z; rw [to 0 4 (by omega) (by omega)]; exact a z
  rw [← eT]
  refine ⟨Nm_of hj' B1 (by omega) (by omega) hb sM, hj', fun p hp8 => ?_, fun _ => ⟨fun g' hg' => ?_, fun a c p ha hc hp8 hne oa oc => ?_⟩, fun z => absurd q3 (by rw [← to 0 5 (by omega) (by omega)]; exact z)⟩
  · exact PP_of (hp p hp8) (by rw [to 0 6 (by omega) (by omega)]) (by rw [to 0 7 (by omega) (by omega)]) (to 2 p (by omega) (by omega)) (to 4 p (by omega) (by omega)) (to 5 p (by omega) (by omega)) (by omega) (fun z => by rw [hT.1]; exact ((hp p hp8).2.2 z).1) (fun z => hL _ ((hp p hp8).2.2 z).2.2)
  · rw [tO, sO.2 g' (by omega)]
    by_cases e : g' = g
    · subst e
      rw [decide_eq_true rfl, Bool.or_true]
      refine ⟨fun _ => GC_new hj E (by rw [t6, if_pos rfl]) (by rw [t7, if_pos rfl]) (hL _ (fun z => by have := dlL z; omega)), fun _ => rfl⟩
    · rw [decide_eq_false e, Bool.or_false]
      refine ⟨fun z => GC_ext ((r1 g' hg').1 z) n7 E (Or.inl e) (hL _ ((r1 g' hg').1 z).2.2.1) (by rw [t6, if_neg e]) (by rw [t7, if_neg e]), fun z => ?_⟩
      rw [hT.1, hT.2, ← Nat.add_assoc] at z
      exact (r1 g' hg').2 ((OJ_up (EX_lt E) (by unfold bd4; rw [E.2.2.2.2.1]; exact fun y => e y.2.symm)).mp z)
  · rw [tO, sO.2 _ (by omega)] at oa oc
    rw [t8, t8]
    by_cases ea : a = g
    · rw [if_pos ea, Nat.zero_testBit]; exact fun z => nomatch z
    · by_cases ec : c = g
      · rw [if_pos ec, Nat.zero_testBit]; exact fun _ z => nomatch z
      · rw [if_neg ea, if_neg ec]
        rw [decide_eq_false ea, Bool.or_false] at oa
        rw [decide_eq_false ec, Bool.or_false] at oc
        exact r2 a c p ha hc hp8 hne oa oc
theorem iv_write (h : Inv b S) (hg : g < 4) (hp8 : p < 8) (hv : v < 100) (hbb : b + 500 < 2 ^ 27) : Inv (b + 500) (aWrite S g p v).2 := by
  unfold aWrite
  by_cases q1 : S 0 5 ≠ 0 ∨ (S 0 8).testBit g = false ∨ ¬ (hol S p < 0 ∨ hol S p = nI g)
  · rw [if_pos q1]; exact Inv_le h (by omega) hbb
  rw [if_neg q1]
  by_cases q2 : 60 ≤ S 0 1
  · rw [if_pos q2]; exact Inv_le h (by omega) hbb
  rw [if_neg q2]
  obtain ⟨⟨n1, ⟨n2, n2'⟩, n3, n4, n5, n6, n7, n8, n9⟩, hj, hp, hr, hst⟩ := h
  have q3 : S 0 5 = 0 := by
    by_cases z : S 0 5 = 0
    · exact z
    · exact absurd (Or.inl z) q1
  have q4 : (S 0 8).testBit g = true := by
    cases z : (S 0 8).testBit g
    · exact absurd (Or.inr (Or.inl z)) q1
    · rfl
  have q5 : hol S p < 0 ∨ hol S p = nI g := by
    by_cases z : hol S p < 0 ∨ hol S p = nI g
    · exact z
    · exact absurd (Or.inr (Or.inr z)) q1
  obtain ⟨r1, r2⟩ := hr q3
  obtain ⟨X, eX⟩ : ∃ X, X = app S 1 g p (val S p) v 0 := ⟨_, rfl⟩
  obtain ⟨T, eT⟩ : ∃ T, T = hld (put X p v (S 0 0 + S 0 1)) g p := ⟨_, rfl⟩
  show Inv _ (hld (put (app S 1 g p (val S p) v 0) p v (S 0 0 + S 0 1)) g p)
  rw [← eX, ← eT]
  have xo : ∀ f i, (f < 9 ∨ f = 15) → ¬ (f = 0 ∧ i = 1) → X f i = S f i := fun f i a c => by rw [eX, app_o (by omega) (by omega)]
  have to : ∀ f i, (f = 0 ∧ i ≠ 1 ∧ i ≠ 6 ∧ i ≠ 7) ∨ f = 1 ∨ f = 2 ∨ f = 6 ∨ f = 15 → T f i = S f i := fun f i a => by rw [eT, hld_o (by omega), put_o (by omega), xo _ _ (by omega) (by omega)]
  have EXx : EX S X 1 g 0 := by rw [eX]; exact EX_app
  have E : EX S T 1 g 0 := EX_of EXx (fun f i a => by rw [eT, hld_o (by omega), put_o (by omega)])
  have t7 : ∀ i, T 7 i = if i = g then S 7 g + 1 else S 7 i := fun i => by
    have e1 : ∀ i, put X p v (S 0 0 + S 0 1) 7 i = S 7 i := fun i => by rw [put_o (by omega), xo _ _ (by omega) (by omega)]
    rw [eT]
    simp [hld, up, e1]
  have t8 : ∀ i, T 8 i = if i = g then (S 8 g ||| 2 ^ p) else S 8 i := fun i => by
    have e1 : ∀ i, put X p v (S 0 0 + S 0 1) 8 i = S 8 i := fun i => by rw [put_o (by omega), xo _ _ (by omega) (by omega)]
    rw [eT]
    simp [hld, up, e1]
  have tO : T 0 8 = S 0 8 := to 0 8 (by omega)
  have sH := tset8 (S 8 g) (n9.2.2.2.1 g hg) p hp8
  have sX : Sm X := by rw [eX]; exact Sm_app n9
  have sP := Sm_put (v := v) (n := S 0 0 + S 0 1) sX hp8
  have sM : Sm T := by
    refine ⟨by rw [eT, hld_o (by omega)]; exact sP.1, by rw [eT, hld_o (by omega)]; exact sP.2.1, by rw [tO]; exact n9.2.2.1, fun i hi => ?_, by rw [to 0 5 (by omega)]; exact n9.2.2.2.2⟩
    rw [t8]
    split
    · exact sH.1
    · exact n9.2.2.2.1 i hi
  have hval := val_le n1 (p := p)
  have B1 : Bd (b + 500) T := by
    have B0 : Bd (b + 500) X := by
      rw [eX]
      exact Bd_app n1 (by omega) (by omega) (by omega) (by omega) (by omega) (by omega) (by omega)
    have B2 : Bd (b + 500) (put X p v (S 0 0 + S 0 1)) := Bd_put B0 sX (by omega) hp8 (by omega) (by omega)
    rw [eT]
    refine Bd_up (Bd_up B2 ?_) ?_
    · rw [put_o (by omega), xo _ _ (by omega) (by omega)]
      have := n1 7 g
      omega
    · rw [put_o (by omega), xo _ _ (by omega) (by omega)]
      have := sH.1
      omega
  have dlL := JI_dl hj
  have hj0 := hj
  obtain ⟨⟨w, f1, f2', f3⟩, l0, l1, k3, al, ph, dm⟩ := hj0
  have hT : T 0 0 = S 0 0 ∧ T 0 1 = S 0 1 + 1 := ⟨E.1, E.2.1⟩
  have x11 : T 11 (S 0 0 + S 0 1) = p := by
    rw [eT, hld_o (by omega), put_o (by omega), eX, app_r.2.2.1, if_pos rfl]
  have f2 : T 0 2 = S 0 2 := to 0 2 (by omega)
  have hj' : JI T := JI_ext hj E (SL_of (fun f i a => to f i (by omega))) (by omega) hg (fun _ => by rw [x11]; exact hp8) (by omega) (by omega) (fun p hp => by rw [to 2 p (by omega), f2]; exact dm p hp) (fun z => by omega) (fun z => by omega) (Nat.le_trans (phi_le _ _ _) (by omega))
  have hL : ∀ x, (S 0 3 ≠ 0 → S 0 4 ≤ x) → T 0 3 ≠ 0 → T 0 4 ≤ x := fun x a z => by rw [to 0 3 (by omega)] at z; rw [to 0 4 (by omega)]; exact a z
  have hdp := dm p hp8
  refine ⟨Nm_of hj' B1 (by omega) (by omega) hbb sM, hj', fun q hq => ?_, fun _ => ⟨fun g' hg' => ?_, fun a c q ha hc hq hne oa oc => ?_⟩, fun z => absurd q3 (by rw [← to 0 5 (by omega)]; exact z)⟩
  · have hX : PP X q := PP_of (hp q hq) (by rw [xo _ _ (by omega) (by omega)]) (by rw [xo _ _ (by omega) (by omega)]) (xo _ _ (by omega) (by omega)) (xo _ _ (by omega) (by omega)) (xo _ _ (by omega) (by omega)) (by have := EXx.1; have := EXx.2.1; omega) (fun z => by rw [EXx.1]; exact ((hp q hq).2.2 z).1) (fun z => by rw [xo _ _ (by omega) (by omega), xo _ _ (by omega) (by omega)]; exact ((hp q hq).2.2 z).2.2)
    have hPu : PP (put X p v (S 0 0 + S 0 1)) q := PP_put sX hp8 (by rw [EXx.1]; omega) (by rw [EXx.1, EXx.2.1]; omega) (by rw [xo _ _ (by omega) (by omega)]; omega) (fun z => by rw [xo _ _ (by omega) (by omega)] at z ⊢; have := dlL z; omega) hq hX
    have e : ∀ f i, f < 6 → T f i = put X p v (S 0 0 + S 0 1) f i := fun f i a => by rw [eT, hld_o (by omega)]
    unfold PP at hPu
    show PP T q
    unfold PP
    rw [e _ _ (by omega), e _ _ (by omega), e _ _ (by omega), e _ _ (by omega), e _ _ (by omega), e _ _ (by omega), e _ _ (by omega), e _ _ (by omega), e _ _ (by omega)]
    exact hPu
  · rw [tO]
    by_cases e : g' = g
    · subst e
      refine ⟨fun z => GC_write ((r1 g' hg').1 z) E (hL _ ((r1 g' hg').1 z).2.2.1) (to 6 g' (by omega)) (by rw [t7, if_pos rfl]), fun _ => q4⟩
    · refine ⟨fun z => GC_ext ((r1 g' hg').1 z) n7 E (Or.inl e) (hL _ ((r1 g' hg').1 z).2.2.1) (to 6 g' (by omega)) (by rw [t7, if_neg e]), fun z => ?_⟩
      rw [hT.1, hT.2, ← Nat.add_assoc] at z
      exact (r1 g' hg').2 ((OJ_up (EX_lt E) (by unfold bd4; rw [E.2.2.2.1]; omega)).mp z)
  · rw [tO] at oa oc
    have no : ∀ x, x < 4 → x ≠ g → (S 0 8).testBit x = true → (S 8 x).testBit p = true → False := by
      intro x hx hxg ox hxp
      have hbx : hb S x p = true := by unfold hb; rw [ox, hxp]; rfl
      rcases hol_spec S p with ⟨s1, s2⟩ | ⟨y, hy, s1, s2⟩
      · rw [s2 x hx] at hbx; exact nomatch hbx
      · rw [s1, nL_neg (by omega), nL_eq (by omega) (by omega)] at q5
        have q5 : y = g := by simpa using q5
        rw [q5] at s2
        have s3 : (S 8 g).testBit p = true := by
          unfold hb at s2
          rw [q4] at s2
          simpa using s2
        exact r2 x g p hx hg hp8 hxg ox q4 hxp s3
    rw [t8, t8]
    by_cases ea : a = g
    · subst ea
      rw [if_pos rfl, if_neg (fun z => hne z.symm), sH.2 q hq]
      by_cases eq : q = p
      · subst eq
        exact fun _ z => no c hc (fun z => hne z.symm) oc z
      · rw [decide_eq_false eq, Bool.or_false]
        exact r2 a c q ha hc hq hne oa oc
    · rw [if_neg ea]
      by_cases ec : c = g
      · subst ec
        rw [if_pos rfl, sH.2 q hq]
        by_cases eq : q = p
        · subst eq
          exact fun z _ => no a ha ea oa z
        · rw [decide_eq_false eq, Bool.or_false]
          exact r2 a c q ha hc hq hne oa oc
      · rw [if_neg ec]
        exact r2 a c q ha hc hq hne oa oc
theorem iv_settle (h : Inv b S) (hg : g < 4) (hb : b + 500 < 2 ^ 27) : Inv (b + 500) (aSettle S g).2 := by
  unfold aSettle
  by_cases q1 : S 0 5 ≠ 0 ∨ (S 0 8).testBit g = false
  · rw [if_pos q1]; exact Inv_le h (by omega) hb
  rw [if_neg q1]
  by_cases q2 : 60 < S 0 1 + 1
  · rw [if_pos q2]; exact Inv_le h (by omega) hb
  rw [if_neg q2]
  obtain ⟨⟨n1, ⟨n2, n2'⟩, n3, n4, n5, n6, n7, n8, n9⟩, hj, hp, hr, hst⟩ := h
  have q3 : S 0 5 = 0 := by
    by_cases z : S 0 5 = 0
    · exact z
    · exact absurd (Or.inl z) q1
  have q4 : (S 0 8).testBit g = true := by
    cases z : (S 0 8).testBit g
    · exact absurd (Or.inr z) q1
    · rfl
  obtain ⟨r1, r2⟩ := hr q3
  obtain ⟨T, eT⟩ : ∃ T, T = lev (frc (app S 2 g 0 0 0 0) (S 0 0 + S 0 1)) g := ⟨_, rfl⟩
  show Inv _ (lev (frc (app S 2 g 0 0 0 0) (S 0 0 + S 0 1)) g)
  rw [← eT]
  have to : ∀ f i, (f < 9 ∨ f = 15) → ¬ (f = 0 ∧ (i = 1 ∨ i = 2 ∨ i = 8)) → T f i = S f i := fun f i a c => by rw [eT, lev_o (by omega), frc_o (by omega), app_o (by omega) (by omega)]
  have E : EX S T 2 g 0 := EX_of EX_app (fun f i a => by rw [eT, lev_o (by omega), frc_o (by omega)])
  have tO : T 0 8 = (S 0 8 &&& (255 - 2 ^ g)) := by rw [eT]; simp [lev, frc, app, up]
  have t2 : T 0 2 = S 0 0 + S 0 1 := by
    have : T 0 2 = S 0 2 + (S 0 0 + S 0 1 - S 0 2) := by rw [eT]; simp [lev, frc, app, up]
    omega
  have sO := tclr8 (S 0 8) (by have := n9.2.2.1; omega) g (by omega)
  have sM : Sm T := by
    refine ⟨by rw [to 0 6 (by omega) (by omega)]; exact n9.1, by rw [to 0 7 (by omega) (by omega)]; exact n9.2.1, by rw [tO]; exact (tset4 _ n9.2.2.1 g hg).2, fun i hi => ?_, by rw [to 0 5 (by omega) (by omega)]; exact n9.2.2.2.2⟩
    rw [to 8 i (by omega) (by omega)]
    exact n9.2.2.2.1 i hi
  have B1 : Bd (b + 500) T := by
    rw [eT]
    have B0 : Bd (b + 500) (app S 2 g 0 0 0 0) := Bd_app n1 (by omega) (by omega) (by omega) (by omega) (by omega) (by omega) (by omega)
    refine Bd_up (Bd_up B0 ?_) ?_
    · rw [app_o (by omega) (by omega)]; omega
    · rw [frc_o (by omega), app_o (by omega) (by omega)]
      have := sO.1
      omega
  have dlL := JI_dl hj
  have hj0 := hj
  obtain ⟨⟨w, f1, f2', f3⟩, l0, l1, k3, al, ph, dm⟩ := hj0
  have gc := (r1 g hg).1 q4
  have hj' : JI T := JI_ext hj E (SL_of (fun f i a => to f i (by omega) (by omega))) (by omega) hg (fun z => by omega) (by omega) (by omega) (fun p hp => by rw [to 2 p (by omega) (by omega)]; have := dm p hp; omega) (fun z => by omega) (fun _ m hm => by rw [LB_uq hm gc.1]; exact gc.2.1) (Nat.le_trans (phi_le _ _ _) (by omega))
  have hT : T 0 0 = S 0 0 ∧ T 0 1 = S 0 1 + 1 := ⟨E.1, E.2.1⟩
  have hL : ∀ x, (S 0 3 ≠ 0 → S 0 4 ≤ x) → T 0 3 ≠ 0 → T 0 4 ≤ x := fun x a z => by rw [to 0 3 (by omega) (by omega)] at z; rw [to 0 4 (by omega) (by omega)]; exact a z
  refine ⟨Nm_of hj' B1 (by omega) (by omega) hb sM, hj', fun p hp8 => ?_, fun _ => ⟨fun g' hg' => ?_, fun a c p ha hc hp8 hne oa oc => ?_⟩, fun z => absurd q3 (by rw [← to 0 5 (by omega) (by omega)]; exact z)⟩
  · exact PP_of (hp p hp8) (by rw [to 0 6 (by omega) (by omega)]) (by rw [to 0 7 (by omega) (by omega)]) (to 2 p (by omega) (by omega)) (to 4 p (by omega) (by omega)) (to 5 p (by omega) (by omega)) (by omega) (fun z => by rw [hT.1]; exact ((hp p hp8).2.2 z).1) (fun z => hL _ ((hp p hp8).2.2 z).2.2)
  · rw [tO, sO.2 g' (by omega)]
    by_cases e : g' = g
    · subst e
      rw [decide_eq_true rfl]
      refine ⟨fun z => by simp at z, fun z => ?_⟩
      rw [hT.1, hT.2, ← Nat.add_assoc] at z
      obtain ⟨n, z1, z2⟩ := z
      have e1 := LB_uq z1 (LB_new (lo := S 0 0) (hi := S 0 0 + S 0 1) (by omega) ⟨Or.inr (Or.inl E.2.2.2.1), E.2.2.2.2.1⟩)
      rw [e1, E.2.2.2.1] at z2
      omega
    · rw [decide_eq_false e, Bool.not_false, Bool.and_true]
      refine ⟨fun z => GC_ext ((r1 g' hg').1 z) n7 E (Or.inl e) (hL _ ((r1 g' hg').1 z).2.2.1) (to 6 g' (by omega) (by omega)) (to 7 g' (by omega) (by omega)), fun z => ?_⟩
      rw [hT.1, hT.2, ← Nat.add_assoc] at z
      exact (r1 g' hg').2 ((OJ_up (EX_lt E) (by unfold bd4; rw [E.2.2.2.2.1]; exact fun y => e y.2.symm)).mp z)
  · rw [tO, sO.2 _ (by omega)] at oa oc
    rw [to 8 a (by omega) (by omega), to 8 c (by omega) (by omega)]
    exact r2 a c p ha hc hp8 hne (Bool.and_eq_true_iff.mp oa).1 (Bool.and_eq_true_iff.mp oc).1
end IW
