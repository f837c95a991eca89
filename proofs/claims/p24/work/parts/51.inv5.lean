section IY
variable {S T : St} {b g p v : Nat}
theorem drb_le (h : JI S) : drb S ≤ S 0 1 ∧ (S 0 3 ≠ 0 → drb S < S 0 1) := by
  unfold drb
  split
  · rename_i q
    exact ⟨Nat.zero_le _, fun z => absurd q z⟩
  · rename_i q
    have c := h.2.2.1 q
    have c1 := c.1
    have c2 := c.2.1
    have c3 := JI_dl h q
    have c4 := h.1.2.2.2
    omega
theorem iv_dro (h : Inv b S) (hbb : b + 500 < 2 ^ 27) : Inv (b + 500) (aDro S).2 := by
  unfold aDro
  by_cases q1 : S 0 5 ≠ 0 ∨ S 0 3 = 0
  · rw [if_pos q1]; exact Inv_le h (by omega) hbb
  rw [if_neg q1]
  have q3 : S 0 5 = 0 := by omega
  have q4 : S 0 3 ≠ 0 := by omega
  obtain ⟨⟨n1, ⟨n2, n2'⟩, n3, n4, n5, n6, n7, n8, n9⟩, hj, hp, hr, hst⟩ := h
  obtain ⟨r1, r2⟩ := hr q3
  have hdb := drb_le hj
  have ed : drb S = S 0 4 - S 0 0 := by unfold drb; rw [if_neg q4]
  obtain ⟨⟨w, f1, f2', f3⟩, l0, l1, k3, al, ph, dm⟩ := hj
  obtain ⟨c1, c2, c3, c4, c5, c6, ⟨d1, d2, d3, d4⟩, c8⟩ := l1 q4
  obtain ⟨T, eT⟩ : ∃ T, T = dro S := ⟨_, rfl⟩
  show Inv _ (dro S)
  rw [← eT]
  have to : ∀ f i, ¬ (f = 0 ∧ (i = 0 ∨ i = 1)) → T f i = S f i := fun f i a => by rw [eT, dro, up_ne (by omega), up_ne (by omega)]
  have eF : T 0 0 = S 0 0 + drb S := by rw [eT, dro, up_at]
  have eN : T 0 1 = S 0 1 - drb S := by rw [eT, dro, up_ne (by omega), up_at]
  have e' : ∀ lo hi n, lo ≤ n → n < hi → T 9 n = S 9 n ∧ T 10 n = S 10 n := fun _ _ n _ _ => ⟨to 9 n (by omega), to 10 n (by omega)⟩
  have e3 : T 0 3 = S 0 3 := to 0 3 (by omega)
  have e4 : T 0 4 = S 0 4 := to 0 4 (by omega)
  have e2 : T 0 2 = S 0 2 := to 0 2 (by omega)
  have hj' : JI T := by
    refine ⟨⟨fun n a1 a2 => ?_, by omega, by omega, by omega⟩, fun q => by omega, fun _ => ⟨by omega, by omega, by rw [e3, to 9 _ (by omega)]; exact c3, fun n a1 a2 => ?_, by rw [e3, to 12 _ (by omega)]; exact c5, fun g hg => ?_, ⟨by omega, fun g hg n hn hk => ?_, fun p hp8 hne => ?_, ?_⟩, fun p hp8 => ?_⟩, fun n a1 a2 hk3 => ?_, fun n a1 a2 hk m hm => ?_, ?_, fun p hp8 => ?_⟩
    · rw [to 9 n (by omega), to 10 n (by omega), to 11 n (by omega)]
      exact w n (by omega) (by omega)
    · rw [to 9 n (by omega)]
      exact c4 n (by omega) (by omega)
    · rw [e3, to 12 _ (by omega)]
      refine (c6 g hg).trans ⟨?_, ?_⟩
      · rintro ⟨n, h1, h2⟩
        have := d2 g hg n h1 h2
        have h3 := h1.1
        exact ⟨n, LB_cg (e' _ _) ⟨by omega, h1.2⟩, by rw [to 9 n (by omega)]; exact h2⟩
      · rintro ⟨n, h1, h2⟩
        have h3 := h1.1
        exact ⟨n, LB_lo (LB_cg (sy2 (e' _ _)) h1) (by omega), by rw [← to 9 n (by omega)]; exact h2⟩
    · rw [e3] at hn
      have h3 := hn.1
      rw [e4]
      exact d2 g hg n (LB_lo (LB_cg (sy2 (e' _ _)) hn) (by omega)) (by rw [← to 9 n (by omega)]; exact hk)
    · rw [to 15 p (by omega)] at hne ⊢
      rw [e4]
      exact d3 p hp8 hne
    · rw [e3, e4]
      rcases d4 with d4 | ⟨g, hg, n, h1, h2, h3⟩ | ⟨p, hp, h1, h2⟩
      · exact Or.inl d4
      · have h4 := h1.1
        exact Or.inr (Or.inl ⟨g, hg, n, LB_cg (e' _ _) ⟨by omega, h1.2⟩, by rw [to 9 n (by omega)]; exact h2, h3⟩)
      · exact Or.inr (Or.inr ⟨p, hp, by rw [to 15 p (by omega)]; exact h1, by rw [to 15 p (by omega)]; exact h2⟩)
    · rw [to 15 p (by omega)]
      rcases c8 p hp8 with z | z
      · exact Or.inl z
      · by_cases y : S 15 p = 0
        · exact Or.inl y
        · have := d3 p hp8 y
          exact Or.inr (by omega)
    · rw [to 9 n (by omega)] at hk3
      obtain ⟨b1, b2⟩ := k3 n (by omega) (by omega) hk3
      rw [to 14 n (by omega), to 10 n (by omega), to 9 _ (by omega), to 10 _ (by omega)]
      exact ⟨b1, fun z => b2 (by omega)⟩
    · rw [to 9 n (by omega)] at hk
      rw [to 10 n (by omega)] at hm
      have h3 := hm.1
      rw [to 9 m (by omega)]
      exact al n (by omega) (by omega) hk m (LB_lo (LB_cg (sy2 (e' _ _)) hm) (by omega))
    · rw [eF, eN, phi_cg (S := S) (fun n _ => ⟨to 9 n (by omega), to 10 n (by omega), to 14 n (by omega)⟩)]
      have := phi_drop S (S 0 0) (drb S) (S 0 1 - drb S)
      rw [show drb S + (S 0 1 - drb S) = S 0 1 by omega] at this
      exact Nat.le_trans this ph
    · rw [to 2 p (by omega), e2]
      exact dm p hp8
  refine ⟨Nm_of hj' ?_ (by omega) (by omega) hbb ⟨by rw [to 0 6 (by omega)]; exact n9.1, by rw [to 0 7 (by omega)]; exact n9.2.1, by rw [to 0 8 (by omega)]; exact n9.2.2.1, fun i hi => by rw [to 8 i (by omega)]; exact n9.2.2.2.1 i hi, by rw [to 0 5 (by omega)]; exact n9.2.2.2.2⟩, hj', fun p hp8 => ?_, fun _ => ⟨fun g' hg' => ?_, fun a c p ha hc hp8 hne oa oc => ?_⟩, fun z => absurd q3 (by rw [← to 0 5 (by omega)]; exact z)⟩
  · rw [eT]
    have y0 := n1 0 0
    have y1 := n1 0 1
    exact Bd_up (Bd_up (Bd_le n1 (by omega)) (by omega)) (by omega)
  · refine PP_of (hp p hp8) (by rw [to 0 6 (by omega)]) (by rw [to 0 7 (by omega)]) (to 2 p (by omega)) (to 4 p (by omega)) (to 5 p (by omega)) (by omega) (fun z => ?_) (fun z y => by rw [e4]; exact ((hp p hp8).2.2 z).2.2 q4)
    have y1 := ((hp p hp8).2.2 z).1
    have y2 := ((hp p hp8).2.2 z).2.2 q4
    omega
  · rw [to 0 8 (by omega)]
    refine ⟨fun z => ?_, fun z => ?_⟩
    · obtain ⟨x1, x2, x3, x4, x5⟩ := (r1 g' hg').1 z
      have y1 := x1.1
      have y2 := x3 q4
      refine ⟨?_, by rw [to 6 g' (by omega), to 9 _ (by omega)]; exact x2, fun _ => by rw [e4, to 6 g' (by omega)]; exact y2, fun n z1 z2 z3 => ?_, ?_⟩
      · rw [to 6 g' (by omega), show T 0 0 + T 0 1 = S 0 0 + S 0 1 by omega]
        exact LB_cg (e' _ _) ⟨by omega, x1.2⟩
      · rw [to 6 g' (by omega)] at z1
        rw [to 9 n (by omega)] at z3
        rw [to 10 n (by omega)]
        exact x4 n z1 (by omega) z3
      · rw [to 6 g' (by omega), to 7 g' (by omega), show T 0 0 + T 0 1 = S 0 0 + S 0 1 by omega, x5]
        refine cnt_cg _ (fun n a1 a2 => ?_)
        show _ ↔ (T 9 n = 1 ∧ T 10 n = g')
        rw [to 9 n (by omega), to 10 n (by omega)]
    · refine (r1 g' hg').2 ?_
      obtain ⟨n, h1, h2⟩ := z
      rw [show T 0 0 + T 0 1 = S 0 0 + S 0 1 by omega] at h1
      have h3 := h1.1
      exact ⟨n, LB_lo (LB_cg (sy2 (e' _ _)) h1) (by omega), by rw [← to 9 n (by omega)]; exact h2⟩
  · rw [to 0 8 (by omega)] at oa oc
    rw [to 8 a (by omega), to 8 c (by omega)]
    exact r2 a c p ha hc hp8 hne oa oc
/-- the end of the journal behind a stop -/
def mst (S : St) (t : Nat) : Nat := if t = 1 ∧ tornC S then S 0 2 - 1 else S 0 2
theorem mst_spec (h : JI S) (t : Nat) : S 0 0 ≤ mst S t + 1 ∧ mst S t ≤ S 0 2 ∧ (∀ p, p < 8 → S 2 p ≤ mst S t) ∧ (S 0 3 ≠ 0 → S 0 3 ≤ mst S t) := by
  obtain ⟨⟨w, f1, f2', f3⟩, l0, l1, k3, al, ph, dm⟩ := h
  unfold mst
  by_cases q : t = 1 ∧ tornC S = true
  · rw [if_pos q]
    have q2 := q.2
    unfold tornC at q2
    simp only [Bool.and_eq_true, decide_eq_true_eq, Bool.not_eq_true', decide_eq_false_iff_not] at q2
    obtain ⟨⟨⟨t1, t2⟩, t3⟩, t4⟩ := q2
    have t5 := (hmx_lt (f := S 2) (n := S 0 2) (by omega) 8).mp t2
    refine ⟨by omega, by omega, fun p hp => ?_, fun z => ?_⟩
    · have := t5 p hp
      omega
    · have c := l1 z
      have c2 := c.2.1
      have c3 := c.2.2.1
      have : S 0 3 ≠ S 0 2 := fun e => t4 (by rw [← e]; exact c3)
      omega
  · rw [if_neg q]
    exact ⟨by omega, Nat.le_refl _, dm, fun z => (l1 z).2.1⟩
theorem iv_stop (h : Inv b S) (t : Nat) (hbb : b + 500 < 2 ^ 27) : Inv (b + 500) (aStop S t).2 := by
  unfold aStop
  by_cases q1 : S 0 5 ≠ 0
  · rw [if_pos q1]; exact Inv_le h (by omega) hbb
  rw [if_neg q1]
  obtain ⟨⟨n1, ⟨n2, n2'⟩, n3, n4, n5, n6, n7, n8, n9⟩, hj, hp, hr, hst⟩ := h
  obtain ⟨m1, m2, m3, m4⟩ := mst_spec hj t
  obtain ⟨⟨w, f1, f2', f3⟩, l0, l1, k3, al, ph, dm⟩ := hj
  obtain ⟨T, eT⟩ : ∃ T, T = stp S t := ⟨_, rfl⟩
  show Inv _ (stp S t)
  rw [← eT]
  have to : ∀ f i, ¬ (f = 0 ∧ (i = 1 ∨ i = 2 ∨ i = 5 ∨ i = 6 ∨ i = 7 ∨ i = 8)) → T f i = S f i := fun f i a => by
    rw [eT, stp, up_ne (by omega), up_ne (by omega), emp, up_ne (by omega), up_ne (by omega), los, up_ne (by omega), up_ne (by omega)]
  have eF : T 0 0 = S 0 0 := to 0 0 (by omega)
  have eN : T 0 1 = mst S t + 1 - S 0 0 := by rw [eT]; simp [stp, emp, los, up, mst]
  have e2 : T 0 2 = mst S t := by rw [eT]; simp [stp, emp, los, up, mst]
  have e5 : T 0 5 = 1 := by rw [eT]; simp [stp, up]
  have e6 : T 0 6 = 0 := by rw [eT]; simp [stp, emp, up]
  have e7 : T 0 7 = 0 := by rw [eT]; simp [stp, emp, up]
  have e8 : T 0 8 = 0 := by rw [eT]; simp [stp, up]
  have e3 : T 0 3 = S 0 3 := to 0 3 (by omega)
  have e' : ∀ lo hi n, lo ≤ n → n < hi → T 9 n = S 9 n ∧ T 10 n = S 10 n := fun _ _ n _ _ => ⟨to 9 n (by omega), to 10 n (by omega)⟩
  have hj' : JI T := by
    refine ⟨⟨fun n a1 a2 => ?_, by omega, by omega, by omega⟩, fun q => ?_, fun q => ?_, fun n a1 a2 hk3 => ?_, fun n a1 a2 hk m hm => ?_, ?_, fun p hp8 => ?_⟩
    · rw [to 9 n (by omega), to 10 n (by omega), to 11 n (by omega)]
      exact w n (by omega) (by omega)
    · obtain ⟨b1, b2⟩ := l0 (by omega)
      exact ⟨by omega, fun n a1 a2 => by rw [to 9 n (by omega)]; exact b2 n (by omega) (by omega)⟩
    · have q4 : S 0 3 ≠ 0 := by omega
      obtain ⟨c1, c2, c3, c4, c5, c6, c7, c8⟩ := l1 q4
      have := m4 q4
      refine ⟨by omega, by omega, by rw [e3, to 9 _ (by omega)]; exact c3, fun n a1 a2 => by rw [to 9 n (by omega)]; exact c4 n (by omega) (by omega), by rw [e3, to 12 _ (by omega)]; exact c5, fun g hg => ?_, DL_cg eF (SL_of (fun f i a => to f i (by omega))) (e' _ _) c7, fun p hp8 => by rw [to 15 p (by omega), eF]; exact c8 p hp8⟩
      rw [e3, eF, to 12 _ (by omega)]
      exact (c6 g hg).trans ⟨OJ_cg (e' _ _), OJ_cg (sy2 (e' _ _))⟩
    · rw [to 9 n (by omega)] at hk3
      obtain ⟨b1, b2⟩ := k3 n (by omega) (by omega) hk3
      rw [to 14 n (by omega), to 10 n (by omega), to 9 _ (by omega), to 10 _ (by omega), eF]
      exact ⟨b1, b2⟩
    · rw [to 9 n (by omega)] at hk
      rw [to 10 n (by omega), eF] at hm
      rw [to 9 m (by omega)]
      exact al n (by omega) (by omega) hk m (LB_cg (sy2 (e' _ _)) hm)
    · rw [eF, eN, phi_cg (S := S) (fun n _ => ⟨to 9 n (by omega), to 10 n (by omega), to 14 n (by omega)⟩)]
      have := phi_cut S (S 0 0) (mst S t + 1 - S 0 0) (S 0 1 - (mst S t + 1 - S 0 0))
      rw [show mst S t + 1 - S 0 0 + (S 0 1 - (mst S t + 1 - S 0 0)) = S 0 1 by omega] at this
      exact Nat.le_trans this ph
    · rw [to 2 p (by omega), e2]
      exact m3 p hp8
  refine ⟨Nm_of hj' ?_ (by omega) (by omega) hbb ⟨by rw [e6]; decide, by rw [e7]; decide, by rw [e8]; decide, fun i hi => by rw [to 8 i (by omega)]; exact n9.2.2.2.1 i hi, by rw [e5]; decide⟩, hj', fun p hp8 => ?_, fun z => by omega, fun _ => ⟨e6, e7, e8, by omega⟩⟩
  · rw [eT]
    have B0 : Bd (b + 500) S := Bd_le n1 (by omega)
    have y0 := n1 0 2
    unfold mst at m1 m2
    unfold stp emp los
    exact Bd_up (Bd_up (Bd_up (Bd_up (Bd_up (Bd_up B0 (by omega)) (by omega)) (by omega)) (by omega)) (by omega)) (by omega)
  · rw [e6, e7, Nat.zero_testBit]
    exact ⟨⟨fun z => (nomatch z), fun z => (nomatch z.1)⟩, fun z => (nomatch z), fun z => (nomatch z)⟩
end IY
