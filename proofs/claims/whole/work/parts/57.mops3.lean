section MQ2
variable {M : Mem} {S T : St} {O : Nat → Bool} {b p g n t : Nat}
theorem m_canDrop (h : RN (M 11 29) S) (hR : RR (M 11 29) S) (hB : Bd b S) (hb : b < 2 ^ 28) (hN : S 0 1 ≤ 120) (hj : JI S) : f_X8_canDrop M = some (nI (drb S)) := by
  have y0 := hB 0 0
  have y3 := hB 0 3
  have y4 := hB 0 4
  rw [f_X8_canDrop, m_latest h hR hB hb hN hj, bO_some]
  unfold drb
  by_cases q : S 0 3 = 0
  · rw [if_pos (by rw [q]; rfl), if_pos q]; rfl
  rw [if_neg (by rw [nl0, nL_eq (by omega) (by omega)]; exact q), if_neg q]
  obtain ⟨⟨w, f1, f2', f3⟩, l0, l1, k3, al, ph, dm⟩ := hj
  obtain ⟨c1, c2, c3, c4, c5, c6, ⟨d1, d2, d3, d4⟩, c8⟩ := l1 q
  obtain ⟨-, -, -, -, -, -, r7, r8⟩ := hR (S 0 3 - S 0 0) (by omega)
  rw [show S 0 0 + (S 0 3 - S 0 0) = S 0 3 by omega] at r7 r8
  have of6 : f_X8_of M (nI (S 0 3)) 6 = some (nI (S 12 (S 0 3))) := (m_of h c1 (by omega) (k := 6) (by omega)).trans (congrArg some (r7 c3).1)
  have of8 : ∀ p, p < 8 → f_X8_of M (nI (S 0 3)) (8 + nI p) = some (nI (S 15 p)) := fun p hp => by
    rw [nl8, nI_add]
    exact (m_of h c1 (by omega) (k := 8 + p) (by omega)).trans (congrArg some (r8 rfl p hp))
  -- the pages
  have lp2 : ∀ d i fu v, i + d = 8 → d < fu → S 0 4 ≤ v → v ≤ S 0 3 → (∀ g, g < 4 → ∀ n, LB S g (S 0 0) (S 0 3) n → S 9 n = 0 → v ≤ n) → (∀ p, p < i → S 15 p ≠ 0 → v ≤ S 15 p) → itr (f_X8_canDrop_L109 M) (fun _ _ _ => none) fu (nI (S 0 3)) (nI v) (nI i) = some (nI (S 0 4 - S 0 0)) := by
    intro d
    induction d with
    | zero =>
      intro i fu v hi hf v1 v2 v3 v4
      obtain ⟨f, rfl⟩ : ∃ f, fu = f + 1 := ⟨fu - 1, by omega⟩
      have hi : i = 8 := by omega
      subst hi
      have ev : v = S 0 4 := by
        rcases d4 with d4 | ⟨g, hg, n, z1, z2, z3⟩ | ⟨p, hp, z1, z2⟩
        · omega
        · have := v3 g hg n z1 z2
          omega
        · have := v4 p hp z1
          omega
      rw [itr_s, f_X8_canDrop_L109, if_pos (by decide), h.1, ev]
      by_cases z : S 0 4 ≤ S 0 0
      · rw [if_pos (by rw [nL_le (by omega) (by omega)]; exact z), show S 0 4 - S 0 0 = 0 by omega]; rfl
      · rw [if_neg (by rw [nL_le (by omega) (by omega)]; exact z), nL_sub (by omega)]
    | succ d ih =>
      intro i fu v hi hf v1 v2 v3 v4
      obtain ⟨f, rfl⟩ : ∃ f, fu = f + 1 := ⟨fu - 1, by omega⟩
      have y15 := hB 15 i
      rw [itr_s, f_X8_canDrop_L109, if_neg (by rw [nl8, nL_le (by omega) (by omega)]; omega), of8 i (by omega), bO_some]
      have sk : (S 15 i = 0 ∨ v ≤ S 15 i) → f_X8_canDrop_L142 M (itr (f_X8_canDrop_L109 M) (fun _ _ _ => none) f) (nI (S 0 3)) (nI v) (nI i) = some (nI (S 0 4 - S 0 0)) := fun z => by
        rw [f_X8_canDrop_L142, f_X8_canDrop_L143, bd, nI_1]
        refine ih (i + 1) f v (by omega) (by omega) v1 v2 v3 (fun p hp hne => ?_)
        by_cases e : p = i
        · rw [e] at hne ⊢; omega
        · exact v4 p (by omega) hne
      by_cases z : S 15 i = 0
      · rw [if_pos (by rw [z]; decide)]
        exact sk (Or.inl z)
      · rw [if_neg (by rw [nl0, nL_le (by omega) (by omega)]; omega)]
        by_cases z2 : v ≤ S 15 i
        · rw [if_pos (by rw [nL_le (by omega) (by omega)]; exact z2)]
          exact sk (Or.inr z2)
        · rw [if_neg (by rw [nL_le (by omega) (by omega)]; exact z2), f_X8_canDrop_L143, bd, nI_1]
          refine ih (i + 1) f (S 15 i) (by omega) (by omega) (d3 i (by omega) z) (by omega) (fun g hg n a1 a2 => by have := v3 g hg n a1 a2; omega) (fun p hp hne => ?_)
          by_cases e : p = i
          · rw [e]; exact Nat.le_refl _
          · have := v4 p (by omega) hne
            omega
  -- the groups
  have lp1 : ∀ d i fu v, i + d = 4 → d < fu → S 0 4 ≤ v → v ≤ S 0 3 → (∀ g, g < i → ∀ n, LB S g (S 0 0) (S 0 3) n → S 9 n = 0 → v ≤ n) → itr (f_X8_canDrop_L15 M) (fun _ _ _ => none) fu (nI (S 0 3)) (nI v) (nI i) = some (nI (S 0 4 - S 0 0)) := by
    intro d
    induction d with
    | zero =>
      intro i fu v hi hf v1 v2 v3
      obtain ⟨f, rfl⟩ : ∃ f, fu = f + 1 := ⟨fu - 1, by omega⟩
      have hi : i = 4 := by omega
      subst hi
      rw [itr_s, f_X8_canDrop_L15, if_pos (by decide)]
      exact lp2 8 0 FU v rfl (by decide) v1 v2 v3 (fun p hp => by omega)
    | succ d ih =>
      intro i fu v hi hf v1 v2 v3
      obtain ⟨f, rfl⟩ : ∃ f, fu = f + 1 := ⟨fu - 1, by omega⟩
      rw [itr_s, f_X8_canDrop_L15, if_neg (by rw [nl4, nL_le (by omega) (by omega)]; omega), h.1, bd]
      have out : ∀ y, S 0 4 ≤ y → y ≤ S 0 3 → (∀ n, LB S i (S 0 0) (S 0 3) n → S 9 n = 0 → y = n) → f_X8_canDrop_L88 M (itr (f_X8_canDrop_L15 M) (fun _ _ _ => none) f) (nI (S 0 3)) (nI v) (nI i) (nI y) = some (nI (S 0 4 - S 0 0)) := by
        intro y a1 a2 a3
        rw [f_X8_canDrop_L88]
        by_cases z : v ≤ y
        · rw [if_pos (by rw [nL_le (by omega) (by omega)]; exact z), f_X8_canDrop_L100, bd, nI_1]
          refine ih (i + 1) f v (by omega) (by omega) v1 v2 (fun g hg n b1 b2 => ?_)
          by_cases e : g = i
          · rw [e] at b1
            have := a3 n b1 b2
            omega
          · exact v3 g (by omega) n b1 b2
        · rw [if_neg (by rw [nL_le (by omega) (by omega)]; exact z), f_X8_canDrop_L100, bd, nI_1]
          refine ih (i + 1) f y (by omega) (by omega) a1 a2 (fun g hg n b1 b2 => ?_)
          by_cases e : g = i
          · rw [e] at b1
            have := a3 n b1 b2
            omega
          · have := v3 g (by omega) n b1 b2
            omega
      by_cases o : (S 12 (S 0 3)).testBit i = true
      · obtain ⟨B, hB1, hB2⟩ := (c6 i (by omega)).mp o
        have hB3 := hB1.1
        have hB4 := hB1.2.1
        have dB := d2 i (by omega) B hB1 hB2
        have lp : ∀ e n fu2 y, n + e = S 0 3 → S 0 0 ≤ n → e < fu2 → y ≤ S 0 3 → (B < n → y = B) → itr (f_X8_canDrop_L31 M (itr (f_X8_canDrop_L15 M) (fun _ _ _ => none) f)) (fun _ _ _ _ _ => none) fu2 (nI (S 0 3)) (nI v) (nI i) (nI y) (nI n) = some (nI (S 0 4 - S 0 0)) := by
          intro e
          induction e with
          | zero =>
            intro n fu2 y hn h1 hf2 hy hyB
            obtain ⟨f2, rfl⟩ : ∃ f, fu2 = f + 1 := ⟨fu2 - 1, by omega⟩
            rw [itr_s, f_X8_canDrop_L31, if_pos (by rw [nL_le (by omega) (by omega)]; omega)]
            exact out y (by rw [hyB (by omega)]; exact dB) hy (fun n' a1 a2 => by rw [LB_uq a1 hB1]; exact hyB (by omega))
          | succ e ihe =>
            intro n fu2 y hn h1 hf2 hy hyB
            obtain ⟨f2, rfl⟩ : ∃ f, fu2 = f + 1 := ⟨fu2 - 1, by omega⟩
            obtain ⟨w1, w2, w3⟩ := w n h1 (by omega)
            obtain ⟨o0, o1, -⟩ := m_rec h hR (by omega) h1 (by omega)
            rw [itr_s, f_X8_canDrop_L31, if_neg (by rw [nL_le (by omega) (by omega)]; omega), of6, bO_some, bit8 _ (by omega) i (by omega), o, if_pos (show b01 true = 1 from rfl), o0, bO_some]
            have no : ¬ (S 9 n = 0 ∧ S 10 n = i) → f_X8_canDrop_L78 M (itr (f_X8_canDrop_L15 M) (fun _ _ _ => none) f) (itr (f_X8_canDrop_L31 M (itr (f_X8_canDrop_L15 M) (fun _ _ _ => none) f)) (fun _ _ _ _ _ => none) f2) (nI (S 0 3)) (nI v) (nI i) (nI y) (nI n) = some (nI (S 0 4 - S 0 0)) := fun z => by
              rw [f_X8_canDrop_L78, f_X8_canDrop_L80, bd, nI_1]
              refine ihe (n + 1) f2 y (by omega) (by omega) (by omega) hy (fun a => ?_)
              by_cases ee : B = n
              · exact absurd ⟨by rw [← ee]; exact hB2, by rw [← ee]; exact hB1.2.2.1.2⟩ z
              · exact hyB (by omega)
            by_cases k0 : S 9 n = 0
            · rw [if_pos (by rw [k0]; rfl), o1, bO_some]
              have ow := w2 (by omega)
              have eo' : eo (S 9 n) (S 10 n) = nI (S 10 n) := by unfold eo; rw [if_neg (by omega)]
              rw [eo']
              by_cases k1 : S 10 n = i
              · rw [if_pos (by rw [k1]), f_X8_canDrop_L80, bd, nI_1]
                refine ihe (n + 1) f2 n (by omega) (by omega) (by omega) (by omega) (fun z => ?_)
                by_cases z2 : B < n
                · exact absurd ⟨Or.inl k0, k1⟩ (hB1.2.2.2 n z2 (by omega))
                · omega
              · rw [if_neg (by rw [nL_eq (by omega) (by omega)]; exact k1)]
                exact no (fun z => k1 z.2)
            · rw [if_neg (by rw [nl0, nL_eq (by omega) (by omega)]; exact k0)]
              exact no (fun z => k0 z.1)
        exact lp (S 0 3 - S 0 0) (S 0 0) FU (S 0 3) (by omega) (Nat.le_refl _) (by show _ < 10000; omega) (Nat.le_refl _) (fun z => by omega)
      · have nob : ∀ n, LB S i (S 0 0) (S 0 3) n → S 9 n = 0 → S 0 3 = n := fun n a1 a2 => absurd ((c6 i (by omega)).mpr ⟨n, a1, a2⟩) o
        rw [FU_s, itr_s, f_X8_canDrop_L31]
        by_cases z : S 0 3 ≤ S 0 0
        · rw [if_pos (by rw [nL_le (by omega) (by omega)]; exact z)]
          exact out (S 0 3) d1 (Nat.le_refl _) nob
        · rw [if_neg (by rw [nL_le (by omega) (by omega)]; exact z), of6, bO_some, bit8 _ (by omega) i (by omega), if_neg (by rw [b01_1]; exact o)]
          exact out (S 0 3) d1 (Nat.le_refl _) nob
  exact lp1 4 0 FU (S 0 3) rfl (by decide) d1 (Nat.le_refl _) (fun g hg => by omega)
theorem m_dro (h : RQ (M 11 29) S) (hv : Inv b S) : OKm M (f_X8_dropRecords M) S (aDro S) := by
  obtain ⟨⟨n1, ⟨n2, n2'⟩, n3, n4, n5, n6, n7, n8, n9⟩, hj, hpi, hr, hst⟩ := id hv
  have y0 := n1 0 0
  have y3 := n1 0 3
  rw [f_X8_dropRecords]
  unfold aDro
  by_cases q1 : S 0 5 = 0
  · rw [m_stop0 h.1 q1, bO_some, if_pos rfl, m_latest h.1 h.2.2.2 n1 (by omega) n4 hj, bO_some]
    by_cases q2 : S 0 3 = 0
    · rw [if_pos (by rw [q2]; rfl), if_pos (Or.inr q2)]
      exact Or.inl ⟨by show (-1000002 : Int32) < 0; decide, rfl, rfl⟩
    · rw [if_neg (by rw [nl0, nL_eq (by omega) (by omega)]; exact q2), if_neg (show ¬ (S 0 5 ≠ 0 ∨ S 0 3 = 0) by omega)]
      have hdb := drb_le hj
      refine Or.inr ⟨by rw [nL_neg (by omega)]; exact id, fun M9 e9 h9 => ?_⟩
      have h' : RO (fun g => (S 0 8).testBit g) (M9 11 29) S := by rw [h9]; exact h
      obtain ⟨k1, k2, k3, k4⟩ := h'
      have lp : ∀ d k fu (M : Mem), k + d = 69 + 16 * (S 0 1 - drb S) → 69 ≤ k → d < fu → M 11 29 0 = nI (S 0 0) → M 11 29 1 = nI (S 0 1) →
          ∃ M', itr (f_X8_dropRecords_L29) (fun _ _ _ => none) fu M (nI (drb S)) (nI k) = some (nI (drb S), M') ∧ FM M M' ∧ M' 11 29 0 = nI (S 0 0 + drb S) ∧ M' 11 29 1 = nI (S 0 1 - drb S) ∧ (∀ j, 1 < j → j < k → M' 11 29 j = M 11 29 j) ∧ (∀ j, k ≤ j → j < 69 + 16 * (S 0 1 - drb S) → M' 11 29 j = M 11 29 (j + 16 * drb S)) := by
        intro d
        induction d with
        | zero =>
          intro k fu M hk hk2 hf z0 z1
          obtain ⟨f, rfl⟩ : ∃ f, fu = f + 1 := ⟨fu - 1, by omega⟩
          refine ⟨st (st M 11 29 1 (nI (S 0 1 - drb S))) 11 29 0 (nI (S 0 0 + drb S)), ?_, FM.rf.s29.s29, by rw [sg, if_pos rfl], by rw [sg, if_neg (by omega), sg, if_pos rfl], fun j a c => by rw [sg, if_neg (by omega), sg, if_neg (by omega)], fun j a c => by omega⟩
          rw [itr_s, f_X8_dropRecords_L29, z1, nL_sub (by omega), nl16, pk_mul, nl69, nI_add, if_pos (by rw [nL_le (by omega) (by omega)]; omega), bd, sg, if_neg (by omega), z0, nI_add, bd]
        | succ d ih =>
          intro k fu M hk hk2 hf z0 z1
          obtain ⟨f, rfl⟩ : ∃ f, fu = f + 1 := ⟨fu - 1, by omega⟩
          have lo : ∀ j, j ≠ k → st M 11 29 k (M 11 29 (k + 16 * drb S)) 11 29 j = M 11 29 j := fun j a => by rw [sg, if_neg a]
          obtain ⟨M', e1, f1, c0, c1, c2, c3⟩ := ih (k + 1) f (st M 11 29 k (M 11 29 (k + 16 * drb S))) (by omega) (by omega) (by omega) (by rw [lo _ (by omega)]; exact z0) (by rw [lo _ (by omega)]; exact z1)
          refine ⟨M', ?_, FM.rf.s29.tr f1, c0, c1, fun j a c => by rw [c2 j a (by omega), lo j (by omega)], fun j a c => ?_⟩
          · rw [itr_s, f_X8_dropRecords_L29, z1, nL_sub (by omega), nl16, pk_mul, nl69, nI_add, if_neg (by rw [nL_le (by omega) (by omega)]; omega), pk_mul, nI_add, gd_in (by omega) (by omega), gd_in (by omega) (by omega), nL_cl (by omega), nL_cl (by omega), bd, bd, nI_1]
            exact e1
          · by_cases e : j = k
            · rw [e, c2 k (by omega) (by omega), sg, if_pos rfl]
            · rw [c3 j (by omega) c, lo _ (by omega)]
      obtain ⟨M', e1, f1, c0, c1, c2, c3⟩ := lp (16 * (S 0 1 - drb S)) 69 FU M9 (by omega) (by omega) (by show _ < 10000; omega) k1.1 k1.2.1
      refine ⟨M', ?_, ?_, f1⟩
      · rw [e9, bO_some, m_canDrop k1 k4 n1 (by omega) n4 hj, bO_some]
        exact e1
      · obtain ⟨T, eT⟩ : ∃ T, T = dro S := ⟨_, rfl⟩
        have to : ∀ f i, ¬ (f = 0 ∧ (i = 0 ∨ i = 1)) → T f i = S f i := fun f i a => by rw [eT, dro, up_ne (by omega), up_ne (by omega)]
        have eF : T 0 0 = S 0 0 + drb S := by rw [eT, dro, up_at]
        have eN : T 0 1 = S 0 1 - drb S := by rw [eT, dro, up_ne (by omega), up_at]
        show RO (fun i => (dro S 0 8).testBit i) _ (dro S)
        rw [← eT, to 0 8 (by omega)]
        refine ⟨⟨by rw [c0, eF], by rw [c1, eN], by rw [c2 2 (by omega) (by omega), to 0 2 (by omega)]; exact k1.2.2.1, by rw [c2 3 (by omega) (by omega), to 0 5 (by omega)]; exact k1.2.2.2.1, by rw [c2 4 (by omega) (by omega), to 0 9 (by omega)]; exact k1.2.2.2.2⟩, RP_cg k2 (fun i a c => c2 i (by omega) (by omega)) (fun f i _ hf => to f i (by omega)), RG_cg k3 (fun i a c => c2 i (by omega) (by omega)) (fun f i _ hf => to f i (by omega)), fun j hj => ?_⟩
        rw [eN] at hj
        have r := k4 (drb S + j) (by omega)
        rw [eF, Nat.add_assoc]
        unfold R1 at r ⊢
        have cz : ∀ k, k < 16 → M' 11 29 (69 + 16 * j + k) = M9 11 29 (69 + 16 * (drb S + j) + k) := fun k hk => by
          rw [c3 _ (by omega) (by omega)]
          congr 1
          omega
        have cz0 := cz 0 (by omega)
        rw [Nat.add_zero, Nat.add_zero] at cz0
        rw [cz0, cz 1 (by omega), cz 2 (by omega), cz 3 (by omega), cz 4 (by omega), cz 5 (by omega), cz 6 (by omega), cz 7 (by omega), to 9 _ (by omega), to 10 _ (by omega), to 11 _ (by omega), to 12 _ (by omega), to 13 _ (by omega), to 14 _ (by omega), to 0 3 (by omega)]
        obtain ⟨r1, r2, r3, r4, r5, r6, r7, r8⟩ := r
        exact ⟨r1, r2, r3, r4, r5, r6, r7, fun z p hp => by rw [cz _ (by omega), to 15 p (by omega)]; exact r8 z p hp⟩
  · rw [m_stop1 h.1 n9.2.2.2.2 q1, bO_some, if_neg (by decide), if_pos (Or.inl q1)]
    exact Or.inl ⟨by show (-1000002 : Int32) < 0; decide, rfl, rfl⟩
theorem m_torn (h : RO O (M 11 29) S) (hv : Inv b S) : f_X8_isTorn M = some (b01 (tornC S)) := by
  obtain ⟨⟨n1, ⟨n2, n2'⟩, n3, n4, n5, n6, n7, n8, n9⟩, hj, hpi, hr, hst⟩ := id hv
  have y0 := n1 0 0
  have y2 := n1 0 2
  obtain ⟨k1, k2, k3, k4⟩ := h
  have lp : ∀ d i fu (c : Bool), i + d = 8 → d < fu → ∃ r : Bool, itr (f_X8_isTorn_L53 M) (fun _ _ => none) fu (b01 c) (nI i) = some (b01 r) ∧ (r = true ↔ (c = true ∧ ∀ p, i ≤ p → p < 8 → S 2 p < S 0 2)) := by
    intro d
    induction d with
    | zero =>
      intro i fu c hi hf
      obtain ⟨f, rfl⟩ : ∃ f, fu = f + 1 := ⟨fu - 1, by omega⟩
      have hi : i = 8 := by omega
      subst hi
      refine ⟨c, ?_, ⟨fun z => ⟨z, fun p a c => by omega⟩, fun z => z.1⟩⟩
      rw [itr_s, f_X8_isTorn_L53, if_pos (by decide), gd, if_pos (isB_b01 c)]
    | succ d ih =>
      intro i fu c hi hf
      obtain ⟨f, rfl⟩ : ∃ f, fu = f + 1 := ⟨fu - 1, by omega⟩
      have y := n1 2 i
      rw [itr_s, f_X8_isTorn_L53, if_neg (by rw [nl8, nL_le (by omega) (by omega)]; omega)]
      cases c
      · rw [if_pos (show b01 false = 0 from rfl), f_X8_isTorn_L82, f_X8_isTorn_L83, bd, nI_1]
        obtain ⟨r, e1, e2⟩ := ih (i + 1) f false (by omega) (by omega)
        exact ⟨r, e1, e2.trans ⟨fun z => (nomatch z.1), fun z => (nomatch z.1)⟩⟩
      · rw [if_neg (show ¬ b01 true = 0 by decide), m_pg1 M (by omega), bO_some, (k2 i (by omega)).2.1, k1.2.2.1]
        by_cases z : S 0 2 ≤ S 2 i
        · rw [if_pos (by rw [nL_le (by omega) (by omega)]; exact z), f_X8_isTorn_L82, f_X8_isTorn_L83, bd, nI_1]
          obtain ⟨r, e1, e2⟩ := ih (i + 1) f false (by omega) (by omega)
          refine ⟨r, e1, e2.trans ⟨fun z => (nomatch z.1), fun y => ?_⟩⟩
          have := y.2 i (Nat.le_refl _) (by omega)
          omega
        · rw [if_neg (by rw [nL_le (by omega) (by omega)]; exact z), f_X8_isTorn_L83, bd, nI_1]
          obtain ⟨r, e1, e2⟩ := ih (i + 1) f true (by omega) (by omega)
          refine ⟨r, e1, e2.trans ⟨fun y => ⟨rfl, fun p a c => ?_⟩, fun y => ⟨rfl, fun p a c => y.2 p (by omega) c⟩⟩⟩
          by_cases e : p = i
          · rw [e]; omega
          · exact y.2 p (by omega) c
  have no : tornC S = false → f_X8_isTorn_L49 M = some (b01 (tornC S)) := fun z => by
    obtain ⟨r, e1, e2⟩ := lp 8 0 FU false rfl (by decide)
    have er : r = false := by
      cases r
      · rfl
      · exact absurd (e2.mp rfl).1 (by decide)
    rw [f_X8_isTorn_L49, f_X8_isTorn_L50, z]
    rw [er] at e1
    exact e1
  rw [f_X8_isTorn, k1.2.2.1, k1.1]
  by_cases q1 : S 0 0 ≤ S 0 2
  · rw [if_neg (by rw [nL_lt (by omega) (by omega)]; omega)]
    have o := (m_rec k1 k4 (by omega) q1 n7).1
    have y9 := n1 9 (S 0 2)
    rw [o, bO_some]
    by_cases q2 : S 9 (S 0 2) = 2
    · rw [if_pos (by rw [q2]; rfl)]
      exact no (by simp [tornC, q2])
    · rw [if_neg (by rw [nl2, nL_eq (by omega) (by omega)]; exact q2), bO_some]
      by_cases q3 : S 9 (S 0 2) = 5
      · rw [if_pos (by rw [q3]; rfl)]
        exact no (by simp [tornC, q3])
      · rw [if_neg (by rw [nl5, nL_eq (by omega) (by omega)]; exact q3), f_X8_isTorn_L50]
        obtain ⟨r, e1, e2⟩ := lp 8 0 FU true rfl (by decide)
        have hm := hmx_lt (f := S 2) (n := S 0 2) (by omega) 8
        have er : r = tornC S := by
          have z : tornC S = true ↔ hmx (S 2) 8 < S 0 2 := by simp [tornC, q1, q2, q3]
          have z2 : r = true ↔ tornC S = true := e2.trans ⟨fun a => z.mpr (hm.mpr (fun p hp => a.2 p (Nat.zero_le _) hp)), fun a => ⟨rfl, fun p _ hp => hm.mp (z.mp a) p hp⟩⟩
          cases r <;> cases ht : tornC S
          · rfl
          · exact absurd (z2.mpr ht) (by decide)
          · rw [ht] at z2; exact absurd (z2.mp rfl) (by decide)
          · rfl
        rw [er] at e1
        exact e1
  · rw [if_pos (by rw [nL_lt (by omega) (by omega)]; omega)]
    exact no (by simp [tornC, q1])
theorem m_stops (h : RO O (M 11 29) S) (hv : Inv b S) (q5 : S 0 5 = 0) {t : Nat} (ht : t < 2) : ∃ M', f_X8_stops M (nI t) = some (nI (S 0 1 - (mst S t + 1 - S 0 0)), M') ∧ RQ (M' 11 29) (stp S t) ∧ FM M M' := by
  obtain ⟨⟨n1, ⟨n2, n2'⟩, n3, n4, n5, n6, n7, n8, n9⟩, hj, hpi, hr, hst⟩ := id hv
  have y0 := n1 0 0
  have y2 := n1 0 2
  obtain ⟨m1, m2, m3, m4⟩ := mst_spec hj t
  have hT := iv_stop hv t
  obtain ⟨k1, k2, k3, k4⟩ := id h
  obtain ⟨m, em⟩ : ∃ m, m = mst S t := ⟨_, rfl⟩
  rw [← em] at m1 m2 m3 m4 ⊢
  -- the tail
  have lpG : ∀ d i fu (M : Mem) (y : Int32), i + d = 4 → d < fu → ∃ M', itr (f_X8_stops_L70) (fun _ _ _ => none) fu M y (nI i) = (if (M' 11 29 1) = 0 then bd (st M' 11 29 0 (1 : Int32)) (fun M9 => bd (st M9 11 29 2 (0 : Int32)) (fun M10 => f_X8_stops_L109 M10 y)) else f_X8_stops_L109 M' y) ∧ FM M M' ∧ ∀ j, M' 11 29 j = if 5 + 4 * i ≤ j ∧ j < 21 then 0 else M 11 29 j := by
    intro d
    induction d with
    | zero =>
      intro i fu M y hi hf
      obtain ⟨f, rfl⟩ : ∃ f, fu = f + 1 := ⟨fu - 1, by omega⟩
      have hi : i = 4 := by omega
      subst hi
      refine ⟨M, ?_, FM.rf, fun j => by rw [if_neg (by omega)]⟩
      rw [itr_s, f_X8_stops_L70, if_pos (by decide)]
    | succ d ih =>
      intro i fu M y hi hf
      obtain ⟨f, rfl⟩ : ∃ f, fu = f + 1 := ⟨fu - 1, by omega⟩
      obtain ⟨M1, e1, f1, c1⟩ := m_closes M (g := i) (by omega)
      obtain ⟨M', e2, f2, c2⟩ := ih (i + 1) f M1 y (by omega) (by omega)
      refine ⟨M', ?_, f1.tr f2, fun j => ?_⟩
      · rw [itr_s, f_X8_stops_L70, if_neg (by rw [nl4, nL_le (by omega) (by omega)]; omega), e1, bO_some, bd, nI_1]
        exact e2
      · rw [c2, c1]
        by_cases z : 5 + 4 * (i + 1) ≤ j ∧ j < 21
        · rw [if_pos z, if_pos (by omega)]
        · rw [if_neg z]
          by_cases z2 : 5 + 4 * i ≤ j ∧ j < 5 + 4 * i + 4
          · rw [if_pos z2, if_pos (by omega)]
          · rw [if_neg z2, if_neg (by omega)]
  have lpP : ∀ d i fu (M : Mem) (y : Int32), i + d = 8 → d < fu → ∃ M', itr (f_X8_stops_L49) (fun _ _ _ => none) fu M y (nI i) = itr (f_X8_stops_L70) (fun _ _ _ => none) FU M' y 0 ∧ FM M M' ∧ (∀ p, i ≤ p → p < 8 → M' 11 29 (21 + 6 * p + 2) = 0) ∧ (∀ j, (∀ p, i ≤ p → p < 8 → j ≠ 21 + 6 * p + 2) → M' 11 29 j = M 11 29 j) := by
    intro d
    induction d with
    | zero =>
      intro i fu M y hi hf
      obtain ⟨f, rfl⟩ : ∃ f, fu = f + 1 := ⟨fu - 1, by omega⟩
      have hi : i = 8 := by omega
      subst hi
      refine ⟨M, ?_, FM.rf, fun p a c => by omega, fun j _ => rfl⟩
      rw [itr_s, f_X8_stops_L49, if_pos (by decide)]
    | succ d ih =>
      intro i fu M y hi hf
      obtain ⟨f, rfl⟩ : ∃ f, fu = f + 1 := ⟨fu - 1, by omega⟩
      obtain ⟨M', e2, f2, c2, c3⟩ := ih (i + 1) f (st M 11 29 (21 + 6 * i + 2) 0) y (by omega) (by omega)
      refine ⟨M', ?_, FM.rf.s29.tr f2, fun p a c => ?_, fun j hj => ?_⟩
      · rw [itr_s, f_X8_stops_L49, if_neg (by rw [nl8, nL_le (by omega) (by omega)]; omega), m_pgp2 M (by omega), bO_some, bd, nI_1]
        exact e2
      · by_cases e : p = i
        · rw [e, c3 _ (fun p a c => by omega), sg, if_pos rfl]
        · exact c2 p (by omega) c
      · rw [c3 j (fun p a c => hj p (by omega) c), sg, if_neg (hj i (Nat.le_refl _) (by omega))]
  have key : ∀ (M1 : Mem), FM M M1 → M1 11 29 2 = nI m → (∀ j, j ≠ 2 → M1 11 29 j = M 11 29 j) → ∃ M', f_X8_stops_L37 M1 (nI (S 0 1 - (m + 1 - S 0 0))) = some (nI (S 0 1 - (m + 1 - S 0 0)), M') ∧ RQ (M' 11 29) (stp S t) ∧ FM M M' := by
    intro M1 f1 z2 zo
    have zN : M1 11 29 1 = nI (S 0 1) := by rw [zo 1 (by omega)]; exact k1.2.1
    obtain ⟨M2, e2, f2, c2, c3⟩ := lpP 8 0 FU (st M1 11 29 1 (nI (m + 1 - S 0 0))) (nI (S 0 1 - (m + 1 - S 0 0))) rfl (by decide)
    obtain ⟨M3, e3, f3, c4⟩ := lpG 4 0 FU M2 (nI (S 0 1 - (m + 1 - S 0 0))) rfl (by decide)
    have lo : ∀ j, j ≠ 1 → ¬ (5 ≤ j ∧ j < 21) → (∀ p, p < 8 → j ≠ 21 + 6 * p + 2) → M3 11 29 j = M1 11 29 j := fun j a c e => by
      rw [c4, if_neg (by omega), c3 j (fun p _ h8 => e p h8), sg, if_neg a]
    have zN3 : M3 11 29 1 = nI (m + 1 - S 0 0) := by
      rw [c4, if_neg (by omega), c3 1 (fun p _ _ => by omega), sg, if_pos rfl]
    have z23 : M3 11 29 2 = nI m := by rw [lo 2 (by omega) (by omega) (fun p _ => by omega)]; exact z2
    have z03 : M3 11 29 0 = nI (S 0 0) := by rw [lo 0 (by omega) (by omega) (fun p _ => by omega), zo 0 (by omega)]; exact k1.1
    obtain ⟨T, eT⟩ : ∃ T, T = stp S t := ⟨_, rfl⟩
    have to : ∀ f i, ¬ (f = 0 ∧ (i = 1 ∨ i = 2 ∨ i = 5 ∨ i = 6 ∨ i = 7 ∨ i = 8)) → T f i = S f i := fun f i a => by
      rw [eT, stp, up_ne (by omega), up_ne (by omega), emp, up_ne (by omega), up_ne (by omega), los, up_ne (by omega), up_ne (by omega)]
    have eN : T 0 1 = m + 1 - S 0 0 := by rw [eT, em]; simp [stp, emp, los, up, mst]
    have e2' : T 0 2 = m := by rw [eT, em]; simp [stp, emp, los, up, mst]
    have e5 : T 0 5 = 1 := by rw [eT]; simp [stp, up]
    have e6 : T 0 6 = 0 := by rw [eT]; simp [stp, emp, up]
    have e7 : T 0 7 = 0 := by rw [eT]; simp [stp, emp, up]
    have e8 : T 0 8 = 0 := by rw [eT]; simp [stp, up]
    have fin : ∀ M4 : Mem, M4 11 29 0 = nI (S 0 0) → M4 11 29 2 = nI m → (∀ j, j ≠ 0 → j ≠ 2 → M4 11 29 j = M3 11 29 j) → RQ (st M4 11 29 3 1 11 29) (stp S t) := by
      intro M4 a0 a2 ao
      have lo2 : ∀ j, j ≠ 0 → j ≠ 1 → j ≠ 2 → j ≠ 3 → ¬ (5 ≤ j ∧ j < 21) → (∀ p, p < 8 → j ≠ 21 + 6 * p + 2) → st M4 11 29 3 1 11 29 j = M 11 29 j := fun j b0 b1 b2 b3 b4 b5 => by
        rw [sg, if_neg b3, ao j b0 b2, lo j b1 b4 b5, zo j b2]
      show RO (fun i => (stp S t 0 8).testBit i) _ (stp S t)
      rw [← eT, e8]
      refine ⟨⟨?_, ?_, ?_, ?_, ?_⟩, fun p hp => ?_, fun g hg => ?_, fun j hj => ?_⟩
      · rw [sg, if_neg (by omega), a0, to 0 0 (by omega)]
      · rw [sg, if_neg (by omega), ao 1 (by omega) (by omega), zN3, eN]
      · rw [sg, if_neg (by omega), a2, e2']
      · rw [sg, if_pos rfl, e5]; rfl
      · rw [lo2 4 (by omega) (by omega) (by omega) (by omega) (by omega) (fun p _ => by omega), to 0 9 (by omega)]; exact k1.2.2.2.2
      · obtain ⟨d0, d1, d2, d3, d5⟩ := k2 p hp
        rw [e6, e7, Nat.zero_testBit, lo2 _ (by omega) (by omega) (by omega) (by omega) (by omega) (fun q _ => by omega), lo2 _ (by omega) (by omega) (by omega) (by omega) (by omega) (fun q _ => by omega), to 1 p (by omega), to 2 p (by omega)]
        refine ⟨d0, d1, ?_, fun z => (nomatch z), fun z => (nomatch z)⟩
        rw [sg, if_neg (by omega), ao _ (by omega) (by omega), c4, if_neg (by omega), c2 p (by omega) hp]
        rfl
      · dsimp only
        rw [Nat.zero_testBit, sg, if_neg (by omega), ao _ (by omega) (by omega), c4, if_pos (by omega)]
        exact ⟨rfl, fun z => (nomatch z)⟩
      · rw [eN] at hj
        rw [to 0 0 (by omega)]
        exact R1_cg (k4 j (by omega)) (fun k hk => lo2 _ (by omega) (by omega) (by omega) (by omega) (by omega) (fun p _ => by omega)) (to 0 3 (by omega)) (fun f a c => to f _ (by omega)) (fun p _ => to 15 p (by omega))
    by_cases z : m + 1 - S 0 0 = 0
    · have F1 : S 0 0 = 1 := by
        by_cases y : S 0 3 = 0
        · exact (hj.2.1 y).1
        · have := m4 y
          have := (hj.2.2.1 y).1
          omega
      refine ⟨st (st (st M3 11 29 0 1) 11 29 2 0) 11 29 3 1, ?_, ?_, ((f1.s29.tr f2).tr f3).s29.s29.s29⟩
      · rw [f_X8_stops_L37, zN, nL_sub (by omega), show S 0 1 - (S 0 1 - (m + 1 - S 0 0)) = m + 1 - S 0 0 by omega, bd]
        show itr (f_X8_stops_L49) (fun _ _ _ => none) FU (st M1 11 29 1 (nI (m + 1 - S 0 0))) (nI (S 0 1 - (m + 1 - S 0 0))) (nI 0) = _
        rw [e2]
        show itr (f_X8_stops_L70) (fun _ _ _ => none) FU M2 (nI (S 0 1 - (m + 1 - S 0 0))) (nI 0) = _
        rw [e3, zN3, if_pos (by rw [z]; rfl), bd, bd, f_X8_stops_L109, bd]
      · refine fin _ ?_ ?_ (fun j a c => by rw [sg, if_neg c, sg, if_neg a])
        · rw [sg, if_neg (by omega), sg, if_pos rfl, F1]; rfl
        · rw [sg, if_pos rfl, show m = 0 by omega]; rfl
    · refine ⟨st M3 11 29 3 1, ?_, fin M3 z03 z23 (fun _ _ _ => rfl), ((f1.s29.tr f2).tr f3).s29⟩
      rw [f_X8_stops_L37, zN, nL_sub (by omega), show S 0 1 - (S 0 1 - (m + 1 - S 0 0)) = m + 1 - S 0 0 by omega, bd]
      show itr (f_X8_stops_L49) (fun _ _ _ => none) FU (st M1 11 29 1 (nI (m + 1 - S 0 0))) (nI (S 0 1 - (m + 1 - S 0 0))) (nI 0) = _
      rw [e2]
      show itr (f_X8_stops_L70) (fun _ _ _ => none) FU M2 (nI (S 0 1 - (m + 1 - S 0 0))) (nI 0) = _
      rw [e3, zN3, if_neg (by rw [nl0, nL_eq (by omega) (by omega)]; exact z), f_X8_stops_L109, bd]
  have k12 := k1.2.2.1
  rw [f_X8_stops, m_last k1 n5, bO_some, k12, nL_sub (by omega), bd]
  rcases (show t = 0 ∨ t = 1 by omega) with rfl | rfl
  · have e0 : m = S 0 2 := by rw [em]; unfold mst; rw [if_neg (by omega)]
    rw [if_neg (show ¬ (nI 0 = (1 : Int32)) by decide), show S 0 0 + S 0 1 - 1 - S 0 2 = S 0 1 - (m + 1 - S 0 0) by omega]
    exact key M FM.rf (by rw [e0]; exact k12) (fun _ _ => rfl)
  · rw [if_pos (show nI 1 = (1 : Int32) from rfl), m_torn h hv, bO_some]
    cases q : tornC S
    · have e0 : m = S 0 2 := by rw [em]; unfold mst; rw [if_neg (by rw [q]; exact fun z => nomatch z.2)]
      rw [if_pos (show b01 false = 0 from rfl), show S 0 0 + S 0 1 - 1 - S 0 2 = S 0 1 - (m + 1 - S 0 0) by omega]
      exact key M FM.rf (by rw [e0]; exact k12) (fun _ _ => rfl)
    · have e0 : m = S 0 2 - 1 := by rw [em]; unfold mst; rw [if_pos ⟨rfl, q⟩]
      have t1 : S 0 0 ≤ S 0 2 := by
        unfold tornC at q
        simp only [Bool.and_eq_true, decide_eq_true_eq] at q
        exact q.1.1.1
      rw [if_neg (show ¬ b01 true = 0 by decide), bd, nI_1, nl1, nL_sub (by omega), bd, show S 0 0 + S 0 1 - 1 - S 0 2 + 1 = S 0 1 - (m + 1 - S 0 0) by omega]
      exact key _ FM.rf.s29 (by rw [sg, if_pos rfl, e0]) (fun j a => by rw [sg, if_neg a])
theorem m_stp (h : RQ (M 11 29) S) (hv : Inv b S) {t : Nat} (ht : t < 2) : OKm M (f_X8_stop M (nI t)) S (aStop S t) := by
  obtain ⟨⟨n1, ⟨n2, n2'⟩, n3, n4, n5, n6, n7, n8, n9⟩, hj, hpi, hr, hst⟩ := id hv
  rw [f_X8_stop, m_yes1 M (by omega), bO_some, if_neg (by decide)]
  unfold aStop
  by_cases q1 : S 0 5 = 0
  · rw [m_stop0 h.1 q1, bO_some, if_pos rfl, if_neg (show ¬ (S 0 5 ≠ 0) by simp [q1])]
    refine Or.inr ⟨by rw [nL_neg (by omega)]; exact id, fun M9 e9 h9 => ?_⟩
    have h' : RO (fun g => (S 0 8).testBit g) (M9 11 29) S := by rw [h9]; exact h
    obtain ⟨M', e1, r1, f1⟩ := m_stops h' hv q1 ht
    refine ⟨M', ?_, r1, f1⟩
    rw [e9, bO_some, e1, bP_some]
    rfl
  · rw [m_stop1 h.1 n9.2.2.2.2 q1, bO_some, if_neg (by decide), if_pos q1]
    exact Or.inl ⟨by show (-1000002 : Int32) < 0; decide, rfl, rfl⟩
end MQ2
