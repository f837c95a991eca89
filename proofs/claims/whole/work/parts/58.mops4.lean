section MR
variable {M : Mem} {S T : St} {O : Nat → Bool} {b p g n t : Nat}
theorem RO_o {s : Nat → Int32} (to : ∀ f i, ¬ (f = 0 ∧ i = 8) → T f i = S f i) (h : RO O s S) : RO O s T := by
  obtain ⟨k1, k2, k3, k4⟩ := h
  exact ⟨RN_cg k1 (fun _ _ => rfl) (to _ _ (by omega)) (to _ _ (by omega)) (to _ _ (by omega)) (to _ _ (by omega)) (to _ _ (by omega)), RP_cg k2 (fun _ _ _ => rfl) (fun f i _ hf => to _ _ (by omega)), RG_cg k3 (fun _ _ _ => rfl) (fun f i _ hf => to _ _ (by omega)), RR_cg k4 (fun _ _ _ => rfl) (to _ _ (by omega)) (to _ _ (by omega)) (to _ _ (by omega)) (fun f i a c => to _ _ (by omega))⟩
theorem m_itb (h : RO O (M 11 29) S) (hB : Bd b S) (hb : b < 2 ^ 28) (hN : S 0 1 ≤ 120) (hF : 1 ≤ S 0 0) {k : Nat} (hk : k < 2 ^ 28) : ∃ r : Bool, f_X8_isTakenBack M (nI k) = some (b01 r) ∧ (r = true ↔ ∃ m, S 0 0 ≤ m ∧ m < S 0 0 + S 0 1 ∧ S 9 m = 3 ∧ S 14 m = k) := by
  have y0 := hB 0 0
  obtain ⟨k1, k2, k3, k4⟩ := h
  have lp : ∀ d n fu (c : Bool), n + d = S 0 0 + S 0 1 → S 0 0 ≤ n → d < fu → ∃ r : Bool, itr (f_X8_isTakenBack_L9 M) (fun _ _ _ => none) fu (nI k) (b01 c) (nI n) = some (b01 r) ∧ (r = true ↔ (c = true ∨ ∃ m, n ≤ m ∧ m < S 0 0 + S 0 1 ∧ S 9 m = 3 ∧ S 14 m = k)) := by
    intro d
    induction d with
    | zero =>
      intro n fu c hn h1 hf
      obtain ⟨f, rfl⟩ : ∃ f, fu = f + 1 := ⟨fu - 1, by omega⟩
      refine ⟨c, ?_, ⟨fun z => Or.inl z, fun z => z.elim id (fun ⟨m, a1, a2, _⟩ => by omega)⟩⟩
      rw [itr_s, f_X8_isTakenBack_L9, m_last k1 hF, bO_some, if_pos (by rw [nL_lt (by omega) (by omega)]; omega), gd, if_pos (isB_b01 c)]
    | succ d ih =>
      intro n fu c hn h1 hf
      obtain ⟨f, rfl⟩ : ∃ f, fu = f + 1 := ⟨fu - 1, by omega⟩
      rw [itr_s, f_X8_isTakenBack_L9, m_last k1 hF, bO_some, if_neg (by rw [nL_lt (by omega) (by omega)]; omega)]
      cases c
      · rw [if_pos (show b01 false = 0 from rfl)]
        obtain ⟨o0, o1, o2, o3, o4, o5⟩ := m_rec k1 k4 (by omega) h1 (by omega)
        have y9 := hB 9 n
        have y14 := hB 14 n
        have no : ¬ (S 9 n = 3 ∧ S 14 n = k) → ∃ r : Bool, f_X8_isTakenBack_L45 M (itr (f_X8_isTakenBack_L9 M) (fun _ _ _ => none) f) (nI k) (nI n) = some (b01 r) ∧ (r = true ↔ (false = true ∨ ∃ m, n ≤ m ∧ m < S 0 0 + S 0 1 ∧ S 9 m = 3 ∧ S 14 m = k)) := fun z => by
          obtain ⟨r, e1, e2⟩ := ih (n + 1) f false (by omega) (by omega) (by omega)
          refine ⟨r, ?_, e2.trans ⟨fun y => ?_, fun y => ?_⟩⟩
          · rw [f_X8_isTakenBack_L45, f_X8_isTakenBack_L46, bd, nI_1]
            exact e1
          · rcases y with y | ⟨m, a1, a2⟩
            · exact Or.inl y
            · exact Or.inr ⟨m, by omega, a2⟩
          · rcases y with y | ⟨m, a1, a2, a3, a4⟩
            · exact Or.inl y
            · refine Or.inr ⟨m, ?_, a2, a3, a4⟩
              by_cases e : m = n
              · rw [e] at a3 a4; exact absurd ⟨a3, a4⟩ z
              · omega
        rw [o0, bO_some]
        by_cases k3' : S 9 n = 3
        · rw [if_pos (by rw [k3']; rfl), o5, bO_some, if_pos k3']
          by_cases ek : S 14 n = k
          · rw [if_pos (by rw [ek])]
            obtain ⟨r, e1, e2⟩ := ih (n + 1) f true (by omega) (by omega) (by omega)
            refine ⟨r, ?_, ⟨fun _ => Or.inr ⟨n, Nat.le_refl _, by omega, k3', ek⟩, fun _ => e2.mpr (Or.inl rfl)⟩⟩
            rw [f_X8_isTakenBack_L41, f_X8_isTakenBack_L46, bd, nI_1]
            exact e1
          · rw [if_neg (by rw [nL_eq (by omega) (by omega)]; exact ek)]
            exact no (fun z => ek z.2)
        · rw [if_neg (by rw [nl3, nL_eq (by omega) (by omega)]; exact k3')]
          exact no (fun z => k3' z.1)
      · rw [if_neg (show ¬ b01 true = 0 by decide)]
        obtain ⟨r, e1, e2⟩ := ih (n + 1) f true (by omega) (by omega) (by omega)
        refine ⟨r, ?_, ⟨fun _ => Or.inl rfl, fun _ => e2.mpr (Or.inl rfl)⟩⟩
        rw [f_X8_isTakenBack_L41, f_X8_isTakenBack_L46, bd, nI_1]
        exact e1
  obtain ⟨r, e1, e2⟩ := lp (S 0 1) (S 0 0) FU false rfl (Nat.le_refl _) (by show _ < 10000; omega)
  refine ⟨r, ?_, e2.trans ⟨fun z => z.elim (fun y => nomatch y) id, Or.inr⟩⟩
  rw [f_X8_isTakenBack, k1.1, bd]
  exact e1
theorem sub4 : ∀ m, m < 16 → ∀ g, g < 4 → m.testBit g = true → 2 ^ g ≤ m ∧ m - 2 ^ g = (m &&& (255 - 2 ^ g)) := by decide +kernel
theorem m_takes0 {l0 lo : Nat} (hlo : S 0 0 = lo + 1) : ∀ (d fu b : Nat) (x : X4) (M : Mem), TI S l0 (lo + d + 1) x → RO O (M 11 29) x.1 → Lp b x.1 → b + d < 2 ^ 28 → d < fu →
    ∃ M', itr (f_X8_takes_L10) (fun _ _ _ _ => none) fu M (nI x.2.1) (nI x.2.2.2) (nI (lo + d)) = some (nI (tlb lo d x).2.2.2, M') ∧ RO O (M' 11 29) (tlb lo d x).1 ∧ FM M M' := by
  intro d
  induction d with
  | zero =>
    intro fu b x M ti h hl hb hf
    obtain ⟨f, rfl⟩ : ∃ f, fu = f + 1 := ⟨fu - 1, by omega⟩
    have e0 : x.1 0 0 = S 0 0 := ti.2.1 0 0 (by omega)
    have y0 := hl.1 0 0
    have hb2 := hl.2.2.1
    refine ⟨M, ?_, h, FM.rf⟩
    rw [itr_s, f_X8_takes_L10, if_pos (by rw [h.1.1, nL_lt (by omega) (by omega)]; omega)]
    rfl
  | succ d ih =>
    intro fu b x M ti h hl hb hf
    obtain ⟨f, rfl⟩ : ∃ f, fu = f + 1 := ⟨fu - 1, by omega⟩
    have e0 : x.1 0 0 = S 0 0 := ti.2.1 0 0 (by omega)
    have y0 := hl.1 0 0
    have hb2 := hl.2.2.1
    obtain ⟨⟨hj, hp, hs, a1, a2⟩, so, tk, hlt, lb, oj, ot, op⟩ := id ti
    have hN : x.1 0 1 ≤ 120 := by
      have := hj.2.2.2.2.2.1
      unfold phi at this
      omega
    rw [itr_s, f_X8_takes_L10, if_neg (by rw [h.1.1, nL_lt (by omega) (by omega)]; omega), show lo + (d + 1) = lo + d + 1 by omega, tlb]
    by_cases qz : x.2.1 = 0
    · rw [if_pos (by rw [qz]; decide), if_pos qz]
      exact ⟨M, rfl, h, FM.rf⟩
    · rw [if_neg (by rw [nl0, nL_le (by omega) (by omega)]; omega), if_neg qz]
      have n1 : x.1 0 0 ≤ lo + d + 1 := by omega
      have n2 : lo + d + 1 < x.1 0 0 + x.1 0 1 := by omega
      obtain ⟨w1, w2, w3⟩ := hl.2.2.2.2.2 _ n1 n2
      obtain ⟨o0, o1, o2, o3, o4, o5⟩ := m_rec h.1 h.2.2.2 (by omega) n1 n2
      have ti' := TI_step (S := S) (l0 := l0) (k := lo + d + 1) (x := x) (by rw [show lo + (d + 1) + 1 = lo + d + 1 + 1 by omega] at ti; exact ti) (by omega)
      have hl' := Lp_tst hl n1 n2 (by omega)
      have cont : ∀ M1, RO O (M1 11 29) (tst (lo + d + 1) x).1 → FM M M1 → ∃ M', f_X8_takes_L166 (itr (f_X8_takes_L10) (fun _ _ _ _ => none) f) M1 (nI (tst (lo + d + 1) x).2.1) (nI (tst (lo + d + 1) x).2.2.2) (nI (lo + d + 1)) = some (nI (tlb lo d (tst (lo + d + 1) x)).2.2.2, M') ∧ RO O (M' 11 29) (tlb lo d (tst (lo + d + 1) x)).1 ∧ FM M M' := fun M1 r1 f1 => by
        obtain ⟨M', e1, r2, f2⟩ := ih f (b + 1) (tst (lo + d + 1) x) M1 ti' r1 hl' (by omega) (by omega)
        refine ⟨M', ?_, r2, f1.tr f2⟩
        rw [f_X8_takes_L166, bd, show nI (lo + d + 1) + (-1 : Int32) = nI (lo + d) from pk_m1 _]
        exact e1
      have skip : (tst (lo + d + 1) x).1 = x.1 → (tst (lo + d + 1) x).2.1 = x.2.1 → (tst (lo + d + 1) x).2.2.2 = x.2.2.2 → ∃ M', f_X8_takes_L166 (itr (f_X8_takes_L10) (fun _ _ _ _ => none) f) M (nI x.2.1) (nI x.2.2.2) (nI (lo + d + 1)) = some (nI (tlb lo d (tst (lo + d + 1) x)).2.2.2, M') ∧ RO O (M' 11 29) (tlb lo d (tst (lo + d + 1) x)).1 ∧ FM M M' := fun z1 z2 z3 => by
        have := cont M (by rw [z1]; exact h) FM.rf
        rw [z2, z3] at this
        exact this
      have sk59 : ∀ y, (tst (lo + d + 1) x).1 = x.1 → (tst (lo + d + 1) x).2.1 = x.2.1 → (tst (lo + d + 1) x).2.2.2 = x.2.2.2 → ∃ M', f_X8_takes_L59 (itr (f_X8_takes_L10) (fun _ _ _ _ => none) f) M (nI x.2.1) (nI x.2.2.2) (nI (lo + d + 1)) y = some (nI (tlb lo d (tst (lo + d + 1) x)).2.2.2, M') ∧ RO O (M' 11 29) (tlb lo d (tst (lo + d + 1) x)).1 ∧ FM M M' := fun y z1 z2 z3 => by
        rw [f_X8_takes_L59, f_X8_takes_L60, if_pos rfl, f_X8_takes_L103, if_pos rfl]
        exact skip z1 z2 z3
      rw [o1, bO_some, o0, bO_some]
      by_cases k2 : 2 ≤ x.1 9 (lo + d + 1)
      · rw [if_pos (by rw [nl2, nL_le (by omega) (by omega)]; exact k2)]
        have et : (tst (lo + d + 1) x).1 = x.1 ∧ (tst (lo + d + 1) x).2.1 = x.2.1 ∧ (tst (lo + d + 1) x).2.2.2 = x.2.2.2 := by
          unfold tst
          by_cases c3 : x.1 9 (lo + d + 1) = 3
          · rw [if_pos c3]; exact ⟨rfl, rfl, rfl⟩
          · rw [if_neg c3]
            by_cases c5 : x.1 9 (lo + d + 1) = 5
            · rw [if_pos c5]; exact ⟨rfl, rfl, rfl⟩
            · rw [if_neg c5, if_neg (show ¬ x.1 9 (lo + d + 1) = 0 by omega), if_neg (show ¬ (x.1 9 (lo + d + 1) = 1 ∧ x.2.2.1 (lo + d + 1) = false) from fun z => by omega), ite_self]
              exact ⟨rfl, rfl, rfl⟩
        exact sk59 _ et.1 et.2.1 et.2.2
      · rw [if_neg (by rw [nl2, nL_le (by omega) (by omega)]; exact k2)]
        have ow := w2 (by omega)
        have eo' : eo (x.1 9 (lo + d + 1)) (x.1 10 (lo + d + 1)) = nI (x.1 10 (lo + d + 1)) := by unfold eo; rw [if_neg (by omega)]
        have hLx : x.1 0 3 < x.1 0 0 + x.1 0 1 := by
          by_cases z : x.1 0 3 = 0
          · omega
          · have := (JI_dl hj z).2
            have := hj.1.2.2.2
            omega
        rw [eo', bit8 _ (by omega) _ (by omega)]
        cases qb : x.2.1.testBit (x.1 10 (lo + d + 1))
        · rw [if_neg (show ¬ b01 false = 1 by decide)]
          have et : tst (lo + d + 1) x = x := by
            unfold tst
            rw [if_neg (by omega), if_neg (by omega), if_neg (by rw [qb]; decide)]
          exact sk59 _ (by rw [et]) (by rw [et]) (by rw [et])
        · rw [if_pos (show b01 true = 1 from rfl), f_X8_takes_L60, if_neg (by decide), o0, bO_some]
          by_cases k0 : x.1 9 (lo + d + 1) = 0
          · have et : tst (lo + d + 1) x = (endg x.1 (x.1 10 (lo + d + 1)), x.2.1 &&& (255 - 2 ^ x.1 10 (lo + d + 1)), x.2.2.1, x.2.2.2) := by
              unfold tst
              rw [if_neg (by omega), if_neg (by omega), if_pos qb, if_pos k0]
            obtain ⟨M1, e1, r1, f1⟩ := m_app h (by omega) (by omega) hLx (kd := 4) (by omega) (x.1 10 (lo + d + 1)) 0 0 0 0
            have s4 := sub4 _ hlt _ ow qb
            have r1' : RO O (M1 11 29) (tst (lo + d + 1) x).1 := by
              rw [et]
              exact RO_o (fun f i a => lev_o a) r1
            have := cont M1 r1' f1
            rw [et] at this ⊢
            rw [if_pos (by rw [k0]; rfl), show f_X8_adds M (4 : Int32) (nI (x.1 10 (lo + d + 1))) (-1000004 : Int32) (-1000004 : Int32) (-1000004 : Int32) (-1000004 : Int32) = some (nI (x.1 0 0 + x.1 0 1), M1) from e1, bP_some, bone8 _ (by omega), nL_sub s4.1, s4.2, bd]
            exact this
          · rw [if_neg (by rw [nl0, nL_eq (by omega) (by omega)]; exact k0), f_X8_takes_L103, if_neg (by decide)]
            have k1 : x.1 9 (lo + d + 1) = 1 := by omega
            obtain ⟨r, e1, e2⟩ := m_itb h hl.1 hb2 hN (by omega) (k := lo + d + 1) (by omega)
            have er : r = true ↔ x.2.2.1 (lo + d + 1) = true := by
              rw [tk (lo + d + 1) (by omega) (by omega), e2]
              constructor
              · rintro ⟨m, z1, z2, z3, z4⟩
                have := (hj.2.2.2.1 m z1 z2 z3).1
                exact ⟨m, by omega, z2, z3, z4⟩
              · rintro ⟨m, z1, z2, z3, z4⟩
                exact ⟨m, by omega, z2, z3, z4⟩
            rw [e1, bO_some]
            cases qt : x.2.2.1 (lo + d + 1)
            · have er' : r = false := by
                cases r
                · rfl
                · rw [qt] at er; exact absurd (er.mp rfl) (by decide)
              have w3 := w3 (Or.inl k1)
              have et : tst (lo + d + 1) x = (twb x.1 (lo + d + 1), x.2.1, x.2.2.1, x.2.2.2 + 1) := by
                unfold tst
                rw [if_neg (by omega), if_neg (by omega), if_pos qb, if_neg k0, if_pos ⟨k1, qt⟩]
              have ep2 : ep (x.1 9 (lo + d + 1)) (x.1 11 (lo + d + 1)) = nI (x.1 11 (lo + d + 1)) := by unfold ep; rw [if_pos (Or.inl k1)]
              have ep3 : ep (x.1 9 (lo + d + 1)) (x.1 12 (lo + d + 1)) = nI (x.1 12 (lo + d + 1)) := by unfold ep; rw [if_pos (Or.inl k1)]
              obtain ⟨M1, e3, r1, f1⟩ := m_app h (by omega) (by omega) hLx (kd := 3) (by omega) (x.1 10 (lo + d + 1)) (x.1 11 (lo + d + 1)) (val x.1 (x.1 11 (lo + d + 1))) (x.1 12 (lo + d + 1)) (lo + d + 1)
              obtain ⟨hB, hb1, -, hb3, -, -⟩ := hl
              have o12 := hB 12 (lo + d + 1)
              have yv := val_le hB (p := x.1 11 (lo + d + 1))
              have B1 : Bd (b + 1) (app x.1 3 (x.1 10 (lo + d + 1)) (x.1 11 (lo + d + 1)) (val x.1 (x.1 11 (lo + d + 1))) (x.1 12 (lo + d + 1)) (lo + d + 1)) := Bd_app hB (by omega) (by omega) (by omega) (by omega) (by omega) (by omega) (by omega)
              have hpp := hp _ w3
              have hX : PP (app x.1 3 (x.1 10 (lo + d + 1)) (x.1 11 (lo + d + 1)) (val x.1 (x.1 11 (lo + d + 1))) (x.1 12 (lo + d + 1)) (lo + d + 1)) (x.1 11 (lo + d + 1)) := PP_of hpp (by rw [app_o (by omega) (by omega)]) (by rw [app_o (by omega) (by omega)]) (app_o (by omega) (by omega)) (app_o (by omega) (by omega)) (app_o (by omega) (by omega)) (by rw [app_F, app_N]; omega) (fun z => by rw [app_F]; exact (hpp.2.2 z).1) (fun z => by rw [app_o (by omega) (by omega), app_o (by omega) (by omega)]; exact (hpp.2.2 z).2.2)
              obtain ⟨M2, e4, r2, f2⟩ := m_comes r1 B1 (by omega) (Sm_app hs) w3 hX (x.1 12 (lo + d + 1)) (x.1 0 0 + x.1 0 1)
              have r2' : RO O (M2 11 29) (tst (lo + d + 1) x).1 := by
                rw [et]
                exact r2
              have := cont M2 r2' (f1.tr f2)
              rw [et] at this ⊢
              rw [er', if_pos (show b01 false = 0 from rfl), o2, bO_some, o3, bO_some, ep2, ep3, m_value h.2.1 w3, bO_some, bO_some, show f_X8_adds M (3 : Int32) (nI (x.1 10 (lo + d + 1))) (nI (x.1 11 (lo + d + 1))) (nI (val x.1 (x.1 11 (lo + d + 1)))) (nI (x.1 12 (lo + d + 1))) (nI (lo + d + 1)) = some (nI (x.1 0 0 + x.1 0 1), M1) from e3, bP_some, e4, bO_some, bd, nI_1]
              exact this
            · have er' : r = true := er.mpr qt
              have et : tst (lo + d + 1) x = x := by
                unfold tst
                rw [if_neg (by omega), if_neg (by omega), if_pos qb, if_neg k0, if_neg (by rw [qt]; exact fun z => nomatch z.2)]
              rw [er', if_neg (show ¬ b01 true = 0 by decide)]
              exact skip (by rw [et]) (by rw [et]) (by rw [et])
theorem m_takes {l0 : Nat} (h : RO O (M 11 29) S) (hl : Lp b S) (hb : b + S 0 1 < 2 ^ 28) (hF : 1 ≤ S 0 0) (hN : S 0 1 ≤ 120) (ti : TI S l0 (S 0 0 + S 0 1) (S, l0, (fun _ => false), 0)) : ∃ M', f_X8_takes M (nI l0) = some (nI (tlb (S 0 0 - 1) (S 0 1) (S, l0, (fun _ => false), 0)).2.2.2, M') ∧ RO O (M' 11 29) (tlb (S 0 0 - 1) (S 0 1) (S, l0, (fun _ => false), 0)).1 ∧ FM M M' := by
  obtain ⟨M', e1, r1, f1⟩ := m_takes0 (O := O) (S := S) (l0 := l0) (lo := S 0 0 - 1) (by omega) (S 0 1) FU b (S, l0, (fun _ => false), 0) M (by rw [show S 0 0 - 1 + S 0 1 + 1 = S 0 0 + S 0 1 by omega]; exact ti) h hl hb (by show _ < 10000; omega)
  refine ⟨M', ?_, r1, f1⟩
  rw [f_X8_takes, m_last h.1 hF, bO_some]
  rw [show S 0 0 - 1 + S 0 1 = S 0 0 + S 0 1 - 1 by omega] at e1
  exact e1
theorem m_take (h : RQ (M 11 29) S) (hv : Inv b S) (hg : g < 4) (hbb : b + 500 < 2 ^ 27) : OKm M (f_X8_takeBack M (nI g)) S (aTake S g) := by
  obtain ⟨⟨n1, ⟨n2, n2'⟩, n3, n4, n5, n6, n7, n8, n9⟩, hj, hpi, hr, hst⟩ := id hv
  have y1 := n1 0 1
  have y7 := n1 7 g
  rw [f_X8_takeBack, m_yes3 M (by omega), bO_some, if_neg (by decide)]
  unfold aTake
  by_cases q1 : S 0 5 = 0
  · rw [m_stop0 h.1 q1, bO_some, if_pos rfl, m_open h.2.2.1 hg, bO_some]
    cases q2 : (S 0 8).testBit g
    · rw [if_pos (show b01 false = 0 from rfl), if_pos (Or.inr rfl)]
      exact Or.inl ⟨by show (-1000002 : Int32) < 0; decide, rfl, rfl⟩
    · rw [if_neg (show ¬ b01 true = 0 by decide), if_neg (show ¬ (S 0 5 ≠ 0 ∨ true = false) by simp [q1]), m_gr2 M hg, bO_some, ((h.2.2.1 g hg).2 q2).2.1, h.1.2.1, nI_add, nI_1]
      by_cases q3 : 60 < S 0 1 + (S 7 g + 1)
      · rw [if_neg (by rw [nl60, nL_le (by omega) (by omega)]; omega), if_pos q3]
        exact Or.inl ⟨by show (-1000003 : Int32) < 0; decide, rfl, rfl⟩
      · rw [if_pos (by rw [nl60, nL_le (by omega) (by omega)]; omega), if_neg q3]
        refine Or.inr ⟨by rw [nL_neg (by omega)]; exact id, fun M9 e9 h9 => ?_⟩
        have h' : RO (fun g => (S 0 8).testBit g) (M9 11 29) S := by rw [h9]; exact h
        obtain ⟨p1, p2, p3⟩ := pw4 g hg
        have ti := TI_init (l0 := 2 ^ g) hj hpi n9 p1 (fun g' hg' z => by
          rw [p3 g' hg'] at z
          have z : g' = g := of_decide_eq_true z
          rw [z]
          obtain ⟨g1, g2, -⟩ := ((hr q1).1 g hg).1 q2
          exact ⟨_, g1, g2⟩) (fun _ _ _ => Or.inr trivial)
        obtain ⟨te1, te2⟩ := take_eq hv q1 hg q2
        obtain ⟨k, ⟨-, so, tk, hlt, lb, oj, ot, op⟩, h0⟩ := take_TI hv q1 hg q2
        obtain ⟨M1, e1, r1, f1⟩ := m_takes h' ⟨n1, n2, by omega, n2', n9, hj.1.1⟩ (by omega) n5 n4 ti
        obtain ⟨M2, e2, f2, c2⟩ := m_closes M1 hg
        refine ⟨M2, ?_, ?_, f1.tr f2⟩
        · rw [e9, bO_some, bone8 g (by omega), e1, bP_some, e2, bO_some, te2]
        · show RO (fun i => ((endg (tbk g (S 6 g) (S 0 0 + S 0 1 - 1 - S 6 g) S) g) 0 8).testBit i) _ (endg (tbk g (S 6 g) (S 0 0 + S 0 1 - 1 - S 6 g) S) g)
          rw [← te1]
          refine RO_close r1 hg c2 (fun f i _ => rfl) (fun i hi => ?_)
          rw [op i hi, h0, Nat.zero_testBit, p3 i hi]
          by_cases e : i = g
          · rw [decide_eq_true e]; simp [e]
          · rw [decide_eq_false e]; simp [e]
  · rw [m_stop1 h.1 n9.2.2.2.2 q1, bO_some, if_neg (by decide), if_pos (Or.inl q1)]
    exact Or.inl ⟨by show (-1000002 : Int32) < 0; decide, rfl, rfl⟩
end MR
