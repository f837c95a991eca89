/-! turns: taking back, settling, writing, beginning; turns of a store that is stopped -/
section A3
variable {M M1 : Mem} {S T : St} {b t g p n h : Nat} {P : Nat → St} {O O' : Nat → Bool}
theorem LO_cl (h : LO O M T) (hg : g < 4) (eO : ∀ i, i < 4 → O' i = (O i && !decide (i = g))) : LO O' (st M 11 29 (4 * g) 0) T := by
  obtain ⟨k1, k2, k3, k4, k5⟩ := h
  have F : FQ (fun r => r = 29) M (st M 11 29 (4 * g) 0) := FQ.st FQ.rf rfl
  refine ⟨by rw [F 11 28 (by omega)]; exact k1, fun i hi => ?_, by rw [F 11 30 (by omega)]; exact k3, by rw [wd_cg (F 11 31 (by omega))]; exact k4, by rw [F 11 32 (by omega)]; exact k5⟩
  obtain ⟨c0, c1⟩ := k2 i hi
  rw [eO i hi]
  have L1 : st M 11 29 (4 * g) 0 11 29 (4 * i + 1) = M 11 29 (4 * i + 1) := by rw [sgr_at, if_neg (by omega)]
  have L2 : st M 11 29 (4 * g) 0 11 29 (4 * i + 2) = M 11 29 (4 * i + 2) := by rw [sgr_at, if_neg (by omega)]
  have L3 : st M 11 29 (4 * g) 0 11 29 (4 * i + 3) = M 11 29 (4 * i + 3) := by rw [sgr_at, if_neg (by omega)]
  rw [L1, L2, L3, sgr_at]
  by_cases e : i = g
  · rw [if_pos (by omega), decide_eq_true e, Bool.not_true, Bool.and_false]
    exact ⟨rfl, fun z => nomatch z⟩
  · rw [if_neg (by omega), decide_eq_false e, Bool.not_false, Bool.and_true]
    exact ⟨c0, c1⟩
theorem take_ti (h : Inv b S) (q5 : S 0 5 = 0) (hg : g < 4) (o : (S 0 8).testBit g = true) : TI S (2 ^ g) (S 0 0 + S 0 1) (S, 2 ^ g, (fun _ => false), 0) := by
  obtain ⟨⟨n1, ⟨n2, n2'⟩, n3, n4, n5, n6, n7, n8, n9⟩, hj, hp, hr, hst⟩ := h
  obtain ⟨p1, p2, p3⟩ := pw4 g hg
  exact TI_init (l0 := 2 ^ g) hj hp n9 p1 (fun g' hg' z => by
    rw [p3 g' hg'] at z
    have z : g' = g := of_decide_eq_true z
    rw [z]
    obtain ⟨g1, g2, -⟩ := ((hr q5).1 g hg).1 o
    exact ⟨_, g1, g2⟩) (fun _ _ _ => Or.inr trivial)
theorem A_take (hj : JJ b t M S) (hbb : b + 500 < 2 ^ 27) (q5 : S 0 5 = 0) (hg : g < 4) (o : (S 0 8).testBit g = true) (hN : S 0 1 + S 7 g < 32) (ht : t ≤ 100) : RS b t (bP (f_L_back M ((1 : Int32) <<< (nI g &&& 31))) (fun v128 M129 => gd (inb (nI (4 * g)) 16) (bd (st M129 11 29 (nI (4 * g)).toNatClampNeg (0 : Int32)) (fun M130 => bP (f_X7_takeBack M130 (nI g)) (fun v132 M133 => (if v132 = v128 then some ((1 : Int32), M133) else some ((0 : Int32), M133))))))) := by
  obtain ⟨j1, ⟨h, P, j2⟩, j3, j4, j5⟩ := hj
  obtain ⟨⟨n1, ⟨n2, n2'⟩, n3, n4, n5, n6, n7, n8, n9⟩, hjS, hpi, hr, hst⟩ := id j3
  have hn := PB_n j4
  have ti := take_ti j3 q5 hg o
  obtain ⟨te1, te2⟩ := take_eq j3 q5 hg o
  obtain ⟨k, ⟨⟨hjT, hpT, hsT, a1, a2⟩, so, tk, hl, lb, oj, ot, op⟩, h0⟩ := take_TI j3 q5 hg o
  obtain ⟨p1, p2, p3⟩ := pw4 g hg
  have ph := tlb_phi n5 (S 0 1) _ ti
  obtain ⟨Ma, e1, La, fa⟩ := l_back (b := b) j1 ⟨n1, n2, by omega, n2', n9, hjS.1.1⟩ (by omega) n5 (by omega) j4.1 ti
  have ea : aTake S g = (nI (S 7 g), endg (tbk g (S 6 g) (S 0 0 + S 0 1 - 1 - S 6 g) S) g) := by
    unfold aTake
    rw [if_neg (by rw [o]; simp [q5]), if_neg (by omega)]
  rw [← te1] at ea
  rw [te2] at e1
  obtain ⟨R, eR⟩ : ∃ R, R = tlb (S 0 0 - 1) (S 0 1) (S, 2 ^ g, (fun _ => false), 0) := ⟨_, rfl⟩
  rw [← eR] at La ea ph so op h0
  have F : FQ (fun r => r = 29) Ma (st Ma 11 29 (4 * g) 0) := FQ.st FQ.rf rfl
  have hc := k_take (M := st Ma 11 29 (4 * g) 0) (WC_fr (WC_fr j2 fa.o) F.o) j3 hg
  rw [ea] at hc
  have iv := iv_take j3 hg hbb
  rw [ea] at iv
  rw [bone8 g (by omega), e1, bP_some, gd_in (by omega) (by omega), nL_cl (by omega), bd]
  refine fin hc ?_ (by rw [F.o 9 (by omega), fa.o 9 (by omega)]; exact j5) rfl iv ?_
  · show LO (fun i => (R.1 0 8).testBit i) _ R.1
    refine LO_cl La hg (fun i hi => ?_)
    have z := op i hi
    rw [h0, Nat.zero_testBit, p3 i hi] at z
    by_cases e : i = g
    · rw [decide_eq_true e, Bool.not_true, Bool.and_false]
      cases y : (R.1 0 8).testBit i
      · rfl
      · have := z.mp y
        rw [decide_eq_true e] at this
        rcases this.2 with q | q <;> exact nomatch q
    · rw [decide_eq_false e, Bool.not_false, Bool.and_true]
      rw [decide_eq_false e] at z
      cases y : (R.1 0 8).testBit i
      · cases y2 : (S 0 8).testBit i
        · rfl
        · have := z.mpr ⟨y2, Or.inl rfl⟩
          rw [y] at this
          exact nomatch this
      · exact (z.mp y).1.symm
  · obtain ⟨b1, b2⟩ := j4
    have eF : R.1 0 0 = S 0 0 := so 0 0 (by omega)
    show PB (t + 1) R.1
    change phi R.1 (R.1 0 0) (R.1 0 1) ≤ phi S (S 0 0) (S 0 1) at ph
    unfold PB
    rw [eF] at ph ⊢
    omega
theorem pcs8 : ∀ m, m < 256 → ((((((((0 : Int32) + b01 (m.testBit 0)) + b01 (m.testBit 1)) + b01 (m.testBit 2)) + b01 (m.testBit 3)) + b01 (m.testBit 4)) + b01 (m.testBit 5)) + b01 (m.testBit 6)) + b01 (m.testBit 7) = nI (pc8 m) := by decide +kernel
theorem A_settle (hj : JJ b t M S) (hbb : b + 500 < 2 ^ 27) (q5 : S 0 5 = 0) (hg : g < 4) (o : (S 0 8).testBit g = true) (hN : S 0 1 < 32) : RS b t (itr (f_L_acts_L511 ) (fun _ _ _ _ _ => none) FU M (nI g) (nI (4 * g)) (0 : Int32) (0 : Int32)) := by
  obtain ⟨j1, ⟨h, P, j2⟩, j3, j4, j5⟩ := hj
  obtain ⟨⟨n1, ⟨n2, n2'⟩, n3, n4, n5, n6, n7, n8, n9⟩, hjS, hpi, hr, hst⟩ := id j3
  have hL := Inv_L j3
  have s8 := n9.2.2.2.1 g hg
  have stp : ∀ i n z, i < 8 → itr (f_L_acts_L511) (fun _ _ _ _ _ => none) (n + 1) M (nI g) (nI (4 * g)) z (nI i) = itr (f_L_acts_L511) (fun _ _ _ _ _ => none) n M (nI g) (nI (4 * g)) (z + b01 ((S 8 g).testBit i)) (nI (i + 1)) := fun i n z hi => by
    rw [itr_s, f_L_acts_L511, if_neg (by rw [nl8, nL_le (by omega) (by omega)]; omega), nl3, nI_add, gd_in (by omega) (by omega), nL_cl (by omega), ((j1.2.1 g hg).2 o).2.2, bit8 _ s8 i hi, bd, bd, nI_1]
  rw [show FU = 9991 + 1 + 1 + 1 + 1 + 1 + 1 + 1 + 1 + 1 from rfl, show itr (f_L_acts_L511) (fun _ _ _ _ _ => none) (9991 + 1 + 1 + 1 + 1 + 1 + 1 + 1 + 1 + 1) M (nI g) (nI (4 * g)) 0 0 = itr (f_L_acts_L511) (fun _ _ _ _ _ => none) (9991 + 1 + 1 + 1 + 1 + 1 + 1 + 1 + 1 + 1) M (nI g) (nI (4 * g)) 0 (nI 0) from rfl, stp 0 _ _ (by omega), stp 1 _ _ (by omega), stp 2 _ _ (by omega), stp 3 _ _ (by omega), stp 4 _ _ (by omega), stp 5 _ _ (by omega), stp 6 _ _ (by omega), stp 7 _ _ (by omega), pcs8 _ s8, itr_s, f_L_acts_L511, if_pos (by decide)]
  obtain ⟨Ma, e1, La, fa⟩ := l_app j1 n5 (by omega) hL (kd := 2) (gg := g) (pg := 0) (a := 0) (v := 0) (t := 0) (by omega) hg (by omega) (by omega) (by omega) (by omega)
  have B1 : Bd (b + 500) (app S 2 g 0 0 0 0) := Bd_app n1 (by omega) (by omega) (by omega) (by omega) (by omega) (by omega) (by omega)
  obtain ⟨Mb, e2, Lb, fb⟩ := l_force (n := S 0 0 + S 0 1) La B1 (by omega) (by omega)
  have ea : aSettle S g = (nI (pc8 (S 8 g)), lev (frc (app S 2 g 0 0 0 0) (S 0 0 + S 0 1)) g) := by
    unfold aSettle
    rw [if_neg (by rw [o]; simp [q5]), if_neg (by omega)]
  have F : FQ (fun r => r = 29) Mb (st Mb 11 29 (4 * g) 0) := FQ.st FQ.rf rfl
  have hc := k_settle (M := st Mb 11 29 (4 * g) 0) (WC_fr (WC_fr (WC_fr j2 fa.o) fb.o) F.o) j3 hg
  rw [ea] at hc
  have iv := iv_settle j3 hg hbb
  rw [ea] at iv
  rw [show f_L_add M (2 : Int32) (nI g) 0 0 0 0 = some (nI (S 0 0 + S 0 1), Ma) from e1, bP_some, e2, bP_some, gd_in (by omega) (by omega), nL_cl (by omega), bd]
  refine fin hc ?_ (by rw [F.o 9 (by omega), fb.o 9 (by omega), fa.o 9 (by omega)]; exact j5) rfl iv (PB_ext (kd := 2) (g := g) (u := 0) j4 (EX_of (EX_app (S := S) (kd := 2) (g := g) (pg := 0) (a := 0) (v := 0) (t := 0)) (fun f i a => ?_)) hN)
  · have e8 : lev (frc (app S 2 g 0 0 0 0) (S 0 0 + S 0 1)) g 0 8 = (S 0 8 &&& (255 - 2 ^ g)) := by
      rw [lev, up_at, frc_o (by omega), app_o (by omega) (by omega)]
    show LO (fun i => (lev (frc (app S 2 g 0 0 0 0) (S 0 0 + S 0 1)) g 0 8).testBit i) _ (lev (frc (app S 2 g 0 0 0 0) (S 0 0 + S 0 1)) g)
    rw [e8]
    refine LO_cl (O := fun i => (S 0 8).testBit i) (LO_o (fun f i a => lev_o a) Lb) hg (fun i hi => ?_)
    exact (tclr8 (S 0 8) (by have := n9.2.2.1; omega) g (by omega)).2 i (by omega)
  · show lev (frc (app S 2 g 0 0 0 0) (S 0 0 + S 0 1)) g f i = _
    rw [lev_o (by omega), frc_o (by omega)]
theorem hofc (hg : g < 4) : (hof S p < 0 ↔ hol S p < 0) ∧ (hof S p = nI g ↔ hol S p = nI g) := by
  unfold hof hol
  have h1 : ((-1 : Int32) < 0) = True := by decide
  have h2 : ((-1000004 : Int32) < 0) = True := by decide
  have h3 : ((-1 : Int32) = nI g) = False := eq_false (fun z => by
    have := nI_pos (n := g) (by omega)
    rw [← z] at this
    exact this (by decide))
  have h4 : ((-1000004 : Int32) = nI g) = False := nL_NF2 (by omega)
  by_cases c0 : hb S 0 p
  · rw [if_pos c0, if_pos c0]; exact ⟨Iff.rfl, Iff.rfl⟩
  · rw [if_neg c0, if_neg c0]
    by_cases c1 : hb S 1 p
    · rw [if_pos c1, if_pos c1]; exact ⟨Iff.rfl, Iff.rfl⟩
    · rw [if_neg c1, if_neg c1]
      by_cases c2 : hb S 2 p
      · rw [if_pos c2, if_pos c2]; exact ⟨Iff.rfl, Iff.rfl⟩
      · rw [if_neg c2, if_neg c2]
        by_cases c3 : hb S 3 p
        · rw [if_pos c3, if_pos c3]; exact ⟨Iff.rfl, Iff.rfl⟩
        · rw [if_neg c3, if_neg c3, h1, h2, h3, h4]; exact ⟨Iff.rfl, Iff.rfl⟩
theorem A_write (hj : JJ b t M S) (hbb : b + 500 < 2 ^ 27) (q5 : S 0 5 = 0) (hg : g < 4) (hp : p < 8) {v : Nat} (hv : v < 100) (o : (S 0 8).testBit g = true) (ho : hol S p < 0 ∨ hol S p = nI g) (hN : S 0 1 < 32) : RS b t (f_L_acts_L393 M (nI g) (nI (4 * g)) (nI p) (nI v)) := by
  obtain ⟨j1, ⟨h, P, j2⟩, j3, j4, j5⟩ := hj
  obtain ⟨⟨n1, ⟨n2, n2'⟩, n3, n4, n5, n6, n7, n8, n9⟩, hjS, hpi, hr, hst⟩ := id j3
  have hL := Inv_L j3
  have s8 := n9.2.2.2.1 g hg
  have vl := val_lt j1.2.2.1 hp
  have vle := val_le n1 (p := p)
  obtain ⟨Ma, e1, La, fa⟩ := l_app j1 n5 (by omega) hL (kd := 1) (gg := g) (pg := p) (a := val S p) (v := v) (t := 0) (by omega) hg hp vl (by omega) (by omega)
  have B1 : Bd (b + 500) (app S 1 g p (val S p) v 0) := Bd_app n1 (by omega) (by omega) (by omega) (by omega) (by omega) (by omega) (by omega)
  have hpp := hpi p hp
  have hX : PP (app S 1 g p (val S p) v 0) p := PP_of hpp (by rw [app_o (by omega) (by omega)]) (by rw [app_o (by omega) (by omega)]) (app_o (by omega) (by omega)) (app_o (by omega) (by omega)) (app_o (by omega) (by omega)) (by rw [app_F, app_N]; omega) (fun z => by rw [app_F]; exact (hpp.2.2 z).1) (fun z => by rw [app_o (by omega) (by omega), app_o (by omega) (by omega)]; exact (hpp.2.2 z).2.2)
  obtain ⟨Mb, e2, Lb, fb⟩ := l_come La B1 (by omega) (Sm_app n9) hp hX (v := v) (n := S 0 0 + S 0 1) (by omega) (by omega)
  obtain ⟨Y, eY⟩ : ∃ Y, Y = put (app S 1 g p (val S p) v 0) p v (S 0 0 + S 0 1) := ⟨_, rfl⟩
  rw [← eY] at Lb
  have yo : ∀ f i, (5 < f ∧ f < 9) ∨ f = 15 ∨ (f = 0 ∧ i = 8) → Y f i = S f i := fun f i a => by rw [eY, put_o (by omega), app_o (by omega) (by omega)]
  have ea : aWrite S g p v = (nI (val S p), hld Y g p) := by
    unfold aWrite
    rw [if_neg (by rw [o]; rintro (z | z | z); exact z q5; exact nomatch z; exact z ho), if_neg (by omega), eY]
  obtain ⟨c0, c1⟩ := Lb.2.1 g hg
  obtain ⟨c1a, c1b, c1c⟩ := c1 o
  rw [yo 7 g (by omega)] at c1b
  rw [yo 8 g (by omega)] at c1c
  obtain ⟨Mc, eMc⟩ : ∃ Mc, Mc = st (st Mb 11 29 (4 * g + 2) (nI (S 7 g + 1))) 11 29 (4 * g + 3) (nI (S 8 g ||| 2 ^ p)) := ⟨_, rfl⟩
  have fc : FQ (fun r => r = 29) Mb Mc := by rw [eMc]; exact FQ.st (FQ.st FQ.rf rfl) rfl
  have lo : ∀ j, Mc 11 29 j = if j = 4 * g + 3 then nI (S 8 g ||| 2 ^ p) else if j = 4 * g + 2 then nI (S 7 g + 1) else Mb 11 29 j := fun j => by rw [eMc, sgr_at, sgr_at]
  have hc := k_write (M := Mc) (WC_fr (WC_fr (WC_fr j2 fa.o) fb.o) fc.o) j3 hg hp hv
  rw [ea] at hc
  have iv := iv_write j3 hg hp hv hbb
  rw [ea] at iv
  rw [f_L_acts_L393, l_value j1.2.2.1 hp, bO_some, show f_L_add M (1 : Int32) (nI g) (nI p) (nI (val S p)) (nI v) 0 = some (nI (S 0 0 + S 0 1), Ma) from e1, bP_some, e2, bO_some, nl2, nI_add, gd_in (by omega) (by omega), gd_in (by omega) (by omega), nL_cl (by omega), c1b, nI_1, bd, nl3, nI_add, gd_in (by omega) (by omega), gd_in (by omega) (by omega), nL_cl (by omega), sgr_at, if_neg (by omega), c1c, bset8 _ s8 p hp, bd, ← eMc]
  refine fin hc ?_ (by rw [fc.o 9 (by omega), fb.o 9 (by omega), fa.o 9 (by omega)]; exact j5) rfl iv (PB_ext (kd := 1) (g := g) (u := 0) j4 (EX_of (EX_app (S := S) (kd := 1) (g := g) (pg := p) (a := val S p) (v := v) (t := 0)) (fun f i a => ?_)) hN)
  · have so : ∀ f i, f ≠ 7 → f ≠ 8 → hld Y g p f i = Y f i := fun f i a c => hld_o ⟨a, c⟩
    show LO (fun i => (hld Y g p 0 8).testBit i) _ (hld Y g p)
    rw [so 0 8 (by omega) (by omega), yo 0 8 (by omega)]
    obtain ⟨k1, k2, k3, k4, k5⟩ := Lb
    refine ⟨?_, fun i hi => ?_, ?_, ?_, ?_⟩
    · rw [fc 11 28 (by omega)]; exact LG_cg k1 (so _ _ (by omega) (by omega)) (so _ _ (by omega) (by omega)) (so _ _ (by omega) (by omega)) (so _ _ (by omega) (by omega)) (so _ _ (by omega) (by omega))
    · obtain ⟨d0, d1⟩ := k2 i hi
      have L0 : Mc 11 29 (4 * i) = Mb 11 29 (4 * i) := by rw [lo, if_neg (by omega), if_neg (by omega)]
      have L1 : Mc 11 29 (4 * i + 1) = Mb 11 29 (4 * i + 1) := by rw [lo, if_neg (by omega), if_neg (by omega)]
      rw [L0, L1, so 6 i (by omega) (by omega)]
      refine ⟨d0, fun z => ?_⟩
      obtain ⟨d1a, d1b, d1c⟩ := d1 z
      by_cases e : i = g
      · subst e
        have L2 : Mc 11 29 (4 * i + 2) = nI (S 7 i + 1) := by rw [lo, if_neg (by omega), if_pos rfl]
        have L3 : Mc 11 29 (4 * i + 3) = nI (S 8 i ||| 2 ^ p) := by rw [lo, if_pos rfl]
        rw [L2, L3]
        refine ⟨d1a, ?_, ?_⟩
        · rw [hld, up_ne (by omega), up_at, yo 7 i (by omega)]
        · rw [hld, up_at, yo 8 i (by omega)]
      · have L2 : Mc 11 29 (4 * i + 2) = Mb 11 29 (4 * i + 2) := by rw [lo, if_neg (by omega), if_neg (by omega)]
        have L3 : Mc 11 29 (4 * i + 3) = Mb 11 29 (4 * i + 3) := by rw [lo, if_neg (by omega), if_neg (by omega)]
        rw [L2, L3]
        refine ⟨d1a, ?_, ?_⟩
        · rw [hld, up_ne (by omega), up_ne (by omega)]; exact d1b
        · rw [hld, up_ne (by omega), up_ne (by omega)]; exact d1c
    · rw [fc 11 30 (by omega)]; exact LPg_cg k3 (fun f i _ hf => so _ _ (by omega) (by omega))
    · rw [wd_cg (fc 11 31 (by omega))]; exact LR_cg k4 (so _ _ (by omega) (by omega)) (so _ _ (by omega) (by omega)) (fun f i a c => so _ _ (by omega) (by omega))
    · rw [fc 11 32 (by omega)]; exact LN_cg k5 (so _ _ (by omega) (by omega)) (fun p _ => so _ _ (by omega) (by omega))
  · show hld Y g p f i = _
    rw [hld_o (by omega), eY, put_o (by omega)]
theorem A_begin (hj : JJ b t M S) (hbb : b + 500 < 2 ^ 27) (q5 : S 0 5 = 0) (hg : g < 4) (o : (S 0 8).testBit g = false) (hN : S 0 1 < 32) : RS b t (bd (st M 11 29 (4 * g) (1 : Int32)) (fun M189 => bP (f_L_add M189 (0 : Int32) (nI g) (0 : Int32) (0 : Int32) (0 : Int32) (0 : Int32)) (fun v191 M192 => gd (inb (nI (4 * g) + (1 : Int32)) 16) (bd (st M192 11 29 ((nI (4 * g) + (1 : Int32))).toNatClampNeg v191) (fun M193 => gd (inb (nI (4 * g) + (2 : Int32)) 16) (bd (st M193 11 29 ((nI (4 * g) + (2 : Int32))).toNatClampNeg (0 : Int32)) (fun M195 => gd (inb (nI (4 * g) + (3 : Int32)) 16) (bd (st M195 11 29 ((nI (4 * g) + (3 : Int32))).toNatClampNeg (0 : Int32)) (fun M197 => bP (f_X7_begin M197 (nI g)) (fun v199 M200 => gd (inb (nI (4 * g) + (1 : Int32)) 16) ((if v199 = (M200 11 29 ((nI (4 * g) + (1 : Int32))).toNatClampNeg) then some ((1 : Int32), M200) else some ((0 : Int32), M200))))))))))))) := by
  obtain ⟨j1, ⟨h, P, j2⟩, j3, j4, j5⟩ := hj
  obtain ⟨⟨n1, ⟨n2, n2'⟩, n3, n4, n5, n6, n7, n8, n9⟩, hjS, hpi, hr, hst⟩ := id j3
  have hL := Inv_L j3
  obtain ⟨k1, k2, k3, k4, k5⟩ := id j1
  have f0 : FQ (fun r => r = 29) M (st M 11 29 (4 * g) 1) := FQ.st FQ.rf rfl
  -- the row of the groups does not matter to the adding
  have h0 : LO (fun i => (S 0 8).testBit i) M S := j1
  obtain ⟨w, ew⟩ : ∃ w, w = pak 0 g 0 0 0 0 := ⟨_, rfl⟩
  have eadd : f_L_add (st M 11 29 (4 * g) 1) (0 : Int32) (nI g) 0 0 0 0 = some (nI (S 0 0 + S 0 1), st (stl (st M 11 29 (4 * g) 1) (S 0 1) (lN w)) 11 28 1 (nI (S 0 1 + 1))) := by
    rw [ew]
    exact l_add1 (M := st M 11 29 (4 * g) 1) (k := 0) (g := g) (p := 0) (o := 0) (v := 0) (t := 0) (by rw [f0 11 28 (by omega)]; exact k1) n5 (by omega) (by omega) (by omega) (by omega) (by omega) (by omega) (by omega)
  obtain ⟨Ma, eMa⟩ : ∃ Ma, Ma = st (stl (st M 11 29 (4 * g) 1) (S 0 1) (lN w)) 11 28 1 (nI (S 0 1 + 1)) := ⟨_, rfl⟩
  rw [← eMa] at eadd
  have fa : FQ RA (st M 11 29 (4 * g) 1) Ma := by rw [eMa]; exact FQ.st (FQ.stl FQ.rf (Or.inr rfl)) (Or.inl rfl)
  -- with the old row of the groups the adding gives the new store
  have Lx : LO (fun i => (S 0 8).testBit i) (st (stl M (S 0 1) (lN w)) 11 28 1 (nI (S 0 1 + 1))) (app S 0 g 0 0 0 0) := by
    refine LO_app h0 (by omega) hL g 0 0 0 0 (by omega) ?_ ?_ ?_ (fun z => by omega) (fun z => by omega) <;> rw [ew] <;> unfold pak <;> omega
  obtain ⟨x1, x2, x3, x4, x5⟩ := Lx
  have m28 : Ma 11 28 = st (stl M (S 0 1) (lN w)) 11 28 1 (nI (S 0 1 + 1)) 11 28 := by
    funext j
    rw [eMa, sgr_at, sgr_at, stl_ne (by omega), stl_ne (by omega), sgr_ne (by omega)]
  have mwd : wd Ma = wd (st (stl M (S 0 1) (lN w)) 11 28 1 (nI (S 0 1 + 1))) := by
    funext j
    have lw : w < 2 ^ 64 := by rw [ew]; unfold pak; omega
    rw [eMa, wd_cg (M := stl (st M 11 29 (4 * g) 1) (S 0 1) (lN w)) (sgr_ne (by omega)), wd_cg (M := stl M (S 0 1) (lN w)) (M' := st (stl M (S 0 1) (lN w)) 11 28 1 (nI (S 0 1 + 1))) (sgr_ne (by omega)), wd_stl _ _ _ lw, wd_stl _ _ _ lw, wd_cg (M := M) (sgr_ne (by omega))]
  have ea : aBegin S g = (nI (S 0 0 + S 0 1), ent (app S 0 g 0 0 0 0) g (S 0 0 + S 0 1)) := by
    unfold aBegin
    rw [if_neg (by rw [o]; simp [q5]), if_neg (by omega)]
  obtain ⟨Mb, eMb⟩ : ∃ Mb, Mb = st (st (st Ma 11 29 (4 * g + 1) (nI (S 0 0 + S 0 1))) 11 29 (4 * g + 2) 0) 11 29 (4 * g + 3) 0 := ⟨_, rfl⟩
  have fb : FQ (fun r => r = 29) Ma Mb := by rw [eMb]; exact FQ.st (FQ.st (FQ.st FQ.rf rfl) rfl) rfl
  have lo : ∀ j, Mb 11 29 j = if j = 4 * g + 3 then 0 else if j = 4 * g + 2 then 0 else if j = 4 * g + 1 then nI (S 0 0 + S 0 1) else if j = 4 * g then 1 else M 11 29 j := fun j => by
    rw [eMb, sgr_at, sgr_at, sgr_at, fa 11 29 (by omega), sgr_at]
  have hc := k_begin (M := Mb) (WC_fr (WC_fr (WC_fr j2 f0.o) fa.o) fb.o) j3 hg
  rw [ea] at hc
  have iv := iv_begin j3 hg hbb
  rw [ea] at iv
  have so : ∀ f i, f ≠ 6 ∧ f ≠ 7 ∧ f ≠ 8 ∧ ¬ (f = 0 ∧ i = 8) → ent (app S 0 g 0 0 0 0) g (S 0 0 + S 0 1) f i = app S 0 g 0 0 0 0 f i := fun f i a => ent_o a
  have b8 := (tset8 (S 0 8) (by have := n9.2.2.1; omega) g (by omega)).2
  have e8 : ent (app S 0 g 0 0 0 0) g (S 0 0 + S 0 1) 0 8 = (S 0 8 ||| 2 ^ g) := by
    rw [ent, up_at, app_o (by omega) (by omega)]
  have LL : LSt Mb (ent (app S 0 g 0 0 0 0) g (S 0 0 + S 0 1)) := by
    show LO (fun i => (ent (app S 0 g 0 0 0 0) g (S 0 0 + S 0 1) 0 8).testBit i) _ _
    rw [e8]
    refine ⟨?_, fun i hi => ?_, ?_, ?_, ?_⟩
    · rw [fb 11 28 (by omega), m28]; exact LG_cg x1 (so _ _ (by omega)) (so _ _ (by omega)) (so _ _ (by omega)) (so _ _ (by omega)) (so _ _ (by omega))
    · obtain ⟨d0, d1⟩ := k2 i hi
      show Mb 11 29 (4 * i) = b01 ((S 0 8 ||| 2 ^ g).testBit i) ∧ ((S 0 8 ||| 2 ^ g).testBit i = true → _)
      rw [b8 i (by omega)]
      by_cases e : i = g
      · subst e
        have L0 : Mb 11 29 (4 * i) = 1 := by rw [lo, if_neg (by omega), if_neg (by omega), if_neg (by omega), if_pos rfl]
        have L1 : Mb 11 29 (4 * i + 1) = nI (S 0 0 + S 0 1) := by rw [lo, if_neg (by omega), if_neg (by omega), if_pos rfl]
        have L2 : Mb 11 29 (4 * i + 2) = 0 := by rw [lo, if_neg (by omega), if_pos rfl]
        have L3 : Mb 11 29 (4 * i + 3) = 0 := by rw [lo, if_pos rfl]
        rw [L0, L1, L2, L3, decide_eq_true rfl, Bool.or_true]
        refine ⟨rfl, fun _ => ⟨?_, ?_, ?_⟩⟩
        · rw [ent, up_ne (by omega), up_ne (by omega), up_ne (by omega), up_at]
        · rw [ent, up_ne (by omega), up_ne (by omega), up_at]; rfl
        · rw [ent, up_ne (by omega), up_at]; rfl
      · have L0 : Mb 11 29 (4 * i) = M 11 29 (4 * i) := by rw [lo, if_neg (by omega), if_neg (by omega), if_neg (by omega), if_neg (by omega)]
        have L1 : Mb 11 29 (4 * i + 1) = M 11 29 (4 * i + 1) := by rw [lo, if_neg (by omega), if_neg (by omega), if_neg (by omega), if_neg (by omega)]
        have L2 : Mb 11 29 (4 * i + 2) = M 11 29 (4 * i + 2) := by rw [lo, if_neg (by omega), if_neg (by omega), if_neg (by omega), if_neg (by omega)]
        have L3 : Mb 11 29 (4 * i + 3) = M 11 29 (4 * i + 3) := by rw [lo, if_neg (by omega), if_neg (by omega), if_neg (by omega), if_neg (by omega)]
        have u : ∀ f, f = 6 ∨ f = 7 ∨ f = 8 → ent (app S 0 g 0 0 0 0) g (S 0 0 + S 0 1) f i = S f i := fun f hf => by
          rw [ent, up_ne (by omega), up_ne (by omega), up_ne (by omega), up_ne (by omega), app_o (by omega) (by omega)]
        rw [L0, L1, L2, L3, decide_eq_false e, Bool.or_false, u 6 (by omega), u 7 (by omega), u 8 (by omega)]
        exact ⟨d0, d1⟩
    · rw [fb 11 30 (by omega), fa 11 30 (by omega), f0 11 30 (by omega)]; exact LPg_cg k3 (fun f i _ hf => by rw [so _ _ (by omega), app_o (by omega) (by omega)])
    · rw [wd_cg (fb 11 31 (by omega)), mwd]; exact LR_cg x4 (so _ _ (by omega)) (so _ _ (by omega)) (fun f i a c => so _ _ (by omega))
    · rw [fb 11 32 (by omega), fa 11 32 (by omega), f0 11 32 (by omega)]; exact LN_cg k5 (by rw [so _ _ (by omega), app_o (by omega) (by omega)]) (fun p _ => by rw [so _ _ (by omega), app_o (by omega) (by omega)])
  rw [bd, eadd, bP_some, nI_1, gd_in (by omega) (by omega), nL_cl (by omega), bd, nl2, nI_add, gd_in (by omega) (by omega), nL_cl (by omega), bd, nl3, nI_add, gd_in (by omega) (by omega), nL_cl (by omega), bd, show st (st (st Ma 11 29 (4 * g + 1) (nI (S 0 0 + S 0 1))) 11 29 (4 * g + 2) (0 : Int32)) 11 29 (4 * g + 3) (0 : Int32) = Mb from eMb.symm]
  obtain ⟨M', h', P', e1, e2, e3⟩ := hc
  refine ⟨M', ent (app S 0 g 0 0 0 0) g (S 0 0 + S 0 1), ?_, LO_fr LL (e2 11 (by omega)), ⟨h', P', e3⟩, iv, PB_ext (kd := 0) (g := g) (u := 0) j4 (EX_of (EX_app (S := S) (kd := 0) (g := g) (pg := 0) (a := 0) (v := 0) (t := 0)) (fun f i a => so _ _ (by omega))) hN, by rw [e2 9 (by omega), fb.o 9 (by omega), fa.o 9 (by omega), f0.o 9 (by omega)]; exact j5⟩
  rw [e1, bP_some, gd_in (by omega) (by omega), if_pos (by rw [e2 11 (by omega), lo, if_neg (by omega), if_neg (by omega), if_pos rfl])]
end A3
