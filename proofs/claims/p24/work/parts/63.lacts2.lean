/-! turns: checkpoints, writing out -/
section A2
variable {M M1 : Mem} {S T : St} {b t g p n h : Nat} {P : Nat → St}
/-- the store behind a checkpoint, but for the forcing -/
def ckq (S : St) : St := upr (up (up (app S 5 0 0 (S 0 8) (S 0 7) 0) 0 3 (S 0 0 + S 0 1)) 0 4 (mp S (S 0 0 + S 0 1) 8)) 15 (fun p => if p < 8 then (if (S 0 7).testBit p then S 5 p else 0) else S 15 p)
theorem ckq_o {f i : Nat} (h : ¬ (f = 0 ∧ (i = 1 ∨ i = 3 ∨ i = 4)) ∧ (f < 9 ∨ 15 < f)) : ckq S f i = S f i := by
  unfold ckq
  rw [show ∀ X : St, ∀ g, upr X 15 g f i = X f i from fun X g => by unfold upr; rw [if_neg (by omega)], up_ne (by omega), up_ne (by omega), app_o (by omega) (by omega)]
theorem ckq_r {f i : Nat} (h : 9 ≤ f ∧ f ≤ 14) : ckq S f i = app S 5 0 0 (S 0 8) (S 0 7) 0 f i := by
  unfold ckq
  rw [show ∀ X : St, ∀ g, upr X 15 g f i = X f i from fun X g => by unfold upr; rw [if_neg (by omega)], up_ne (by omega), up_ne (by omega)]
theorem ckq_v : ckq S 0 1 = S 0 1 + 1 ∧ ckq S 0 3 = S 0 0 + S 0 1 ∧ ∀ p, p < 8 → ckq S 15 p = (if (S 0 7).testBit p then S 5 p else 0) := by
  refine ⟨?_, ?_, fun p hp => ?_⟩
  · unfold ckq
    rw [show ∀ X : St, ∀ g, upr X 15 g 0 1 = X 0 1 from fun X g => by unfold upr; rw [if_neg (by omega)], up_ne (by omega), up_ne (by omega), app_N]
  · unfold ckq
    rw [show ∀ X : St, ∀ g, upr X 15 g 0 3 = X 0 3 from fun X g => by unfold upr; rw [if_neg (by omega)], up_ne (by omega), up_at]
  · unfold ckq upr
    rw [if_pos rfl]
    show (if p < 8 then _ else _) = _
    rw [if_pos hp]
theorem ckq_e : ckp S = frc (ckq S) (S 0 0 + S 0 1) := by
  unfold frc
  rw [ckq_o (f := 0) (i := 2) (by omega)]
  rfl
theorem A_chk (hj : JJ b t M S) (hbb : b + 500 < 2 ^ 27) (q5 : S 0 5 = 0) (hN : S 0 1 < 32) : RS b t (bP (f_L_add M (5 : Int32) (0 : Int32) (0 : Int32) (0 : Int32) (0 : Int32) (0 : Int32)) (fun v74 M75 => itr (f_L_acts_L878 ) (fun _ _ _ => none) FU M75 v74 (0 : Int32))) := by
  obtain ⟨j1, ⟨h, P, j2⟩, j3, j4, j5⟩ := hj
  have n9 := j3.1.2.2.2.2.2.2.2.2
  have hb3 := j3.1.2.2.1
  have y0 := j3.1.1 0 0
  have hF := j3.1.2.2.2.2.1
  have hn := PB_n j4
  obtain ⟨⟨g0, g1, g2, g3, g4⟩, k2, k3, k4, k5⟩ := id j1
  have ea : aChk S = (nI (S 0 0 + S 0 1), ckp S) := by unfold aChk; rw [if_neg (by omega), if_neg (by omega)]
  obtain ⟨Ma, eMa⟩ : ∃ Ma, Ma = st (stl M (S 0 1) (lN (pak 5 0 0 0 0 0))) 11 28 1 (nI (S 0 1 + 1)) := ⟨_, rfl⟩
  have eadd : f_L_add M (5 : Int32) (0 : Int32) (0 : Int32) (0 : Int32) (0 : Int32) (0 : Int32) = some (nI (S 0 0 + S 0 1), Ma) := by
    rw [eMa]
    exact l_add1 (k := 5) (g := 0) (p := 0) (o := 0) (v := 0) (t := 0) j1.1 hF (by omega) (by omega) (by omega) (by omega) (by omega) (by omega) (by omega)
  have fa : FQ RA M Ma := by rw [eMa]; exact FQ.st (FQ.stl FQ.rf (Or.inr rfl)) (Or.inl rfl)
  have a28 : ∀ j, Ma 11 28 j = if j = 1 then nI (S 0 1 + 1) else M 11 28 j := fun j => by rw [eMa, sgr_at, stl_ne (by omega)]
  have awd : ∀ j, wd Ma j = if j = S 0 1 then 5 else wd M j := fun j => by
    rw [eMa, wd_cg (M := stl M (S 0 1) (lN (pak 5 0 0 0 0 0))) (sgr_ne (by omega)), wd_stl _ _ _ (by decide)]
    rfl
  have wlt : S 0 8 + S 0 7 * 16 < 4096 := by
    have := n9.2.1
    have := n9.2.2.1
    omega
  -- the loop
  have lp : ∀ d i fu (M1 : Mem), i + d = 8 → d < fu → FQ (fun r => r = 32) Ma M1 → (∀ p, p < i → M1 11 32 p = nI (if (S 0 7).testBit p then S 5 p else 0)) → RS b t (itr (f_L_acts_L878 ) (fun _ _ _ => none) fu M1 (nI (S 0 0 + S 0 1)) (nI i)) := by
    intro d
    induction d with
    | zero =>
      intro i fu M1 hi hf f1 h32
      obtain ⟨f, rfl⟩ : ∃ f, fu = f + 1 := ⟨fu - 1, by omega⟩
      have hi : i = 8 := by omega
      subst hi
      have e28 : M1 11 28 = Ma 11 28 := f1 11 28 (by omega)
      have e29 : M1 11 29 = M 11 29 := (f1 11 29 (by omega)).trans (fa 11 29 (by omega))
      have e30 : M1 11 30 = M 11 30 := (f1 11 30 (by omega)).trans (fa 11 30 (by omega))
      have ewd : wd M1 = wd Ma := wd_cg (f1 11 31 (by omega))
      have el : ldl M1 (S 0 1) = lN 5 := by rw [wd_l, ewd, awd, if_pos rfl]
      have ew : (lN 5 ||| (((nI (S 0 8)).toInt64 <<< (((31 : Int32) : Int32).toInt64 &&& 63)) ||| ((nI (S 0 7)).toInt64 <<< (((35 : Int32) : Int32).toInt64 &&& 63)))) = lN (5 + (S 0 8 + S 0 7 * 16) * 2147483648) := by
        have s7 := n9.2.1
        have s8 := n9.2.2.1
        rw [nI_l (by omega), nI_l (by omega), lg_shlp (a := S 0 8) (k := 31) (by decide) (by omega) rfl (by omega), lg_shlp (a := S 0 7) (k := 35) (by decide) (by omega) rfl (by omega), lg_orp (k := 35) rfl (by omega) (by omega), show S 0 8 * 2147483648 + S 0 7 * 34359738368 = (S 0 8 + S 0 7 * 16) * 2147483648 by omega, lg_orp (k := 31) rfl (by omega) (by omega)]
      obtain ⟨M2, eM2⟩ : ∃ M2, M2 = stl M1 (S 0 1) (lN (5 + (S 0 8 + S 0 7 * 16) * 2147483648)) := ⟨_, rfl⟩
      have f2 : FQ (fun r => r = 31) M1 M2 := by rw [eM2]; exact FQ.stl FQ.rf rfl
      have w2 : ∀ j, wd M2 j = if j = S 0 1 then 5 + (S 0 8 + S 0 7 * 16) * 2147483648 else wd M1 j := fun j => by
        rw [eM2, wd_stl _ _ _ (by omega)]
      obtain ⟨c1, c3, c15⟩ := ckq_v (S := S)
      have L2 : LO (fun g => (S 0 8).testBit g) M2 (ckq S) := by
        refine ⟨⟨?_, ?_, ?_, ?_, ?_⟩, ?_, ?_, fun j hj => ?_, fun _ p hp => ?_⟩
        · rw [f2 11 28 (by omega), e28, a28, if_neg (by omega), ckq_o (by omega)]; exact g0
        · rw [f2 11 28 (by omega), e28, a28, if_pos rfl, c1]
        · rw [f2 11 28 (by omega), e28, a28, if_neg (by omega), ckq_o (by omega)]; exact g2
        · rw [f2 11 28 (by omega), e28, a28, if_neg (by omega), ckq_o (by omega)]; exact g3
        · rw [f2 11 28 (by omega), e28, a28, if_neg (by omega), ckq_o (by omega)]; exact g4
        · rw [f2 11 29 (by omega), e29]; exact LQ_cg k2 (fun f g _ hf => ckq_o (by omega))
        · rw [f2 11 30 (by omega), e30]; exact LPg_cg k3 (fun f p _ hf => ckq_o (by omega))
        · rw [c1] at hj
          rw [w2, ckq_o (f := 0) (i := 0) (by omega)]
          by_cases q : j = S 0 1
          · subst q
            rw [if_pos rfl]
            obtain ⟨r1, r2, r3, r4, r5, r6⟩ := app_r (S := S) (a1 := 5) (a2 := 0) (a3 := 0) (a4 := S 0 8) (a5 := S 0 7) (a6 := 0) (n := S 0 0 + S 0 1)
            rw [if_pos rfl] at r1 r2 r3 r4 r5 r6
            unfold RF
            rw [ckq_r (by omega), ckq_r (by omega), ckq_r (by omega), ckq_r (by omega), ckq_r (by omega), ckq_r (by omega), r1, r2, r3, r4, r5, r6]
            have s8 := n9.2.2.1
            have s7 := n9.2.1
            exact ⟨by omega, by omega, fun z => absurd rfl z, fun z => by omega, fun z => by omega, fun _ => ⟨by omega, by omega⟩⟩
          · rw [if_neg q, ewd, awd, if_neg q]
            refine RF_cg (k4 j (by omega)) (fun f' a1 a2 => ?_)
            rw [ckq_r (by omega)]
            obtain ⟨r1, r2, r3, r4, r5, r6⟩ := app_r (S := S) (a1 := 5) (a2 := 0) (a3 := 0) (a4 := S 0 8) (a5 := S 0 7) (a6 := 0) (n := S 0 0 + j)
            have z : ¬ (S 0 0 + j = S 0 0 + S 0 1) := by omega
            rw [if_neg z] at r1 r2 r3 r4 r5 r6
            rcases (show f' = 9 ∨ f' = 10 ∨ f' = 11 ∨ f' = 12 ∨ f' = 13 ∨ f' = 14 by omega) with e | e | e | e | e | e <;> rw [e] <;> assumption
        · rw [f2 11 32 (by omega), h32 p hp, c15 p hp]
      have iv := iv_chk j3 hbb
      rw [ea] at iv
      have B2 : Bd (b + 500) (ckq S) := by
        intro f i
        by_cases q : f = 0 ∧ i = 2
        · rw [q.1, q.2, ckq_o (by omega)]
          have := j3.1.1 0 2
          omega
        · have := iv.1.1 f i
          have e : ckp S f i = ckq S f i := by rw [ckq_e, frc_o q]
          have this : ckp S f i ≤ b + 500 := this
          omega
      obtain ⟨M3, e3, L3, f3⟩ := l_force (n := S 0 0 + S 0 1) L2 B2 (by omega) (by omega)
      have hc := k_chk (M := M3) (WC_fr (WC_fr (WC_fr (WC_fr j2 fa.o) f1.o) f2.o) f3.o) j3
      rw [ea] at hc
      have s8 := n9.2.2.1
      rw [itr_s, f_L_acts_L878, if_pos (by decide), e28, a28, if_neg (by omega), g0, nL_sub (by omega), show S 0 0 + S 0 1 - S 0 0 = S 0 1 by omega, gd_in (by omega) (by omega), l_open (S := S) (by rw [e29]; exact k2) s8, bO_some, l_dirty (S := S) (by rw [e30]; exact k3) n9.2.1 j3.1.1 (by omega) j3.2.2.1, bO_some, gd_in (by omega) (by omega), nL_cl (by omega), el, ew, bd, ← eM2, e3, bP_some]
      refine fin hc ?_ (by rw [f3.o 9 (by omega), f2.o 9 (by omega), f1.o 9 (by omega), fa.o 9 (by omega)]; exact j5) rfl iv (PB_ext (kd := 5) (g := 0) (u := 0) j4 (EX_of (EX_app (S := S) (kd := 5) (g := 0) (pg := 0) (a := S 0 8) (v := S 0 7) (t := 0)) (fun f i a => ?_)) hN)
      · show LO (fun g => (ckp S 0 8).testBit g) _ (ckp S)
        rw [ckq_e, frc_o (by omega), ckq_o (by omega)]
        exact L3
      · show ckp S f i = _
        rw [ckq_e, frc_o (by omega)]
        rcases a with a | a
        · exact ckq_r a
        · rcases (show i = 0 ∨ i = 1 by omega) with e | e
          · rw [a.1, e, ckq_o (by omega), app_F]
          · rw [a.1, e, c1, app_N]
    | succ d ih =>
      intro i fu M1 hi hf f1 h32
      obtain ⟨f, rfl⟩ : ∃ f, fu = f + 1 := ⟨fu - 1, by omega⟩
      have e30 : M1 11 30 = M 11 30 := (f1 11 30 (by omega)).trans (fa 11 30 (by omega))
      have W : RS b t (f_L_acts_L915 (itr (f_L_acts_L878 ) (fun _ _ _ => none) f) M1 (nI (S 0 0 + S 0 1)) (nI i) (nI (if (S 0 7).testBit i then S 5 i else 0)) (nI i)) := by
        rw [f_L_acts_L915, gd_in (by omega) (by omega), nL_cl (by omega), bd, bd, nI_1]
        refine ih (i + 1) f _ (by omega) (by omega) (f1.tr (FQ.st FQ.rf rfl)) (fun p hp => ?_)
        rw [sgr_at]
        by_cases e : p = i
        · rw [if_pos e, e]
        · rw [if_neg e]; exact h32 p (by omega)
      rw [itr_s, f_L_acts_L878, if_neg (by rw [nl8, nL_le (by omega) (by omega)]; omega), l_dirty (S := S) (by rw [e30]; exact k3) n9.2.1 j3.1.1 (by omega) j3.2.2.1, bO_some, bit8 _ n9.2.1 i (by omega)]
      cases q7 : (S 0 7).testBit i
      · rw [if_neg (show ¬ b01 false = 1 by decide)]
        rw [q7] at W
        exact W
      · rw [if_pos (show b01 true = 1 from rfl), nl5, g6c i 5 (by omega) (by omega), c6 i 5 (by omega) (by omega), e30, (k3 i (by omega)).2.2.2.2 q7]
        rw [q7, if_pos rfl] at W
        exact W
  rw [eadd, bP_some]
  exact lp 8 0 FU Ma rfl (by decide) FQ.rf (fun p hp => by omega)
theorem A_out (hj : JJ b t M S) (hbb : b + 500 < 2 ^ 27) (q5 : S 0 5 = 0) (hp : p < 8) {w : Nat} (hw : w < 22) (y7 y12 : Int32) : RS b t (f_L_acts_L720 M y7 (nI w) (-1000002) y12 (nI p)) := by
  have hj0 := hj
  obtain ⟨j1, ⟨h, P, j2⟩, j3, j4, j5⟩ := hj
  have n9 := j3.1.2.2.2.2.2.2.2.2
  have hb3 := j3.1.2.2.1
  obtain ⟨⟨h0, h00⟩, h1, h2, h3, h4⟩ := j1.2.2.1 p hp
  obtain ⟨m1, m2⟩ := l_mark1 j1.2.2.1 j3.1.1 (by omega) hp (j3.2.2.1 p hp)
  rw [f_L_acts_L720, if_neg (by rw [show (22 : Int32) = nI 22 from rfl, nL_le (by omega) (by omega)]; omega), l_mark j1.2.2.1 hp, bO_some, show (6 : Int32) * nI p + (1 : Int32) = (6 : Int32) * nI p + nI 1 from rfl, g6c p 1 hp (by omega), c6 p 1 hp (by omega), m1]
  cases q7 : (S 0 7).testBit p
  · rw [if_pos (by rw [m2]; exact q7)]
    have ea : aOut S p = (-1000002, S) := by unfold aOut; rw [if_pos (Or.inr q7)]
    have hc := k_out (M := M) j2 j3 hp
    rw [ea] at hc
    obtain ⟨M', h', P', e1, e2, e3⟩ := hc
    have j1' := LO_fr j1 (e2 11 (by omega))
    have hj' : JJ b t M' S := ⟨j1', ⟨h', P', e3⟩, j3, j4, by rw [e2 9 (by omega)]; exact j5⟩
    rw [e1, bP_some, if_pos rfl, show (6 : Int32) * nI p + (2 : Int32) = (6 : Int32) * nI p + nI 2 from rfl, g6c p 2 hp (by omega), c6 p 2 hp (by omega), (j1'.2.2.1 p hp).2.2.1]
    cases q6 : (S 0 6).testBit p
    · rw [if_neg (show ¬ b01 false = 1 by decide)]
      refine fin0 hj' hbb (k_drop e3 j3 hp) ?_
      unfold aDrop
      rw [if_pos (Or.inr (Or.inl q6))]
    · rw [if_pos (show b01 true = 1 from rfl)]
      exact ⟨M', S, rfl, j1', ⟨h', P', e3⟩, Inv_le j3 (by omega) hbb, PB_le j4, by rw [e2 9 (by omega)]; exact j5⟩
  · rw [if_neg (by rw [m2, q7]; decide), bO_some]
    have q6 : (S 0 6).testBit p = true := ((j3.2.2.1 p hp).1.mp q7).1
    have em : mrk S p = S 4 p := by unfold mrk; rw [if_pos q6]
    have ea : aOut S p = (nI (mrk S p - S 0 2), toD (frc S (mrk S p)) p) := by
      unfold aOut
      rw [if_neg (by rw [q7]; simp [q5])]
    have ym := mrk_le j3.1.1 (p := p)
    obtain ⟨Ma, e1, La, fa⟩ := l_force (n := mrk S p) j1 j3.1.1 (by omega) (by omega)
    obtain ⟨⟨c0, c00⟩, c1, c2, c3, c4⟩ := La.2.2.1 p hp
    rw [frc_o (by omega)] at c2 c3
    obtain ⟨⟨c3a, c3b⟩, c3c⟩ := c3 q6
    rw [frc_o (by omega)] at c3a c3b c3c
    rw [e1, bP_some, show (6 : Int32) * nI p + (3 : Int32) = (6 : Int32) * nI p + nI 3 from rfl, g6c p 3 hp (by omega), c6 p 3 hp (by omega), g60 p hp, c60 p hp, c3a, bd, show (6 : Int32) * nI p + (4 : Int32) = (6 : Int32) * nI p + nI 4 from rfl, g6c p 4 hp (by omega), c6 p 4 hp (by omega), g6c p 1 hp (by omega), sgr_at, if_neg (by omega), c3c, bd]
    obtain ⟨Mb, eb⟩ : ∃ Mb, Mb = st (st Ma 11 30 (6 * p) (nI (S 3 p))) 11 30 (6 * p + 1) (nI (S 4 p)) := ⟨_, rfl⟩
    rw [← eb]
    have fb : FQ R30 Ma Mb := by rw [eb]; exact FQ.st (FQ.st FQ.rf rfl) rfl
    have lo : ∀ j, Mb 11 30 j = if j = 6 * p + 1 then nI (S 4 p) else if j = 6 * p then nI (S 3 p) else Ma 11 30 j := fun j => by rw [eb, sgr_at, sgr_at]
    have hc := k_out (M := Mb) (WC_fr (WC_fr j2 fa.o) fb.o) j3 hp
    rw [ea] at hc
    have so : ∀ f i, ¬ (f = 1 ∨ f = 2 ∨ (f = 0 ∧ i = 7)) → toD (frc S (mrk S p)) p f i = frc S (mrk S p) f i := fun f i a => toD_o (by omega)
    have iv := iv_out j3 hp hbb
    rw [ea] at iv
    refine fin hc ?_ (by rw [fb.o 9 (by omega), fa.o 9 (by omega)]; exact j5) rfl iv (PB_same j4 ?_ ?_ (fun f n hf => ?_))
    · show LO (fun g => (toD (frc S (mrk S p)) p 0 8).testBit g) _ (toD (frc S (mrk S p)) p)
      rw [so 0 8 (by omega), frc_o (by omega)]
      obtain ⟨k1, k2, k3, k4, k5⟩ := La
      refine ⟨?_, ?_, fun q hq => ?_, ?_, ?_⟩
      · rw [fb 11 28 (by omega)]; exact LG_cg k1 (so _ _ (by omega)) (so _ _ (by omega)) (so _ _ (by omega)) (so _ _ (by omega)) (so _ _ (by omega))
      · rw [fb 11 29 (by omega)]; exact LQ_cg k2 (fun f g _ hf => so _ _ (by omega))
      · obtain ⟨d0, d1, d2, d3, d4⟩ := k3 q hq
        have b7 := (tclr8 _ n9.2.1 p hp).2
        have e7 : toD (frc S (mrk S p)) p 0 7 = (S 0 7 &&& (255 - 2 ^ p)) := by
          rw [toD, up_at, frc_o (by omega)]
        have e1' : toD (frc S (mrk S p)) p 1 q = if q = p then S 3 p else S 1 q := by
          rw [toD, up_ne (by omega), up_ne (by omega)]
          by_cases e : q = p
          · rw [if_pos e, e, up_at, frc_o (by omega)]
          · rw [if_neg e, up_ne (by omega), frc_o (by omega)]
        have e2' : toD (frc S (mrk S p)) p 2 q = if q = p then S 4 p else S 2 q := by
          rw [toD, up_ne (by omega)]
          by_cases e : q = p
          · rw [if_pos e, e, up_at, frc_o (by omega)]
          · rw [if_neg e, up_ne (by omega), up_ne (by omega), frc_o (by omega)]
        rw [frc_o (by omega)] at d0 d1 d2 d3 d4
        have L2 : Mb 11 30 (6 * q + 2) = Ma 11 30 (6 * q + 2) := by rw [lo, if_neg (by omega), if_neg (by omega)]
        have L3 : Mb 11 30 (6 * q + 3) = Ma 11 30 (6 * q + 3) := by rw [lo, if_neg (by omega), if_neg (by omega)]
        have L4 : Mb 11 30 (6 * q + 4) = Ma 11 30 (6 * q + 4) := by rw [lo, if_neg (by omega), if_neg (by omega)]
        have L5 : Mb 11 30 (6 * q + 5) = Ma 11 30 (6 * q + 5) := by rw [lo, if_neg (by omega), if_neg (by omega)]
        rw [e7, b7 q hq, so 0 6 (by omega), so 3 q (by omega), so 4 q (by omega), so 5 q (by omega), frc_o (f := 0) (i := 6) (by omega), L2, L3, L4, L5]
        by_cases e : q = p
        · have L0 : Mb 11 30 (6 * q) = nI (S 3 p) := by rw [lo, if_neg (by omega), if_pos (by omega)]
          have L1 : Mb 11 30 (6 * q + 1) = nI (S 4 p) := by rw [lo, if_pos (by omega)]
          rw [e1', e2', if_pos e, if_pos e, L0, L1]
          exact ⟨⟨rfl, c3b⟩, rfl, d2, d3, fun z => by rw [decide_eq_true e, Bool.not_true, Bool.and_false] at z; exact nomatch z⟩
        · have L0 : Mb 11 30 (6 * q) = Ma 11 30 (6 * q) := by rw [lo, if_neg (by omega), if_neg (by omega)]
          have L1 : Mb 11 30 (6 * q + 1) = Ma 11 30 (6 * q + 1) := by rw [lo, if_neg (by omega), if_neg (by omega)]
          rw [e1', e2', if_neg e, if_neg e, L0, L1]
          exact ⟨d0, d1, d2, d3, fun z => d4 (by rw [Bool.and_eq_true] at z; exact z.1)⟩
      · rw [wd_cg (fb 11 31 (by omega))]; exact LR_cg k4 (so _ _ (by omega)) (so _ _ (by omega)) (fun f i a c => so _ _ (by omega))
      · rw [fb 11 32 (by omega)]; exact LN_cg k5 (so _ _ (by omega)) (fun p _ => so _ _ (by omega))
    · show toD (frc S (mrk S p)) p 0 0 = _
      rw [so _ _ (by omega), frc_o (by omega)]
    · show toD (frc S (mrk S p)) p 0 1 = _
      rw [so _ _ (by omega), frc_o (by omega)]
    · show toD (frc S (mrk S p)) p f n = _
      rw [so _ _ (by omega), frc_o (by omega)]
end A2
