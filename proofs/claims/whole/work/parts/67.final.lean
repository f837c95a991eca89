/-! each call, and the whole run -/
def WW (b : Nat) (M : Mem) : Prop := ∃ (S : St) (h : Nat) (P : Nat → St) (tl : Nat) (T : Nat → Nat), WC M S h P ∧ WD M S h P ∧ WI b S h P ∧ TC M tl T ∧ TM M tl T
def SP (b : Nat) (M : Mem) (f7 f8 : Mem → Option (Int32 × Mem)) : Prop := ∃ v M1 M2, f7 M = some (v, M1) ∧ f8 M1 = some (v, M2) ∧ WW b M2
section WF1
variable {M M1 : Mem} {S : St} {b h : Nat} {P : Nat → St} {tl : Nat} {T : Nat → Nat}
theorem WI_le {b' : Nat} (hv : WI b S h P) (hb : b ≤ b') (hb3 : b' < 2 ^ 27) : WI b' S h P := ⟨Inv_le hv.1 hb hb3, fun i hi => Inv_le (hv.2 i hi) hb hb3⟩
theorem WI_push {b' : Nat} {S' : St} (hv : WI b S h P) (h4 : h ≤ 4) (hb : b ≤ b') (hb3 : b' < 2 ^ 27) (hS : Inv b' S') : WI b' S' (ph h) (pP h P S) := by
  refine ⟨hS, fun i hi => ?_⟩
  unfold ph at hi
  unfold pP
  by_cases q : h < 4
  · rw [if_pos q] at hi
    rw [if_pos q]
    show Inv b' (if i = h then S else P i)
    by_cases e : i = h
    · rw [if_pos e]; exact Inv_le hv.1 hb hb3
    · rw [if_neg e]; exact Inv_le (hv.2 i (by omega)) hb hb3
  · rw [if_neg q] at hi
    rw [if_neg q]
    show Inv b' (if i = 3 then S else P (i + 1))
    by_cases e : i = 3
    · rw [if_pos e]; exact Inv_le hv.1 hb hb3
    · rw [if_neg e]; exact Inv_le (hv.2 (i + 1) (by omega)) hb hb3
theorem TM.w {M' : Mem} (h : TM M tl T) (e7 : M' 11 28 7 = M 11 28 7) (e33 : M' 11 33 = M 11 33) : TM M' tl T := by
  unfold TM
  rw [e7, e33]
  exact h
theorem w_change {F f7 f8 : Mem → Option (Int32 × Mem)} {g : St → Int32 × St} (e7 : ∀ M, f7 M = bO (f_X1_prepare 0 M) (fun M2 => bP (F M2) (fun v3 M4 => bP (f_X1_keepUnlessError M4 v3) (fun v5 M6 => some (v5, M6)))))
    (hc : ∀ (M : Mem) (S : St) (b : Nat), RC (M 0) S → Inv b S → CG 0 M (F M) (g S)) (hm : ∀ (M : Mem) (S : St) (b : Nat), RQ (M 11 29) S → Inv b S → b + 500 < 2 ^ 27 → OKw M (f8 M) S (g S)) (hi : ∀ (S : St) (b : Nat), Inv b S → b + 500 < 2 ^ 27 → Inv (b + 500) (g S).2) (hw : WW b M) (hb : b + 50000 < 2 ^ 27) : SP (b + 50000) M f7 f8 := by
  obtain ⟨S, h, P, tl, T, wc, wd, wi, tc, tm⟩ := hw
  have hr : (g S).1 < 0 → (g S).2 = S := fun z => by
    rcases hm M S b wd.1 wi.1 (by omega) with ⟨-, a2, -⟩ | ⟨a1, -⟩
    · exact a2
    · exact absurd z a1
  obtain ⟨M1, a1, a2, a3, a4⟩ := cl_change wc wi.1 (fun M2 h2 _ => hc M2 S b h2 wi.1) hr
  have g11 : M1 11 = M 11 := a2 11 (by omega)
  have wd1 : WD M1 S h P := WD_fr wd g11
  obtain ⟨M2, c1, c2, c3, c4, c5, c6⟩ := m_change wd1 wc.2.1 wi (hm M1 S b wd1.1 wi.1 (by omega))
  have fr : ∀ {S' : St} {h' : Nat} {P' : Nat → St}, WC M1 S' h' P' → WC M2 S' h' P' := fun w => WC_fr w (fun i _ _ _ _ e => c2 i e)
  have tc2 : TC M2 tl T := tc.g (by rw [c2 9 (by omega), a2 9 (by omega)])
  have tm2 : TM M2 tl T := tm.w (by rw [c3 7 (by omega), g11]) (by rw [c4, g11])
  refine ⟨(g S).1, M1, M2, (e7 M).trans a1, c1, ?_⟩
  by_cases q : (g S).1 < 0
  · exact ⟨S, h, P, tl, T, fr (a3 q), c5 q, WI_le wi (by omega) hb, tc2, tm2⟩
  · exact ⟨(g S).2, ph h, pP h P S, tl, T, fr (a4 q), c6 q, WI_push wi wc.2.1 (by omega) hb (Inv_le (hi S b wi.1 (by omega)) (by omega) hb), tc2, tm2⟩
theorem w_begin (a : Int32) (hw : WW b M) (hb : b + 50000 < 2 ^ 27) : SP (b + 50000) M (fun M => f_X7_begin M a) (fun M => f_X8_begin M a) := w_change (F := fun M => f_X6_beginGroup 0 M a) (g := fun S => gBegin S a) (fun M => by rw [f_X7_begin]) (fun M S b h1 h2 => gc_begin h1 h2 a) (fun M S b h1 h2 h3 => gm_begin h1 h2 h3 a) (fun S b h1 h2 => gi_begin h1 h2 a) hw hb
theorem w_settle (a : Int32) (hw : WW b M) (hb : b + 50000 < 2 ^ 27) : SP (b + 50000) M (fun M => f_X7_settle M a) (fun M => f_X8_settle M a) := w_change (F := fun M => f_X6_settleGroup 0 M a) (g := fun S => gSettle S a) (fun M => by rw [f_X7_settle]) (fun M S b h1 h2 => gc_settle h1 h2 a) (fun M S b h1 h2 h3 => gm_settle h1 h2 h3 a) (fun S b h1 h2 => gi_settle h1 h2 a) hw hb
theorem w_takeBack (a : Int32) (hw : WW b M) (hb : b + 50000 < 2 ^ 27) : SP (b + 50000) M (fun M => f_X7_takeBack M a) (fun M => f_X8_takeBack M a) := w_change (F := fun M => f_X6_takeGroupBack 0 M a) (g := fun S => gTake S a) (fun M => by rw [f_X7_takeBack]) (fun M S b h1 h2 => gc_take h1 h2 a) (fun M S b h1 h2 h3 => gm_take h1 h2 h3 a) (fun S b h1 h2 => gi_take h1 h2 a) hw hb
theorem w_writeOut (a : Int32) (hw : WW b M) (hb : b + 50000 < 2 ^ 27) : SP (b + 50000) M (fun M => f_X7_writeOut M a) (fun M => f_X8_writeOut M a) := w_change (F := fun M => f_X6_writePageOut 0 M a) (g := fun S => gOut S a) (fun M => by rw [f_X7_writeOut]) (fun M S b h1 h2 => gc_out h1 h2 a) (fun M S b h1 h2 h3 => gm_out h1 h2 h3 a) (fun S b h1 h2 => gi_out h1 h2 a) hw hb
theorem w_dropOut (a : Int32) (hw : WW b M) (hb : b + 50000 < 2 ^ 27) : SP (b + 50000) M (fun M => f_X7_dropOut M a) (fun M => f_X8_dropOut M a) := w_change (F := fun M => f_X6_dropPageOut 0 M a) (g := fun S => gDrop S a) (fun M => by rw [f_X7_dropOut]) (fun M S b h1 h2 => gc_drop h1 h2 a) (fun M S b h1 h2 h3 => gm_drop h1 h2 h3 a) (fun S b h1 h2 => gi_drop h1 h2 a) hw hb
theorem w_stop (a : Int32) (hw : WW b M) (hb : b + 50000 < 2 ^ 27) : SP (b + 50000) M (fun M => f_X7_stop M a) (fun M => f_X8_stop M a) := w_change (F := fun M => f_X6_stopStore 0 M a) (g := fun S => gStop S a) (fun M => by rw [f_X7_stop]) (fun M S b h1 h2 => gc_stop h1 h2 a) (fun M S b h1 h2 h3 => gm_stop h1 h2 h3 a) (fun S b h1 h2 => gi_stop h1 h2 a) hw hb
theorem w_write (a c d : Int32) (hw : WW b M) (hb : b + 50000 < 2 ^ 27) : SP (b + 50000) M (fun M => f_X7_write M a c d) (fun M => f_X8_write M a c d) := w_change (F := fun M => f_X6_writePage 0 M a c d) (g := fun S => gWrite S a c d) (fun M => by rw [f_X7_write]) (fun M S b h1 h2 => gc_write h1 h2 a c d) (fun M S b h1 h2 _ => gm_write h1 h2 a c d) (fun S b h1 h2 => gi_write h1 h2 a c d) hw hb
theorem w_checkpoint (hw : WW b M) (hb : b + 50000 < 2 ^ 27) : SP (b + 50000) M f_X7_checkpoint f_X8_checkpoint := w_change (F := fun M => f_X6_makeCheckpoint 0 M) (g := aChk) (fun M => by rw [f_X7_checkpoint]) (fun M S b h1 h2 => (co_chk h1 h2.1).g) (fun M S b h1 h2 _ => (m_chk h1 h2).w) (fun S b h1 h2 => iv_chk h1 h2) hw hb
theorem w_dropRecords (hw : WW b M) (hb : b + 50000 < 2 ^ 27) : SP (b + 50000) M f_X7_dropRecords f_X8_dropRecords := w_change (F := fun M => f_X6_dropOldRecords 0 M) (g := aDro) (fun M => by rw [f_X7_dropRecords]) (fun M S b h1 h2 => gc_dro h1 h2) (fun M S b h1 h2 _ => (m_dro h1 h2).w) (fun S b h1 h2 => iv_dro h1 h2) hw hb
theorem w_force (hw : WW b M) (hb : b + 50000 < 2 ^ 27) : SP (b + 50000) M f_X7_force f_X8_force := w_change (F := fun M => f_X6_forceAll 0 M) (g := aForce) (fun M => by rw [f_X7_force]) (fun M S b h1 h2 => (co_force h1 h2.1).g) (fun M S b h1 h2 _ => (m_force h1 h2).w) (fun S b h1 h2 => iv_force h1 h2) hw hb
theorem w_restart (hw : WW b M) (hb : b + 50000 < 2 ^ 27) : SP (b + 50000) M f_X7_restart f_X8_restart := w_change (F := fun M => f_X5_run 0 M) (g := aRest) (fun M => by rw [f_X7_restart]) (fun M S b h1 h2 => gc_rest (by omega) h1 h2) (fun M S b h1 h2 h3 => m_rest h1 h2 h3) (fun S b h1 h2 => iv_rest h1 h2) hw hb
theorem w_would (a c : Int32) (hw : WW b M) (hb : b + 50000 < 2 ^ 27) : SP (b + 50000) M (fun M => f_X7_would M a c) (fun M => f_X8_would M a c) := by
  obtain ⟨S, h, P, tl, T, wc, wd, wi, tc, tm⟩ := hw
  obtain ⟨v, M1, M2, a1, a2, a3, a4, a5, a6, a7⟩ := q_would wc wd wi.1 (by omega) a c
  exact ⟨v, M1, M2, a1, a2, S, h, P, tl, T, a3, a4, WI_le wi (by omega) hb, tc.g a5, tm.w a6 a7⟩
theorem w_undo (hw : WW b M) (hb : b + 50000 < 2 ^ 27) : SP (b + 50000) M f_X7_undo f_X8_undo := by
  obtain ⟨S, h, P, tl, T, wc, wd, wi, tc, tm⟩ := hw
  by_cases q : h = 0
  · refine ⟨-1000002, M, M, cl_undo0 wc q, ?_, S, h, P, tl, T, wc, wd, WI_le wi (by omega) hb, tc, tm⟩
    rw [f_X8_undo, wd.2.1, q, if_pos (by decide)]
  · obtain ⟨M1, a1, a2, a3⟩ := cl_undo wc wi q
    have g11 : M1 11 = M 11 := a2 11 (by omega)
    obtain ⟨M2, c1, c2, c3, c4, c5⟩ := m_undo (WD_fr wd g11) wc.2.1 wi q
    refine ⟨nI (h - 1), M1, M2, a1, c1, P (h - 1), h - 1, P, tl, T, WC_fr a3 (fun i _ _ _ _ e => c2 i e), c5, ⟨Inv_le (wi.2 (h - 1) (by omega)) (by omega) hb, fun i hi => Inv_le (wi.2 i (by omega)) (by omega) hb⟩, tc.g (by rw [c2 9 (by omega), a2 9 (by omega)]), tm.w (by rw [c3 7 (by omega), g11]) (by rw [c4, g11])⟩
theorem nar_ch {q : Nat} (hq : q < 65536) : vp_nar .char (nI q) = nI q := by
  unfold vp_nar
  rw [(pk_charN hq).1]
theorem w_type (a : Int32) (hw : WW b M) (hb : b + 50000 < 2 ^ 27) : SP (b + 50000) M (fun M => f_X7_type M a) (fun M => f_X8_type M a) := by
  obtain ⟨S, h, P, tl, T, wc, wd, wi, tc, tm⟩ := hw
  have bad : ∀ v, f_X7_type M a = some (v, M) → f_X8_type M a = some (v, M) → SP (b + 50000) M (fun M => f_X7_type M a) (fun M => f_X8_type M a) := fun v e1 e2 => ⟨v, M, M, e1, e2, S, h, P, tl, T, wc, wd, WI_le wi (by omega) hb, tc, tm⟩
  have h80 := tc.1
  by_cases lo : a < 32
  · exact bad (-1000001) (by rw [f_X7_type, if_pos lo]) (by rw [f_X8_type, m_no M (Or.inl lo), bO_some, if_pos rfl])
  by_cases up : a ≤ 126
  · obtain ⟨j, hj, rfl⟩ := nI_of (x := a) (fun z => lo (by
      rw [Int32.lt_iff_toInt_lt] at z ⊢
      rw [show (0 : Int32).toInt = 0 from rfl] at z
      rw [show (32 : Int32).toInt = 32 from rfl]
      omega))
    have j1 : 32 ≤ j := by
      rw [show (32 : Int32) = nI 32 from rfl, nL_lt hj (by omega)] at lo
      omega
    have j2 : j ≤ 126 := by
      rw [show (126 : Int32) = nI 126 from rfl, nL_le hj (by omega)] at up
      exact up
    have ch : ((nI j).toUInt32 % 65536).toInt32 = nI j := by rw [pk_char, pk_tn (by omega), Nat.mod_eq_of_lt (by omega)]
    have yes : f_X8_in M (nI j) 32 126 = some 1 := by
      have := m_in M (v := j) (a := 32) (c := 126) (by omega) (by decide) (by decide)
      rw [decide_eq_true ⟨j1, j2⟩] at this
      exact this
    by_cases full : tl = 80
    · refine bad (-1000003) ?_ ?_
      · rw [f_X7_type, if_neg lo, if_pos up, ch, f_X3_append, tc.2.1, if_neg (by rw [nL_neg (by omega)]; exact id), if_neg (by rw [nl80, nL_lt (by omega) (by omega)]; omega), bP_some]
      · rw [f_X8_type, yes, bO_some, if_neg (by decide), tm.2.1, full, if_pos (by decide)]
    · obtain ⟨M1, eM1⟩ : ∃ M1, M1 = st (st M 9 26 tl (nI j)) 9 25 1 (nI (tl + 1)) := ⟨_, rfl⟩
      obtain ⟨M2, eM2⟩ : ∃ M2, M2 = st (st M1 11 33 tl (nI j)) 11 28 7 (nI (tl + 1)) := ⟨_, rfl⟩
      have g11 : M1 11 = M 11 := by rw [eM1, st_fr (by omega), st_fr (by omega)]
      have g9 : M2 9 = M1 9 := by rw [eM2, st_fr (by omega), st_fr (by omega)]
      have z1 : st M 9 26 tl (nI j) 9 25 1 = nI tl := by rw [st_get, if_neg (by omega)]; exact tc.2.1
      have e1 : f_X7_type M (nI j) = some (nI (tl + 1), M1) := by
        rw [f_X7_type, if_neg lo, if_pos up, ch, f_X3_append, tc.2.1, if_neg (by rw [nL_neg (by omega)]; exact id), if_pos (by rw [nl80, nL_lt (by omega) (by omega)]; omega), gd_in (by omega) (by omega), nL_cl (by omega), nar_ch (by omega), bd, z1, nI_1, bd, ← eM1, bP_some]
        rw [show M1 9 25 1 = nI (tl + 1) by rw [eM1, t9, if_pos rfl]]
      have z2 : st M1 11 33 tl (nI j) 11 28 7 = nI tl := by rw [st_get, if_neg (by omega), g11]; exact tm.2.1
      have e2 : f_X8_type M1 (nI j) = some (nI (tl + 1), M2) := by
        rw [f_X8_type, show f_X8_in M1 (nI j) 32 126 = some 1 from yes, bO_some, if_neg (by decide), g11, tm.2.1, if_neg (by rw [nl80, nL_eq (by omega) (by omega)]; exact full), gd_in (by omega) (by omega), nL_cl (by omega), bd, z2, nI_1, bd, ← eM2]
        rw [show M2 11 28 7 = nI (tl + 1) by rw [eM2, t28, if_pos rfl]]
      have r28 : ∀ i, i ≠ 7 → M2 11 28 i = M 11 28 i := fun i hi => by rw [eM2, t28, if_neg hi, st_get, if_neg (by omega), g11]
      have r30 : M2 11 30 = M 11 30 := by
        funext i
        rw [eM2, st_get, if_neg (by omega), st_get, if_neg (by omega), g11]
      have r29 : M2 11 29 = M 11 29 := by rw [eM2, st29 (by omega), st29 (by omega), g11]
      refine ⟨nI (tl + 1), M1, M2, e1, e2, S, h, P, tl + 1, (fun i => if i = tl then j else T i), WC_fr wc (fun i _ _ a3 _ a5 => by rw [eM2, st_fr a5, st_fr a5, eM1, st_fr a3, st_fr a3]), ⟨by rw [r29]; exact wd.1, by rw [r28 4 (by omega)]; exact wd.2.1, by rw [r28 5 (by omega)]; exact wd.2.2.1, fun i hi => by rw [r30]; exact wd.2.2.2 i hi⟩, WI_le wi (by omega) hb, ⟨by omega, by rw [g9, eM1, t9, if_pos rfl], fun i hi => ?_⟩, ⟨by omega, by rw [eM2, t28, if_pos rfl], fun i hi => ?_⟩⟩
      · rw [g9, eM1, st_get, if_neg (by omega), st_get]
        show (if i = tl then j else T i) < 128 ∧ _ = nI (if i = tl then j else T i)
        by_cases e : i = tl
        · rw [if_pos e, if_pos ⟨rfl, rfl, e⟩]; exact ⟨by omega, rfl⟩
        · rw [if_neg e, if_neg (fun y => e y.2.2)]; exact tc.2.2 i (by omega)
      · rw [eM2, st_get, if_neg (by omega), st_get]
        show (if i = tl then j else T i) < 128 ∧ _ = nI (if i = tl then j else T i)
        by_cases e : i = tl
        · rw [if_pos e, if_pos ⟨rfl, rfl, e⟩]; exact ⟨by omega, rfl⟩
        · rw [if_neg e, if_neg (fun y => e y.2.2), g11]; exact tm.2.2 i (by omega)
  · refine bad (-1000001) (by rw [f_X7_type, if_neg lo, if_neg up]) ?_
    have : (126 : Int32) < a := by
      rw [Int32.le_iff_toInt_le] at up
      rw [Int32.lt_iff_toInt_lt]
      omega
    rw [f_X8_type, m_no M (Or.inr this), bO_some, if_pos rfl]
theorem w_clearText (hw : WW b M) (hb : b + 50000 < 2 ^ 27) : SP (b + 50000) M f_X7_clearText f_X8_clearText := by
  obtain ⟨S, h, P, tl, T, wc, wd, wi, tc, tm⟩ := hw
  have g11 : st M 9 25 1 (0 : Int32) 11 = M 11 := st_fr (by omega)
  have e1 : f_X7_clearText M = some (nI tl, st M 9 25 1 0) := by rw [f_X7_clearText, f_X3_empty, tc.2.1, bd, bd, bP_some]
  have e2 : f_X8_clearText (st M 9 25 1 0) = some (nI tl, st (st M 9 25 1 0) 11 28 7 0) := by rw [f_X8_clearText, g11, tm.2.1, bd, bd]
  have r28 : ∀ i, i ≠ 7 → st (st M 9 25 1 (0 : Int32)) 11 28 7 0 11 28 i = M 11 28 i := fun i hi => by rw [t28, if_neg hi, g11]
  have r30 : st (st M 9 25 1 (0 : Int32)) 11 28 7 0 11 30 = M 11 30 := by
    funext i
    rw [st_get, if_neg (by omega), g11]
  refine ⟨nI tl, _, _, e1, e2, S, h, P, 0, T, WC_fr wc (fun i _ _ a3 _ a5 => by rw [st_fr a5, st_fr a3]), ⟨by rw [st29 (by omega), g11]; exact wd.1, by rw [r28 4 (by omega)]; exact wd.2.1, by rw [r28 5 (by omega)]; exact wd.2.2.1, fun i hi => by rw [r30]; exact wd.2.2.2 i hi⟩, WI_le wi (by omega) hb, ⟨by omega, by rw [st_fr (by omega), t9, if_pos rfl]; rfl, fun i hi => by omega⟩, ⟨by omega, by rw [t28, if_pos rfl]; rfl, fun i hi => by omega⟩⟩
/-- trying the text in the model, and back -/
theorem m_tried {o : OUT} (wd : WD M S h P) (hv : Inv b S) (hb : b + 50000 < 2 ^ 27) (tm : TM M tl T) (hR : RNt (sgn T tl) tl 81 0 S 0 o) : ∃ M4 M6 M8, f_X8_copies 29 31 M = some M4 ∧ f_X8_plays M4 = some (if o.2.1 = 0 then -1000004 else nI o.2.2.1, M6) ∧ f_X8_copies 31 29 M6 = some M8 ∧ (∀ g, g ≠ 11 → M8 g = M g) ∧ M8 11 28 7 = M 11 28 7 ∧ M8 11 33 = M 11 33 ∧ WD M8 S h P ∧ M8 11 28 12 = nI o.2.1 ∧ (o.2.1 = 1 → M8 11 28 13 = nI o.2.2.2.1) := by
  obtain ⟨w1, w2, w3, w4⟩ := wd
  obtain ⟨M4, e4, f4, c4⟩ := m_copies M 29 31 (by omega)
  have hN := (Inv_n hv).1
  obtain ⟨M6, e6, f6, k12, k5, k13, k14⟩ := m_plays (M := M4) (RQ_cg w1 hN (fun i _ => f4 11 29 i (by omega))) hv hb (tm.w (f4 11 28 7 (by omega)) (by funext i; exact f4 11 33 i (by omega))) hR
  obtain ⟨M8, e8, f8, c8⟩ := m_copies M6 31 29 (by omega)
  have fr : ∀ g r i, ¬ (g = 11 ∧ (r = 29 ∨ r = 31 ∨ r = 34 ∨ r = 35 ∨ (r = 28 ∧ (i = 5 ∨ (9 ≤ i ∧ i ≤ 14))))) → M8 g r i = M g r i := fun g r i q => by
    rw [f8 g r i (by omega), f6 g r i (by omega), f4 g r i (by omega)]
  refine ⟨M4, M6, M8, e4, e6, e8, fun g hg => ?_, fr 11 28 7 (by omega), ?_, ⟨?_, ?_, ?_, fun i hi => ?_⟩, by rw [f8 11 28 12 (by omega)]; exact k12, fun z => by rw [f8 11 28 13 (by omega)]; exact k13 z⟩
  · funext r i
    exact fr g r i (by omega)
  · funext i
    exact fr 11 33 i (by omega)
  · exact RQ_cg w1 hN (fun i hi => by rw [c8 i hi, f6 11 31 i (by omega), c4 i hi])
  · rw [fr 11 28 4 (by omega)]; exact w2
  · rw [f8 11 28 5 (by omega)]; exact k5
  · have e : (fun k => M8 11 30 (2117 * i + k)) = (fun k => M 11 30 (2117 * i + k)) := by
      funext k
      exact fr 11 30 _ (by omega)
    rw [e]
    exact w4 i hi
theorem w_fault (a : Int32) (hw : WW b M) (hb : b + 50000 < 2 ^ 27) : SP (b + 50000) M (fun M => f_X7_fault M a) (fun M => f_X8_fault M a) := by
  obtain ⟨S, h, P, tl, T, wc, wd, wi, tc, tm⟩ := hw
  have bad : f_X7_fault M a = some (-1000001, M) → f_X8_fault M a = some (-1000001, M) → SP (b + 50000) M (fun M => f_X7_fault M a) (fun M => f_X8_fault M a) := fun e1 e2 => ⟨_, M, M, e1, e2, S, h, P, tl, T, wc, wd, WI_le wi (by omega) hb, tc, tm⟩
  have h80 := tc.1
  rcases pk_ix a (n := 3) (by omega) with ha | ha | ⟨w, hw', rfl⟩
  · exact bad (by rw [f_X7_fault, if_pos ha]) (by rw [f_X8_fault, m_no M (Or.inl ha), bO_some, if_pos rfl])
  · refine bad ?_ (by rw [f_X8_fault, show f_X8_in M a 0 2 = some 0 from m_no M (Or.inr (ge_nle ha (m := 2) (by omega) (by omega)).2), bO_some, if_pos rfl])
    rw [f_X7_fault]
    by_cases z : a < 0
    · rw [if_pos z]
    · rw [if_neg z, if_neg (show ¬ a ≤ (2 : Int32) from (ge_nle ha (m := 2) (by omega) (by omega)).1)]
  obtain ⟨o, hR⟩ := RNt_ex (T := T) (tl := tl) 81 0 S 0 (by omega) (by omega)
  obtain ⟨o1, o2, o3⟩ := RNt_lt 81 0 S 0 hR (by omega)
  obtain ⟨M1, a1, a2, a3, a4, a5, a6, a7⟩ := c_try wc.1 wi.1 hb tc hR
  have g11 : M1 11 = M 11 := a2 11 (by omega) (by omega) (by omega) (by omega)
  obtain ⟨M4, M6, M8, e4, e6, e8, d1, d2, d3, d4, d5, d6⟩ := m_tried (M := M1) (WD_fr wd g11) wi.1 hb (tm.w (by rw [g11]) (by rw [g11])) hR
  have fin : ∀ v, f_X7_fault M (nI w) = some (v, M1) → f_X8_fault M1 (nI w) = some (v, M8) → SP (b + 50000) M (fun M => f_X7_fault M (nI w)) (fun M => f_X8_fault M (nI w)) := fun v z1 z2 => ⟨v, M1, M8, z1, z2, S, h, P, tl, T, WC_fr wc (fun i b1 b2 b3 b4 b5 => by rw [d1 i b5, a2 i b1 b2 b3 b4]), d4, WI_le wi (by omega) hb, a3.g (d1 9 (by omega)), tm.w (by rw [d2, g11]) (by rw [d3, g11])⟩
  have c7 : f_X7_fault M (nI w) = (if (M1 10 27 6) = 0 then some ((-1000004 : Int32), M1) else (if nI w = (2 : Int32) then (if (M1 10 27 6) = (1 : Int32) then f_X7_fault_L39 M1 (nI w) else some ((-1000004 : Int32), M1)) else f_X7_fault_L39 M1 (nI w))) := by
    rw [f_X7_fault, if_neg (by rw [nL_neg (by omega)]; exact id), if_pos (by rw [nl2, nL_le (by omega) (by omega)]; omega), a1, bO_some]
  have c8 : ∀ v5, v5 = (if o.2.1 = 0 then (-1000004 : Int32) else nI o.2.2.1) → f_X8_fault M1 (nI w) = (if v5 = (-1000004 : Int32) then some (v5, M8) else (if nI w = 0 then some (v5, M8) else (if nI w = (1 : Int32) then some ((M8 11 28 12), M8) else (if (M8 11 28 12) = (1 : Int32) then some ((M8 11 28 13), M8) else some ((-1000004 : Int32), M8))))) := fun v5 hv5 => by
    subst hv5
    rw [f_X8_fault, m_yes2 M1 (by omega), bO_some, if_neg (by decide), e4, bO_some, e6, bP_some, e8, bO_some]
  by_cases r0 : o.2.1 = 0
  · refine fin (-1000004) ?_ ?_
    · rw [c7, a4, r0, if_pos (by decide)]
    · rw [c8 (-1000004) (by rw [if_pos r0]), if_pos rfl]
  · have nz : ¬ nI o.2.1 = 0 := by rw [nl0, nL_eq (by omega) (by omega)]; exact r0
    have nf : ¬ nI o.2.2.1 = (-1000004 : Int32) := by rw [nL_NF (by omega)]; exact id
    have d8 := c8 (nI o.2.2.1) (by rw [if_neg r0])
    rw [if_neg nf] at d8
    rw [a4, if_neg nz] at c7
    rcases (show w = 0 ∨ w = 1 ∨ w = 2 by omega) with rfl | rfl | rfl
    · refine fin (nI o.2.2.1) ?_ ?_
      · rw [c7, if_neg (by decide), f_X7_fault_L39, if_pos (by decide), a5 r0]
      · rw [d8, if_pos (by decide)]
    · refine fin (nI o.2.1) ?_ ?_
      · rw [c7, if_neg (by decide), f_X7_fault_L39, if_neg (by decide), if_pos (by decide), a4]
      · rw [d8, if_neg (by decide), if_pos (by decide), d5]
    · by_cases r1 : o.2.1 = 1
      · refine fin (nI o.2.2.2.1) ?_ ?_
        · rw [c7, if_pos (by decide), r1, if_pos (by decide), f_X7_fault_L39, if_neg (by decide), if_neg (by decide), a6 r1]
        · rw [d8, if_neg (by decide), if_neg (by decide), d5, r1, if_pos (by decide), d6 r1]
      · have n1 : ¬ nI o.2.1 = (1 : Int32) := by rw [nl1, nL_eq (by omega) (by omega)]; exact r1
        refine fin (-1000004) ?_ ?_
        · rw [c7, if_pos (by decide), if_neg n1]
        · rw [d8, if_neg (by decide), if_neg (by decide), d5, if_neg n1]
theorem bO_bP {x : Option Mem} {v : Mem → Int32} {K : Int32 → Mem → Option (Int32 × Mem)} : bO x (fun M7 => K (v M7) M7) = bP (bO x (fun M7 => some (v M7, M7))) K := by
  cases x <;> rfl
theorem w_play (hw : WW b M) (hb : b + 50000 < 2 ^ 27) : SP (b + 50000) M f_X7_play f_X8_play := by
  obtain ⟨S, h, P, tl, T, wc, wd, wi, tc, tm⟩ := hw
  have h80 := tc.1
  obtain ⟨o, hR⟩ := RNt_ex (T := T) (tl := tl) 81 0 S 0 (by omega) (by omega)
  obtain ⟨o1, o2, o3⟩ := RNt_lt 81 0 S 0 hR (by omega)
  obtain ⟨iv, ok⟩ := RNt_iv 81 0 S 0 b hR wi.1 (by omega)
  obtain ⟨M1, a1, a2, a3, a4, a5, a6, a7⟩ := c_try wc.1 wi.1 hb tc hR
  have g11 : M1 11 = M 11 := a2 11 (by omega) (by omega) (by omega) (by omega)
  have wc1 : WC M1 S h P := WC_fr wc (fun i b1 b2 b3 b4 _ => a2 i b1 b2 b3 b4)
  by_cases r0 : o.2.1 = 0
  · obtain ⟨c1, ck⟩ := a7 r0
    have nn : ¬ nI o.2.2.2.2 < 0 := by rw [nL_neg (by omega)]; exact id
    obtain ⟨hN, h5⟩ := Inv_n iv
    obtain ⟨M2, b1, b2, b3, b4⟩ := cl_change (F := fun M5 => bO (f_X6_copyFrom 0 1 M5) (fun M7 => some (M7 10 27 7, M7))) (r := (nI o.2.2.2.2, o.1)) wc1 wi.1 (fun M5 h2 hfr => by
      obtain ⟨M7, e7, r7, f7⟩ := cl_copy (j := 1) (k := 0) (M := M5) (S := o.1) (by omega) (by rw [hfr 1 (by omega)]; exact c1) hN h5
      exact ⟨M7, by rw [e7, bO_some, f7 10 (by omega), hfr 10 (by omega), ck], r7, fun i hi _ => f7 i hi⟩) (fun z => absurd z nn)
    have e7 : f_X7_play M = some (nI o.2.2.2.2, M2) := by
      rw [f_X7_play, a1, bO_some, a4, r0, if_pos (by decide)]
      refine Eq.trans ?_ b1
      congr 1
      funext M5
      exact bO_bP (x := f_X6_copyFrom 0 1 M5) (v := fun M7 => M7 10 27 7) (K := fun v3 M4 => bP (f_X1_keepUnlessError M4 v3) (fun v5 M6 => some (v5, M6)))
    have g11' : M2 11 = M 11 := by rw [b2 11 (by omega)]; exact g11
    obtain ⟨M4, M6, M8, e4, e6, e8, d1, d2, d3, d4, d5, d6⟩ := m_tried (M := M2) (WD_fr wd g11') wi.1 hb (tm.w (by rw [g11']) (by rw [g11'])) hR
    rw [if_pos r0] at e6
    obtain ⟨M9, k1, k2, k3, k4, k5⟩ := m_changes d4 wc.2.1 wi
    have tm8 : TM M8 tl T := tm.w (by rw [d2, g11']) (by rw [d3, g11'])
    obtain ⟨M11, l1, l2, l3, l4, l5, l6⟩ := m_plays (M := M9) (by rw [k2]; exact d4.1) wi.1 hb (tm8.w (k3 11 28 7 (by omega)) (by funext i; exact k3 11 33 i (by omega))) hR
    rw [if_pos r0] at l1
    obtain ⟨l7, l8⟩ := l6 r0
    have e8' : f_X8_play M2 = some (nI o.2.2.2.2, M11) := by
      rw [f_X8_play, e4, bO_some, e6, bP_some, e8, bO_some, if_pos rfl, k1, bO_some, l1, bP_some, if_pos rfl, l8]
    have fr : ∀ g, g ≠ 11 → M11 g = M2 g := fun g hg => by
      rw [← d1 g hg]
      funext r i
      rw [l2 g r i (by omega), k3 g r i (by omega)]
    refine ⟨_, M2, M11, e7, e8', o.1, ph h, pP h P S, tl, T, WC_fr (b4 nn) (fun i _ _ _ _ e => fr i e), ⟨l7, by rw [l2 11 28 4 (by omega)]; exact k4, l4, fun i hi => ?_⟩, WI_push wi wc.2.1 (by omega) hb (Inv_le iv (by omega) hb), a3.g (by rw [fr 9 (by omega), b2 9 (by omega)]), tm8.w (by rw [l2 11 28 7 (by omega), k3 11 28 7 (by omega)]) (by funext i; rw [l2 11 33 i (by omega), k3 11 33 i (by omega)])⟩
    have e : (fun k => M11 11 30 (2117 * i + k)) = (fun k => M9 11 30 (2117 * i + k)) := by
      funext k
      exact l2 11 30 _ (by omega)
    rw [e]
    exact k5 i hi
  · have nz : ¬ nI o.2.1 = 0 := by rw [nl0, nL_eq (by omega) (by omega)]; exact r0
    have nf : ¬ nI o.2.2.1 = (-1000004 : Int32) := by rw [nL_NF (by omega)]; exact id
    obtain ⟨M4, M6, M8, e4, e6, e8, d1, d2, d3, d4, d5, d6⟩ := m_tried (M := M1) (WD_fr wd g11) wi.1 hb (tm.w (by rw [g11]) (by rw [g11])) hR
    rw [if_neg r0] at e6
    refine ⟨-1000002, M1, M8, ?_, ?_, S, h, P, tl, T, WC_fr wc1 (fun i _ _ _ _ e => d1 i e), d4, WI_le wi (by omega) hb, a3.g (d1 9 (by omega)), tm.w (by rw [d2, g11]) (by rw [d3, g11])⟩
    · rw [f_X7_play, a1, bO_some, a4, if_neg nz]
    · rw [f_X8_play, e4, bO_some, e6, bP_some, e8, bO_some, if_neg nf]
/-! the start -/
def S00 : St := fun f i => if f = 0 ∧ i = 0 then 1 else 0
theorem WW_start : WW 300 M00 := by
  have z29 : ∀ i, i ≠ 0 → M00 11 29 i = 0 := fun i hi => by simp [M00, Z0, upd, hi]
  have zS : ∀ f i, ¬ (f = 0 ∧ i = 0) → S00 f i = 0 := fun f i q => if_neg q
  have r0 : S00 0 0 = 1 := rfl
  have n0 : S00 0 1 = 0 := rfl
  have hj : JI S00 := ⟨⟨fun n a c => by rw [r0, n0] at c; rw [r0] at a; omega, by rw [r0]; omega, by rw [r0]; omega, by rw [r0, n0]; exact (by decide : (0 : Nat) < 1 + 0)⟩, fun _ => ⟨r0, fun n a c => by rw [r0, n0] at c; rw [r0] at a; omega⟩, fun z => absurd rfl z, fun n a c => by rw [r0, n0] at c; rw [r0] at a; omega, fun n a c => by rw [r0, n0] at c; rw [r0] at a; omega, Nat.le_trans (phi_le _ _ _) (by rw [n0]; omega), fun p _ => Nat.le_refl _⟩
  have hB : Bd 300 S00 := fun f i => by
    unfold S00
    split <;> omega
  have hs : Sm S00 := ⟨by decide, by decide, by decide, fun g hg => by rw [zS 8 g (by omega)]; decide, by decide⟩
  have tb : ∀ i, Nat.testBit 0 i = false := fun i => Nat.zero_testBit i
  have inv : Inv 300 S00 := by
    refine ⟨Nm_of hj hB (by omega) (by rw [r0, n0]; omega) (by omega) hs, hj, fun p hp => ?_, fun _ => ⟨fun g hg => ⟨fun z => absurd z (by rw [zS 0 8 (by omega), tb]; decide), fun z => ?_⟩, fun a c p _ _ _ _ oa _ => absurd oa (by rw [zS 0 8 (by omega), tb]; decide)⟩, fun z => absurd rfl z⟩
    · rw [zS 0 7 (by omega), zS 0 6 (by omega), tb]
      exact ⟨⟨fun z => (nomatch z), fun z => (nomatch z.1)⟩, fun z => (nomatch z), fun z => (nomatch z)⟩
    · obtain ⟨n, y, -⟩ := z
      have y1 := y.1
      have y2 := y.2.1
      rw [r0] at y1
      rw [r0, n0] at y2
      omega
  have rc : RC (M00 0) S00 := ⟨⟨rfl, rfl, rfl, rfl, rfl, ⟨rfl, rfl⟩, rfl, rfl, rfl⟩, fun p hp => by rw [zS 1 p (by omega), zS 2 p (by omega), zS 3 p (by omega), zS 4 p (by omega), zS 5 p (by omega), zS 15 p (by omega)]; exact ⟨rfl, rfl, rfl, rfl, rfl, rfl⟩, fun g hg => by rw [zS 6 g (by omega), zS 7 g (by omega), zS 8 g (by omega)]; exact ⟨rfl, rfl, rfl⟩, fun j hj => by rw [n0] at hj; omega⟩
  have rq : RQ (M00 11 29) S00 := by
    refine ⟨⟨rfl, z29 1 (by omega), z29 2 (by omega), z29 3 (by omega), z29 4 (by omega)⟩, fun p hp => ?_, fun g hg => ?_, fun j hj => by rw [n0] at hj; omega⟩
    · rw [z29 _ (by omega), z29 _ (by omega), z29 _ (by omega), zS 1 p (by omega), zS 2 p (by omega), zS 0 6 (by omega), zS 0 7 (by omega), tb]
      exact ⟨rfl, rfl, rfl, fun z => (nomatch z), fun z => (nomatch z)⟩
    · dsimp only
      rw [z29 _ (by omega), zS 0 8 (by omega), tb]
      exact ⟨rfl, fun z => (nomatch z)⟩
  exact ⟨S00, 0, fun _ => S00, 0, fun _ => 0, ⟨rc, by omega, 0, by omega, rfl, rfl, fun i hi => by omega⟩, ⟨rq, rfl, rfl, fun i hi => by omega⟩, ⟨inv, fun i hi => by omega⟩, ⟨by omega, rfl, fun i hi => by omega⟩, ⟨by omega, rfl, fun i hi => by omega⟩⟩
theorem law_loop {xs : Nat → Int32} {L : Nat} (hL : L ≤ 2048) : ∀ (d fu i b : Nat) (M : Mem), WW b M → b + 50000 * d < 2 ^ 27 → L ≤ 4 * i + 4 * d → 4 * i ≤ L + 4 → d < fu → itr (f_L_law_L18 xs L) (fun _ _ => none) fu M (nI (4 * i)) = some 1 := by
  intro d
  induction d with
  | zero =>
    intro fu i b M hw hb h1 h2 hf
    obtain ⟨f, rfl⟩ : ∃ f, fu = f + 1 := ⟨fu - 1, by omega⟩
    rw [itr_s, f_L_law_L18, if_pos (by
      rw [Int32.lt_iff_toInt_lt, show Int32.ofNat L = nI L from rfl, nl4, pk_sub_toInt (by omega) (by omega), nI_toInt (by omega)]
      omega)]
  | succ d ih =>
    intro fu i b M hw hb h1 h2 hf
    obtain ⟨f, rfl⟩ : ∃ f, fu = f + 1 := ⟨fu - 1, by omega⟩
    rw [itr_s, f_L_law_L18]
    by_cases q : L < 4 * i + 4
    · rw [if_pos (by
        rw [Int32.lt_iff_toInt_lt, show Int32.ofNat L = nI L from rfl, nl4, pk_sub_toInt (by omega) (by omega), nI_toInt (by omega)]
        omega)]
    have hb' : b + 50000 < 2 ^ 27 := Nat.lt_of_le_of_lt (by omega) hb
    have hb2 : b + 50000 + 50000 * d < 2 ^ 27 := Nat.lt_of_le_of_lt (by omega) hb
    have cont : ∀ M2, WW (b + 50000) M2 → f_L_law_L605 xs L (itr (f_L_law_L18 xs L) (fun _ _ => none) f) M2 (nI (4 * i)) = some 1 := fun M2 w => by
      rw [f_L_law_L605, bd, show nI (4 * i) + (4 : Int32) = nI (4 * (i + 1)) from nI_add (4 * i) 4]
      exact ih f (i + 1) (b + 50000) M2 w hb2 (by omega) (by omega) (by omega)
    have same : WW (b + 50000) M := by
      obtain ⟨S, h, P, tl, T, wc, wd, wi, tc, tm⟩ := hw
      exact ⟨S, h, P, tl, T, wc, wd, WI_le wi (by omega) hb', tc, tm⟩
    have g1 : ∀ {α : Type} {x : Option α}, gd (inb (nI (4 * i + 1)) L) x = x := fun {α x} => gd_in (by omega) (by omega)
    have g2 : ∀ {α : Type} {x : Option α}, gd (inb (nI (4 * i + 2)) L) x = x := fun {α x} => gd_in (by omega) (by omega)
    have g3 : ∀ {α : Type} {x : Option α}, gd (inb (nI (4 * i + 3)) L) x = x := fun {α x} => gd_in (by omega) (by omega)
    rw [if_neg (by
      rw [Int32.lt_iff_toInt_lt, show Int32.ofNat L = nI L from rfl, nl4, pk_sub_toInt (by omega) (by omega), nI_toInt (by omega)]
      omega), gd_in (by omega) (by omega), nI_1, show nI (4 * i) + (2 : Int32) = nI (4 * i + 2) from nI_add (4 * i) 2, show nI (4 * i) + (3 : Int32) = nI (4 * i + 3) from nI_add (4 * i) 3]
    generalize xs ((nI (4 * i + 1))).toNatClampNeg = x1
    generalize xs ((nI (4 * i + 2))).toNatClampNeg = x2
    generalize xs ((nI (4 * i + 3))).toNatClampNeg = x3
    generalize (xs ((nI (4 * i))).toNatClampNeg &&& (31 : Int32)) = x0
    by_cases c0 : x0 = (0 : Int32)
    · obtain ⟨v, M1, M2, e1, e2, w2⟩ := w_begin x1 hw hb'
      rw [if_pos c0, g1, show f_X7_begin M x1 = _ from e1, bP_some, g1, show f_X8_begin M1 x1 = _ from e2, bP_some, if_pos rfl]
      exact cont M2 w2
    rw [if_neg c0]
    by_cases c1 : x0 = (1 : Int32)
    · obtain ⟨v, M1, M2, e1, e2, w2⟩ := w_write x1 x2 x3 hw hb'
      rw [if_pos c1, g1, g2, g3, show f_X7_write M x1 x2 x3 = _ from e1, bP_some, g1, g2, g3, show f_X8_write M1 x1 x2 x3 = _ from e2, bP_some, if_pos rfl]
      exact cont M2 w2
    rw [if_neg c1]
    by_cases c2 : x0 = (2 : Int32)
    · obtain ⟨v, M1, M2, e1, e2, w2⟩ := w_settle x1 hw hb'
      rw [if_pos c2, g1, show f_X7_settle M x1 = _ from e1, bP_some, g1, show f_X8_settle M1 x1 = _ from e2, bP_some, if_pos rfl]
      exact cont M2 w2
    rw [if_neg c2]
    by_cases c3 : x0 = (3 : Int32)
    · obtain ⟨v, M1, M2, e1, e2, w2⟩ := w_takeBack x1 hw hb'
      rw [if_pos c3, g1, show f_X7_takeBack M x1 = _ from e1, bP_some, g1, show f_X8_takeBack M1 x1 = _ from e2, bP_some, if_pos rfl]
      exact cont M2 w2
    rw [if_neg c3]
    by_cases c4 : x0 = (4 : Int32)
    · obtain ⟨v, M1, M2, e1, e2, w2⟩ := w_writeOut x1 hw hb'
      rw [if_pos c4, g1, show f_X7_writeOut M x1 = _ from e1, bP_some, g1, show f_X8_writeOut M1 x1 = _ from e2, bP_some, if_pos rfl]
      exact cont M2 w2
    rw [if_neg c4]
    by_cases c5 : x0 = (5 : Int32)
    · obtain ⟨v, M1, M2, e1, e2, w2⟩ := w_dropOut x1 hw hb'
      rw [if_pos c5, g1, show f_X7_dropOut M x1 = _ from e1, bP_some, g1, show f_X8_dropOut M1 x1 = _ from e2, bP_some, if_pos rfl]
      exact cont M2 w2
    rw [if_neg c5]
    by_cases c6 : x0 = (6 : Int32)
    · obtain ⟨v, M1, M2, e1, e2, w2⟩ := w_checkpoint hw hb'
      rw [if_pos c6, show f_X7_checkpoint M  = _ from e1, bP_some, show f_X8_checkpoint M1  = _ from e2, bP_some, if_pos rfl]
      exact cont M2 w2
    rw [if_neg c6]
    by_cases c7 : x0 = (7 : Int32)
    · obtain ⟨v, M1, M2, e1, e2, w2⟩ := w_dropRecords hw hb'
      rw [if_pos c7, show f_X7_dropRecords M  = _ from e1, bP_some, show f_X8_dropRecords M1  = _ from e2, bP_some, if_pos rfl]
      exact cont M2 w2
    rw [if_neg c7]
    by_cases c8 : x0 = (8 : Int32)
    · obtain ⟨v, M1, M2, e1, e2, w2⟩ := w_force hw hb'
      rw [if_pos c8, show f_X7_force M  = _ from e1, bP_some, show f_X8_force M1  = _ from e2, bP_some, if_pos rfl]
      exact cont M2 w2
    rw [if_neg c8]
    by_cases c9 : x0 = (9 : Int32)
    · obtain ⟨v, M1, M2, e1, e2, w2⟩ := w_stop x1 hw hb'
      rw [if_pos c9, g1, show f_X7_stop M x1 = _ from e1, bP_some, g1, show f_X8_stop M1 x1 = _ from e2, bP_some, if_pos rfl]
      exact cont M2 w2
    rw [if_neg c9]
    by_cases c10 : x0 = (10 : Int32)
    · obtain ⟨v, M1, M2, e1, e2, w2⟩ := w_restart hw hb'
      rw [if_pos c10, show f_X7_restart M  = _ from e1, bP_some, show f_X8_restart M1  = _ from e2, bP_some, if_pos rfl]
      exact cont M2 w2
    rw [if_neg c10]
    by_cases c11 : x0 = (11 : Int32)
    · obtain ⟨S, h, P, tl, T, wc, wd, wi, tc, tm⟩ := id hw
      obtain ⟨v, e1, e2⟩ := q_page wc.1 wd.1 wi.1 x1 x2
      rw [if_pos c11, g1, g2, e1, bO_some, g1, g2, e2, bO_some, if_pos rfl]
      exact cont M same
    rw [if_neg c11]
    by_cases c12 : x0 = (12 : Int32)
    · obtain ⟨S, h, P, tl, T, wc, wd, wi, tc, tm⟩ := id hw
      obtain ⟨v, e1, e2⟩ := q_rec wc.1 wd.1 wi.1 x1 x2
      rw [if_pos c12, g1, g2, e1, bO_some, g1, g2, e2, bO_some, if_pos rfl]
      exact cont M same
    rw [if_neg c12]
    by_cases c13 : x0 = (13 : Int32)
    · obtain ⟨S, h, P, tl, T, wc, wd, wi, tc, tm⟩ := id hw
      obtain ⟨v, e1, e2⟩ := q_group wc.1 wd.1 wi.1 x1 x2
      rw [if_pos c13, g1, g2, e1, bO_some, g1, g2, e2, bO_some, if_pos rfl]
      exact cont M same
    rw [if_neg c13]
    by_cases c14 : x0 = (14 : Int32)
    · obtain ⟨v, M1, M2, e1, e2, w2⟩ := w_would x1 x2 hw hb'
      rw [if_pos c14, g1, g2, show f_X7_would M x1 x2 = _ from e1, bP_some, g1, g2, show f_X8_would M1 x1 x2 = _ from e2, bP_some, if_pos rfl]
      exact cont M2 w2
    rw [if_neg c14]
    by_cases c15 : x0 = (15 : Int32)
    · obtain ⟨S, h, P, tl, T, wc, wd, wi, tc, tm⟩ := id hw
      obtain ⟨v, e1, e2⟩ := q_count wc wd wi.1 tc.2.1 tm.2.1 x1
      rw [if_pos c15, g1, e1, bO_some, g1, e2, bO_some, if_pos rfl]
      exact cont M same
    rw [if_neg c15]
    by_cases c16 : x0 = (16 : Int32)
    · obtain ⟨v, M1, M2, e1, e2, w2⟩ := w_undo hw hb'
      rw [if_pos c16, show f_X7_undo M  = _ from e1, bP_some, show f_X8_undo M1  = _ from e2, bP_some, if_pos rfl]
      exact cont M2 w2
    rw [if_neg c16]
    by_cases c17 : x0 = (17 : Int32)
    · obtain ⟨v, M1, M2, e1, e2, w2⟩ := w_type x1 hw hb'
      rw [if_pos c17, g1, show f_X7_type M x1 = _ from e1, bP_some, g1, show f_X8_type M1 x1 = _ from e2, bP_some, if_pos rfl]
      exact cont M2 w2
    rw [if_neg c17]
    by_cases c18 : x0 = (18 : Int32)
    · obtain ⟨v, M1, M2, e1, e2, w2⟩ := w_clearText hw hb'
      rw [if_pos c18, show f_X7_clearText M  = _ from e1, bP_some, show f_X8_clearText M1  = _ from e2, bP_some, if_pos rfl]
      exact cont M2 w2
    rw [if_neg c18]
    by_cases c19 : x0 = (19 : Int32)
    · obtain ⟨v, M1, M2, e1, e2, w2⟩ := w_fault x1 hw hb'
      rw [if_pos c19, g1, show f_X7_fault M x1 = _ from e1, bP_some, g1, show f_X8_fault M1 x1 = _ from e2, bP_some, if_pos rfl]
      exact cont M2 w2
    rw [if_neg c19]
    by_cases c20 : x0 = (20 : Int32)
    · obtain ⟨v, M1, M2, e1, e2, w2⟩ := w_play hw hb'
      rw [if_pos c20, show f_X7_play M  = _ from e1, bP_some, show f_X8_play M1  = _ from e2, bP_some, if_pos rfl]
      exact cont M2 w2
    rw [if_neg c20]
    exact cont M same
end WF1
