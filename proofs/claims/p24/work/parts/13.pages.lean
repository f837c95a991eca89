/-! SealedGroups$Pages.copyFrom -/
noncomputable def f_X4_copyFrom (k : Nat) (j : Nat) (M : Mem) : Option Mem :=
bd (sr M k 2 (va_cpy (M j 2) (M k 2) 0 0 8)) (fun M1 =>
bd (sr M1 k 3 (va_cpy (M1 j 3) (M1 k 3) 0 0 8)) (fun M2 =>
bd (sr M2 k 4 (va_cpy (M2 j 4) (M2 k 4) 0 0 8)) (fun M3 =>
bd (sr M3 k 5 (va_cpy (M3 j 5) (M3 k 5) 0 0 8)) (fun M4 =>
bd (sr M4 k 6 (va_cpy (M4 j 6) (M4 k 6) 0 0 8)) (fun M5 =>
bd (st M5 k 1 5 (M5 j 1 5)) (fun M6 =>
bd (st M6 k 1 6 (M6 j 1 6)) (fun M7 =>
some M7)))))))
theorem pk_X4_copyFrom : Pk "SealedGroups$Pages" yX4_copyFrom cX4_copyFrom 2 none 1 := ⟨wm_256, wm_36, rfl, by decide +kernel⟩
theorem pv_X4_copyFrom : Cond.instanceMethod yX4_copyFrom ∈ wsL_law ∧ Cond.selects "SealedGroups$Pages" yX4_copyFrom yX4_copyFrom ∈ wsL_law := ⟨wm_254, wm_255⟩
set_option maxHeartbeats 4000000 in
set_option maxRecDepth 100000 in
theorem c_X4_copyFrom (l : Launch) (E : En) (hA : AdOK E) {k j : Nat} {M : Mem} {M0 : Mem} (hk : k < 7) (hj : j < 7) (h : f_X4_copyFrom k j M = some M0) : Met l yX4_copyFrom (Wm yX4_copyFrom cX4_copyFrom 2 none) ({ frames := 1, cells := 0, slots := 0, locals := 26 } : Room) (va_Pc [Value.ref (E.2.2 k 1), Value.ref (E.2.2 j 1)] (Wd E M)) (QV E M0) 0 0 (AA E) := by
  refine Met.ofW (cc := cX4_copyFrom) (maxL := 2) (ret := none) (by decide +kernel) rfl ?_
  intro p e s m args below meth c s₁ B hml hv
  obtain ⟨rfl, hP, hK⟩ := hv
  have X : Cx E (AA E) p s m c _ cX4_copyFrom 2 RX4 := ⟨⟨B.exec, B.bytes, hml, findClass_of_methodNamed B.named, fun w hw => atoms_spec (ws := Wm yX4_copyFrom cX4_copyFrom 2 none) B.pre w (List.mem_cons_of_mem _ hw)⟩, hK, hA, fun _ h => h⟩
  have hx := B.exec
  have hb := B.bytes
  have hr := B.returns
  have hlocks := B.notSynchronized
  clear B hml
  have hS : va_S (AA E) s.heap s.heap [] := va_S.rf
  have hl := lv_entry ([Value.ref (E.2.2 k 1), Value.ref (E.2.2 j 1)]) (n := 2) (Nat.le_of_ble_eq_true rfl)
  rw [lg_entry_eq]
  generalize (lg_sl ([Value.ref (E.2.2 k 1), Value.ref (E.2.2 j 1)]) ++ List.replicate (2 - (lg_sl ([Value.ref (E.2.2 k 1), Value.ref (E.2.2 j 1)])).length) Slot.unset).toArray = ls at hl ⊢
  have hl : lv_has ls 2 [(0, .ref (E.2.2 k 1)), (1, .ref (E.2.2 j 1))] := hl
  unfold f_X4_copyFrom at h
  refine lv_aload_n hx hb dX4_copyFrom_0 rfl (lv_at hl 1 rfl) ?_
  refine gt_4_0 X wm_49 hP (ms hj 1) dX4_copyFrom_1 ?_
  refine lv_iconst (v := 0) hx hb dX4_copyFrom_4 (by decide) ?_
  refine lv_aload_n hx hb dX4_copyFrom_5 rfl (lv_at hl 0 rfl) ?_
  refine gt_4_0 X wm_49 hP (ms hk 1) dX4_copyFrom_6 ?_
  refine lv_iconst (v := 0) hx hb dX4_copyFrom_9 (by decide) ?_
  refine lv_bipush (v := 8) hx hb dX4_copyFrom_10 (by decide) ?_
  refine mw_cpy X hP hS hl.1 (ms hj 2) rfl (ms hk 2) (fun _ => rfl) (by decide) (by decide) (by decide) (by decide) (by decide) ⟨Nat.le_of_ble_eq_true rfl, Nat.le_of_ble_eq_true rfl⟩ (Nat.le_of_ble_eq_true rfl) wm_257 wm_ncpy wm_scpy wm_iSys dX4_copyFrom_12 (fun H locs M1 eM1 hP hS => ?_)
  have h := bd_e h (eM1.trans rfl)
  refine lv_aload_n hx hb dX4_copyFrom_15 rfl (lv_at hl 1 rfl) ?_
  refine gt_4_1 X wm_50 hP (ms hj 1) dX4_copyFrom_16 ?_
  refine lv_iconst (v := 0) hx hb dX4_copyFrom_19 (by decide) ?_
  refine lv_aload_n hx hb dX4_copyFrom_20 rfl (lv_at hl 0 rfl) ?_
  refine gt_4_1 X wm_50 hP (ms hk 1) dX4_copyFrom_21 ?_
  refine lv_iconst (v := 0) hx hb dX4_copyFrom_24 (by decide) ?_
  refine lv_bipush (v := 8) hx hb dX4_copyFrom_25 (by decide) ?_
  refine mw_cpy X hP hS hl.1 (ms hj 3) rfl (ms hk 3) (fun _ => rfl) (by decide) (by decide) (by decide) (by decide) (by decide) ⟨Nat.le_of_ble_eq_true rfl, Nat.le_of_ble_eq_true rfl⟩ (Nat.le_of_ble_eq_true rfl) wm_257 wm_ncpy wm_scpy wm_iSys dX4_copyFrom_27 (fun H locs M2 eM2 hP hS => ?_)
  have h := bd_e h (eM2.trans rfl)
  refine lv_aload_n hx hb dX4_copyFrom_30 rfl (lv_at hl 1 rfl) ?_
  refine gt_4_2 X wm_51 hP (ms hj 1) dX4_copyFrom_31 ?_
  refine lv_iconst (v := 0) hx hb dX4_copyFrom_34 (by decide) ?_
  refine lv_aload_n hx hb dX4_copyFrom_35 rfl (lv_at hl 0 rfl) ?_
  refine gt_4_2 X wm_51 hP (ms hk 1) dX4_copyFrom_36 ?_
  refine lv_iconst (v := 0) hx hb dX4_copyFrom_39 (by decide) ?_
  refine lv_bipush (v := 8) hx hb dX4_copyFrom_40 (by decide) ?_
  refine mw_cpy X hP hS hl.1 (ms hj 4) rfl (ms hk 4) (fun _ => rfl) (by decide) (by decide) (by decide) (by decide) (by decide) ⟨Nat.le_of_ble_eq_true rfl, Nat.le_of_ble_eq_true rfl⟩ (Nat.le_of_ble_eq_true rfl) wm_257 wm_ncpy wm_scpy wm_iSys dX4_copyFrom_42 (fun H locs M3 eM3 hP hS => ?_)
  have h := bd_e h (eM3.trans rfl)
  refine lv_aload_n hx hb dX4_copyFrom_45 rfl (lv_at hl 1 rfl) ?_
  refine gt_4_3 X wm_52 hP (ms hj 1) dX4_copyFrom_46 ?_
  refine lv_iconst (v := 0) hx hb dX4_copyFrom_49 (by decide) ?_
  refine lv_aload_n hx hb dX4_copyFrom_50 rfl (lv_at hl 0 rfl) ?_
  refine gt_4_3 X wm_52 hP (ms hk 1) dX4_copyFrom_51 ?_
  refine lv_iconst (v := 0) hx hb dX4_copyFrom_54 (by decide) ?_
  refine lv_bipush (v := 8) hx hb dX4_copyFrom_55 (by decide) ?_
  refine mw_cpy X hP hS hl.1 (ms hj 5) rfl (ms hk 5) (fun _ => rfl) (by decide) (by decide) (by decide) (by decide) (by decide) ⟨Nat.le_of_ble_eq_true rfl, Nat.le_of_ble_eq_true rfl⟩ (Nat.le_of_ble_eq_true rfl) wm_257 wm_ncpy wm_scpy wm_iSys dX4_copyFrom_57 (fun H locs M4 eM4 hP hS => ?_)
  have h := bd_e h (eM4.trans rfl)
  refine lv_aload_n hx hb dX4_copyFrom_60 rfl (lv_at hl 1 rfl) ?_
  refine gt_4_4 X wm_53 hP (ms hj 1) dX4_copyFrom_61 ?_
  refine lv_iconst (v := 0) hx hb dX4_copyFrom_64 (by decide) ?_
  refine lv_aload_n hx hb dX4_copyFrom_65 rfl (lv_at hl 0 rfl) ?_
  refine gt_4_4 X wm_53 hP (ms hk 1) dX4_copyFrom_66 ?_
  refine lv_iconst (v := 0) hx hb dX4_copyFrom_69 (by decide) ?_
  refine lv_bipush (v := 8) hx hb dX4_copyFrom_70 (by decide) ?_
  refine mw_cpy X hP hS hl.1 (ms hj 6) rfl (ms hk 6) (fun _ => rfl) (by decide) (by decide) (by decide) (by decide) (by decide) ⟨Nat.le_of_ble_eq_true rfl, Nat.le_of_ble_eq_true rfl⟩ (Nat.le_of_ble_eq_true rfl) wm_257 wm_ncpy wm_scpy wm_iSys dX4_copyFrom_72 (fun H locs M5 eM5 hP hS => ?_)
  have h := bd_e h (eM5.trans rfl)
  refine lv_aload_n hx hb dX4_copyFrom_75 rfl (lv_at hl 0 rfl) ?_
  refine lv_aload_n hx hb dX4_copyFrom_76 rfl (lv_at hl 1 rfl) ?_
  refine gt_4_5 X wm_127 hP (ms hj 1) dX4_copyFrom_77 ?_
  refine pt_4_5 X wm_127 hP hS (ms hk 1) dX4_copyFrom_80 (fun H locs M6 eM6 hP hS => ?_)
  have h := bd_e h eM6
  refine lv_aload_n hx hb dX4_copyFrom_83 rfl (lv_at hl 0 rfl) ?_
  refine lv_aload_n hx hb dX4_copyFrom_84 rfl (lv_at hl 1 rfl) ?_
  refine gt_4_6 X wm_128 hP (ms hj 1) dX4_copyFrom_85 ?_
  refine pt_4_6 X wm_128 hP hS (ms hk 1) dX4_copyFrom_88 (fun H locs M7 eM7 hP hS => ?_)
  have h := bd_e h eM7
  exact mw_vret X hr hlocks hP hS (Option.some.inj h) dX4_copyFrom_91
/-! SealedGroups$Pages.valueOf -/
noncomputable def f_X4_valueOf (k : Nat) (M : Mem) (a1 : Int32) : Option Int32 :=
(if a1 < 0 then
some (0 : Int32)
else
(if a1 < (8 : Int32) then
(if (((M k 1 5) >>> (a1 &&& 31)) &&& (1 : Int32)) = (1 : Int32) then
gd (inb a1 8) (
some (M k 4 (a1).toNatClampNeg))
else
gd (inb a1 8) (
some (M k 2 (a1).toNatClampNeg)))
else
some (0 : Int32)))
theorem pk_X4_valueOf : Pk "SealedGroups$Pages" yX4_valueOf cX4_valueOf 2 (some .int) 1 := ⟨wm_132, wm_36, rfl, by decide +kernel⟩
theorem pv_X4_valueOf : Cond.instanceMethod yX4_valueOf ∈ wsL_law ∧ Cond.selects "SealedGroups$Pages" yX4_valueOf yX4_valueOf ∈ wsL_law := ⟨wm_130, wm_131⟩
set_option maxHeartbeats 4000000 in
set_option maxRecDepth 100000 in
theorem c_X4_valueOf (l : Launch) (E : En) (hA : AdOK E) {k : Nat} {M : Mem} {a1 : Int32} {r0 : Int32} (hk : k < 7) (h : f_X4_valueOf k M a1 = some r0) : Met l yX4_valueOf (Wm yX4_valueOf cX4_valueOf 2 (some .int)) ({ frames := 0, cells := 0, slots := 0, locals := 0 } : Room) (va_Pc [Value.ref (E.2.2 k 1), Value.int a1] (Wd E M)) (QI E r0 M) 0 0 (AA E) := by
  refine Met.ofW (cc := cX4_valueOf) (maxL := 2) (ret := (some .int)) (by decide +kernel) rfl ?_
  intro p e s m args below meth c s₁ B hml hv
  obtain ⟨rfl, hP, hK⟩ := hv
  have X : Cx E (AA E) p s m c _ cX4_valueOf 2 RX4 := ⟨⟨B.exec, B.bytes, hml, findClass_of_methodNamed B.named, fun w hw => atoms_spec (ws := Wm yX4_valueOf cX4_valueOf 2 (some .int)) B.pre w (List.mem_cons_of_mem _ hw)⟩, hK, hA, fun _ h => h⟩
  have hx := B.exec
  have hb := B.bytes
  have hr := B.returns
  have hlocks := B.notSynchronized
  clear B hml
  have hS : va_S (AA E) s.heap s.heap [] := va_S.rf
  have hl := lv_entry ([Value.ref (E.2.2 k 1), Value.int a1]) (n := 2) (Nat.le_of_ble_eq_true rfl)
  rw [lg_entry_eq]
  generalize (lg_sl ([Value.ref (E.2.2 k 1), Value.int a1]) ++ List.replicate (2 - (lg_sl ([Value.ref (E.2.2 k 1), Value.int a1])).length) Slot.unset).toArray = ls at hl ⊢
  have hl : lv_has ls 2 [(0, .ref (E.2.2 k 1)), (1, .int a1)] := hl
  unfold f_X4_valueOf at h
  refine lv_iload_n hx hb dX4_valueOf_0 rfl (lv_at hl 1 rfl) ?_
  refine lv_if_lt (tgt := 10) hx hb dX4_valueOf_1 (by decide) (fun c1 => ?_) (fun c1 => ?_)
  · have h := br_1 h c1
    refine lv_iconst (v := 0) hx hb dX4_valueOf_10 (by decide) ?_
    exact mw_iret X hr hlocks hP hS (Option.some.inj h) rfl dX4_valueOf_11
  · have h := br_0 h c1
    refine lv_iload_n hx hb dX4_valueOf_4 rfl (lv_at hl 1 rfl) ?_
    refine lv_bipush (v := 8) hx hb dX4_valueOf_5 (by decide) ?_
    refine lv_icmp_lt (tgt := 12) hx hb dX4_valueOf_7 (by decide) (fun c2 => ?_) (fun c2 => ?_)
    · have h := br_1 h c2
      refine lv_aload_n hx hb dX4_valueOf_12 rfl (lv_at hl 0 rfl) ?_
      refine gt_4_5 X wm_127 hP (ms hk 1) dX4_valueOf_13 ?_
      refine lv_iload_n hx hb dX4_valueOf_16 rfl (lv_at hl 1 rfl) ?_
      refine lv_ishr hx hb dX4_valueOf_17 ?_
      refine lv_iconst (v := 1) hx hb dX4_valueOf_18 (by decide) ?_
      refine lv_iand hx hb dX4_valueOf_19 ?_
      refine lv_iconst (v := 1) hx hb dX4_valueOf_20 (by decide) ?_
      refine lv_icmp_ne (tgt := 33) hx hb dX4_valueOf_21 (by decide) (fun c3 => ?_) (fun c3 => ?_)
      · have h := br_0 h c3
        refine lv_aload_n hx hb dX4_valueOf_33 rfl (lv_at hl 0 rfl) ?_
        refine gt_4_0 X wm_49 hP (ms hk 1) dX4_valueOf_34 ?_
        refine lv_iload_n hx hb dX4_valueOf_37 rfl (lv_at hl 1 rfl) ?_
        obtain ⟨g4, h⟩ := gd_e h
        refine mw_ld X hP (ms hk 2) rfl (inb_vp g4) rfl dX4_valueOf_38 ?_
        exact mw_iret X hr hlocks hP hS (Option.some.inj h) rfl dX4_valueOf_39
      · have h := br_1 h c3
        refine lv_aload_n hx hb dX4_valueOf_24 rfl (lv_at hl 0 rfl) ?_
        refine gt_4_2 X wm_51 hP (ms hk 1) dX4_valueOf_25 ?_
        refine lv_iload_n hx hb dX4_valueOf_28 rfl (lv_at hl 1 rfl) ?_
        obtain ⟨g5, h⟩ := gd_e h
        refine mw_ld X hP (ms hk 4) rfl (inb_vp g5) rfl dX4_valueOf_29 ?_
        refine lv_goto (tgt := 39) hx hb dX4_valueOf_30 (by decide) ?_
        exact mw_iret X hr hlocks hP hS (Option.some.inj h) rfl dX4_valueOf_39
    · have h := br_0 h c2
      refine lv_iconst (v := 0) hx hb dX4_valueOf_10 (by decide) ?_
      exact mw_iret X hr hlocks hP hS (Option.some.inj h) rfl dX4_valueOf_11
/-! SealedGroups$Pages.markOf -/
noncomputable def f_X4_markOf (k : Nat) (M : Mem) (a1 : Int32) : Option Int32 :=
(if a1 < 0 then
some (0 : Int32)
else
(if a1 < (8 : Int32) then
(if (((M k 1 5) >>> (a1 &&& 31)) &&& (1 : Int32)) = (1 : Int32) then
gd (inb a1 8) (
some (M k 5 (a1).toNatClampNeg))
else
gd (inb a1 8) (
some (M k 3 (a1).toNatClampNeg)))
else
some (0 : Int32)))
theorem pk_X4_markOf : Pk "SealedGroups$Pages" yX4_markOf cX4_markOf 2 (some .int) 1 := ⟨wm_136, wm_36, rfl, by decide +kernel⟩
theorem pv_X4_markOf : Cond.instanceMethod yX4_markOf ∈ wsL_law ∧ Cond.selects "SealedGroups$Pages" yX4_markOf yX4_markOf ∈ wsL_law := ⟨wm_134, wm_135⟩
set_option maxHeartbeats 4000000 in
set_option maxRecDepth 100000 in
theorem c_X4_markOf (l : Launch) (E : En) (hA : AdOK E) {k : Nat} {M : Mem} {a1 : Int32} {r0 : Int32} (hk : k < 7) (h : f_X4_markOf k M a1 = some r0) : Met l yX4_markOf (Wm yX4_markOf cX4_markOf 2 (some .int)) ({ frames := 0, cells := 0, slots := 0, locals := 0 } : Room) (va_Pc [Value.ref (E.2.2 k 1), Value.int a1] (Wd E M)) (QI E r0 M) 0 0 (AA E) := by
  refine Met.ofW (cc := cX4_markOf) (maxL := 2) (ret := (some .int)) (by decide +kernel) rfl ?_
  intro p e s m args below meth c s₁ B hml hv
  obtain ⟨rfl, hP, hK⟩ := hv
  have X : Cx E (AA E) p s m c _ cX4_markOf 2 RX4 := ⟨⟨B.exec, B.bytes, hml, findClass_of_methodNamed B.named, fun w hw => atoms_spec (ws := Wm yX4_markOf cX4_markOf 2 (some .int)) B.pre w (List.mem_cons_of_mem _ hw)⟩, hK, hA, fun _ h => h⟩
  have hx := B.exec
  have hb := B.bytes
  have hr := B.returns
  have hlocks := B.notSynchronized
  clear B hml
  have hS : va_S (AA E) s.heap s.heap [] := va_S.rf
  have hl := lv_entry ([Value.ref (E.2.2 k 1), Value.int a1]) (n := 2) (Nat.le_of_ble_eq_true rfl)
  rw [lg_entry_eq]
  generalize (lg_sl ([Value.ref (E.2.2 k 1), Value.int a1]) ++ List.replicate (2 - (lg_sl ([Value.ref (E.2.2 k 1), Value.int a1])).length) Slot.unset).toArray = ls at hl ⊢
  have hl : lv_has ls 2 [(0, .ref (E.2.2 k 1)), (1, .int a1)] := hl
  unfold f_X4_markOf at h
  refine lv_iload_n hx hb dX4_markOf_0 rfl (lv_at hl 1 rfl) ?_
  refine lv_if_lt (tgt := 10) hx hb dX4_markOf_1 (by decide) (fun c1 => ?_) (fun c1 => ?_)
  · have h := br_1 h c1
    refine lv_iconst (v := 0) hx hb dX4_markOf_10 (by decide) ?_
    exact mw_iret X hr hlocks hP hS (Option.some.inj h) rfl dX4_markOf_11
  · have h := br_0 h c1
    refine lv_iload_n hx hb dX4_markOf_4 rfl (lv_at hl 1 rfl) ?_
    refine lv_bipush (v := 8) hx hb dX4_markOf_5 (by decide) ?_
    refine lv_icmp_lt (tgt := 12) hx hb dX4_markOf_7 (by decide) (fun c2 => ?_) (fun c2 => ?_)
    · have h := br_1 h c2
      refine lv_aload_n hx hb dX4_markOf_12 rfl (lv_at hl 0 rfl) ?_
      refine gt_4_5 X wm_127 hP (ms hk 1) dX4_markOf_13 ?_
      refine lv_iload_n hx hb dX4_markOf_16 rfl (lv_at hl 1 rfl) ?_
      refine lv_ishr hx hb dX4_markOf_17 ?_
      refine lv_iconst (v := 1) hx hb dX4_markOf_18 (by decide) ?_
      refine lv_iand hx hb dX4_markOf_19 ?_
      refine lv_iconst (v := 1) hx hb dX4_markOf_20 (by decide) ?_
      refine lv_icmp_ne (tgt := 33) hx hb dX4_markOf_21 (by decide) (fun c3 => ?_) (fun c3 => ?_)
      · have h := br_0 h c3
        refine lv_aload_n hx hb dX4_markOf_33 rfl (lv_at hl 0 rfl) ?_
        refine gt_4_1 X wm_50 hP (ms hk 1) dX4_markOf_34 ?_
        refine lv_iload_n hx hb dX4_markOf_37 rfl (lv_at hl 1 rfl) ?_
        obtain ⟨g4, h⟩ := gd_e h
        refine mw_ld X hP (ms hk 3) rfl (inb_vp g4) rfl dX4_markOf_38 ?_
        exact mw_iret X hr hlocks hP hS (Option.some.inj h) rfl dX4_markOf_39
      · have h := br_1 h c3
        refine lv_aload_n hx hb dX4_markOf_24 rfl (lv_at hl 0 rfl) ?_
        refine gt_4_3 X wm_52 hP (ms hk 1) dX4_markOf_25 ?_
        refine lv_iload_n hx hb dX4_markOf_28 rfl (lv_at hl 1 rfl) ?_
        obtain ⟨g5, h⟩ := gd_e h
        refine mw_ld X hP (ms hk 5) rfl (inb_vp g5) rfl dX4_markOf_29 ?_
        refine lv_goto (tgt := 39) hx hb dX4_markOf_30 (by decide) ?_
        exact mw_iret X hr hlocks hP hS (Option.some.inj h) rfl dX4_markOf_39
    · have h := br_0 h c2
      refine lv_iconst (v := 0) hx hb dX4_markOf_10 (by decide) ?_
      exact mw_iret X hr hlocks hP hS (Option.some.inj h) rfl dX4_markOf_11
/-! SealedGroups$Pages.startOf -/
noncomputable def f_X4_startOf (k : Nat) (M : Mem) (a1 : Int32) : Option Int32 :=
(if a1 < 0 then
some (-1000004 : Int32)
else
(if (8 : Int32) ≤ a1 then
some (-1000004 : Int32)
else
(if (((M k 1 6) >>> (a1 &&& 31)) &&& (1 : Int32)) = (1 : Int32) then
gd (inb a1 8) (
some (M k 6 (a1).toNatClampNeg))
else
some (-1000004 : Int32))))
theorem pk_X4_startOf : Pk "SealedGroups$Pages" yX4_startOf cX4_startOf 2 (some .int) 1 := ⟨wm_140, wm_36, rfl, by decide +kernel⟩
theorem pv_X4_startOf : Cond.instanceMethod yX4_startOf ∈ wsL_law ∧ Cond.selects "SealedGroups$Pages" yX4_startOf yX4_startOf ∈ wsL_law := ⟨wm_138, wm_139⟩
set_option maxHeartbeats 4000000 in
set_option maxRecDepth 100000 in
theorem c_X4_startOf (l : Launch) (E : En) (hA : AdOK E) {k : Nat} {M : Mem} {a1 : Int32} {r0 : Int32} (hk : k < 7) (h : f_X4_startOf k M a1 = some r0) : Met l yX4_startOf (Wm yX4_startOf cX4_startOf 2 (some .int)) ({ frames := 0, cells := 0, slots := 0, locals := 0 } : Room) (va_Pc [Value.ref (E.2.2 k 1), Value.int a1] (Wd E M)) (QI E r0 M) 0 0 (AA E) := by
  refine Met.ofW (cc := cX4_startOf) (maxL := 2) (ret := (some .int)) (by decide +kernel) rfl ?_
  intro p e s m args below meth c s₁ B hml hv
  obtain ⟨rfl, hP, hK⟩ := hv
  have X : Cx E (AA E) p s m c _ cX4_startOf 2 RX4 := ⟨⟨B.exec, B.bytes, hml, findClass_of_methodNamed B.named, fun w hw => atoms_spec (ws := Wm yX4_startOf cX4_startOf 2 (some .int)) B.pre w (List.mem_cons_of_mem _ hw)⟩, hK, hA, fun _ h => h⟩
  have hx := B.exec
  have hb := B.bytes
  have hr := B.returns
  have hlocks := B.notSynchronized
  clear B hml
  have hS : va_S (AA E) s.heap s.heap [] := va_S.rf
  have hl := lv_entry ([Value.ref (E.2.2 k 1), Value.int a1]) (n := 2) (Nat.le_of_ble_eq_true rfl)
  rw [lg_entry_eq]
  generalize (lg_sl ([Value.ref (E.2.2 k 1), Value.int a1]) ++ List.replicate (2 - (lg_sl ([Value.ref (E.2.2 k 1), Value.int a1])).length) Slot.unset).toArray = ls at hl ⊢
  have hl : lv_has ls 2 [(0, .ref (E.2.2 k 1)), (1, .int a1)] := hl
  unfold f_X4_startOf at h
  refine lv_iload_n hx hb dX4_startOf_0 rfl (lv_at hl 1 rfl) ?_
  refine lv_if_lt (tgt := 31) hx hb dX4_startOf_1 (by decide) (fun c1 => ?_) (fun c1 => ?_)
  · have h := br_1 h c1
    refine lv_ldc hx hb X.1.2.2.2.1 (X.1.2.2.2.2 _ wm_141) dX4_startOf_31 ?_
    exact mw_iret X hr hlocks hP hS (Option.some.inj h) rfl dX4_startOf_33
  · have h := br_0 h c1
    refine lv_iload_n hx hb dX4_startOf_4 rfl (lv_at hl 1 rfl) ?_
    refine lv_bipush (v := 8) hx hb dX4_startOf_5 (by decide) ?_
    refine lv_icmp_ge (tgt := 31) hx hb dX4_startOf_7 (by decide) (fun c2 => ?_) (fun c2 => ?_)
    · have h := br_1 h c2
      refine lv_ldc hx hb X.1.2.2.2.1 (X.1.2.2.2.2 _ wm_141) dX4_startOf_31 ?_
      exact mw_iret X hr hlocks hP hS (Option.some.inj h) rfl dX4_startOf_33
    · have h := br_0 h c2
      refine lv_aload_n hx hb dX4_startOf_10 rfl (lv_at hl 0 rfl) ?_
      refine gt_4_6 X wm_128 hP (ms hk 1) dX4_startOf_11 ?_
      refine lv_iload_n hx hb dX4_startOf_14 rfl (lv_at hl 1 rfl) ?_
      refine lv_ishr hx hb dX4_startOf_15 ?_
      refine lv_iconst (v := 1) hx hb dX4_startOf_16 (by decide) ?_
      refine lv_iand hx hb dX4_startOf_17 ?_
      refine lv_iconst (v := 1) hx hb dX4_startOf_18 (by decide) ?_
      refine lv_icmp_ne (tgt := 31) hx hb dX4_startOf_19 (by decide) (fun c3 => ?_) (fun c3 => ?_)
      · have h := br_0 h c3
        refine lv_ldc hx hb X.1.2.2.2.1 (X.1.2.2.2.2 _ wm_141) dX4_startOf_31 ?_
        exact mw_iret X hr hlocks hP hS (Option.some.inj h) rfl dX4_startOf_33
      · have h := br_1 h c3
        refine lv_aload_n hx hb dX4_startOf_22 rfl (lv_at hl 0 rfl) ?_
        refine gt_4_4 X wm_53 hP (ms hk 1) dX4_startOf_23 ?_
        refine lv_iload_n hx hb dX4_startOf_26 rfl (lv_at hl 1 rfl) ?_
        obtain ⟨g4, h⟩ := gd_e h
        refine mw_ld X hP (ms hk 6) rfl (inb_vp g4) rfl dX4_startOf_27 ?_
        refine lv_goto (tgt := 33) hx hb dX4_startOf_28 (by decide) ?_
        exact mw_iret X hr hlocks hP hS (Option.some.inj h) rfl dX4_startOf_33
/-! SealedGroups$Pages.put -/
noncomputable def f_X4_put_L33 (k : Nat) (M : Mem) (y1 y2 y3 y4 : Int32) : Option Mem :=
gd (inb y1 8) (
bd (st M k 4 (y1).toNatClampNeg y2) (fun M5 =>
gd (inb y1 8) (
bd (st M5 k 5 (y1).toNatClampNeg y3) (fun M7 =>
bd (st M7 k 1 5 ((M7 k 1 5) ||| y4)) (fun M9 =>
bd (st M9 k 1 6 ((M9 k 1 6) ||| y4)) (fun M10 =>
some M10))))))
noncomputable def f_X4_put (k : Nat) (M : Mem) (a1 a2 a3 : Int32) : Option Mem :=
(if a1 < 0 then
some M
else
(if a1 < (8 : Int32) then
bd (((1 : Int32) <<< (a1 &&& 31))) (fun x3 =>
(if ((M k 1 6) &&& x3) = 0 then
gd (inb a1 8) (
bd (st M k 6 (a1).toNatClampNeg a3) (fun M11 =>
f_X4_put_L33 k M11 a1 a2 a3 x3))
else
f_X4_put_L33 k M a1 a2 a3 x3))
else
some M))
theorem pk_X4_put : Pk "SealedGroups$Pages" yX4_put cX4_put 5 none 3 := ⟨wm_307, wm_36, rfl, by decide +kernel⟩
theorem pv_X4_put : Cond.instanceMethod yX4_put ∈ wsL_law ∧ Cond.selects "SealedGroups$Pages" yX4_put yX4_put ∈ wsL_law := ⟨wm_305, wm_306⟩
set_option maxHeartbeats 4000000 in
set_option maxRecDepth 100000 in
theorem c_X4_put (l : Launch) (E : En) (hA : AdOK E) {k : Nat} {M : Mem} {a1 a2 a3 : Int32} {M0 : Mem} (hk : k < 7) (h : f_X4_put k M a1 a2 a3 = some M0) : Met l yX4_put (Wm yX4_put cX4_put 5 none) ({ frames := 0, cells := 0, slots := 0, locals := 0 } : Room) (va_Pc [Value.ref (E.2.2 k 1), Value.int a1, Value.int a2, Value.int a3] (Wd E M)) (QV E M0) 0 0 (AA E) := by
  refine Met.ofW (cc := cX4_put) (maxL := 5) (ret := none) (by decide +kernel) rfl ?_
  intro p e s m args below meth c s₁ B hml hv
  obtain ⟨rfl, hP, hK⟩ := hv
  have X : Cx E (AA E) p s m c _ cX4_put 5 RX4 := ⟨⟨B.exec, B.bytes, hml, findClass_of_methodNamed B.named, fun w hw => atoms_spec (ws := Wm yX4_put cX4_put 5 none) B.pre w (List.mem_cons_of_mem _ hw)⟩, hK, hA, fun _ h => h⟩
  have hx := B.exec
  have hb := B.bytes
  have hr := B.returns
  have hlocks := B.notSynchronized
  clear B hml
  have hS : va_S (AA E) s.heap s.heap [] := va_S.rf
  have hl := lv_entry ([Value.ref (E.2.2 k 1), Value.int a1, Value.int a2, Value.int a3]) (n := 5) (Nat.le_of_ble_eq_true rfl)
  rw [lg_entry_eq]
  generalize (lg_sl ([Value.ref (E.2.2 k 1), Value.int a1, Value.int a2, Value.int a3]) ++ List.replicate (5 - (lg_sl ([Value.ref (E.2.2 k 1), Value.int a1, Value.int a2, Value.int a3])).length) Slot.unset).toArray = ls at hl ⊢
  have hl : lv_has ls 5 [(0, .ref (E.2.2 k 1)), (1, .int a1), (2, .int a2), (3, .int a3)] := hl
  have w_L33 : ∀ (M : Mem) (y1 y2 y3 y4 : Int32) (H : Heap) (locs : List Loc) (ls : Array Slot), f_X4_put_L33 k M y1 y2 y3 y4 = some M0 → va_P E.1 vwCl (wl E M) H → va_S (AA E) s.heap H locs → lv_has ls 5 [(0, .ref (E.2.2 k 1)), (1, .int y1), (2, .int y2), (3, .int y3), (4, .int y4)] → W p l e (headSpec (Wm yX4_put cX4_put 5 none) ({ frames := 0, cells := 0, slots := 0, locals := 0 } : Room)).room s m ([Value.ref (E.2.2 k 1), Value.int a1, Value.int a2, Value.int a3] : List Value).toArray below meth c H locs 0 0 (MQ below (QV E M0) ([Value.ref (E.2.2 k 1), Value.int a1, Value.int a2, Value.int a3] : List Value).toArray s 0 0 (AA E)) (F0 m 33 ls []) := by
    intro M y1 y2 y3 y4 H locs ls h hP hS hl
    unfold f_X4_put_L33 at h
    refine lv_aload_n hx hb dX4_put_33 rfl (lv_at hl 0 rfl) ?_
    refine gt_4_2 X wm_51 hP (ms hk 1) dX4_put_34 ?_
    refine lv_iload_n hx hb dX4_put_37 rfl (lv_at hl 1 rfl) ?_
    refine lv_iload_n hx hb dX4_put_38 rfl (lv_at hl 2 rfl) ?_
    obtain ⟨g6, h⟩ := gd_e h
    refine mw_st X hP hS (ms hk 4) (fun _ => rfl) (inb_vp g6) rfl dX4_put_39 (fun H locs M5 eM5 hP hS => ?_)
    have h := bd_e h eM5
    refine lv_aload_n hx hb dX4_put_40 rfl (lv_at hl 0 rfl) ?_
    refine gt_4_3 X wm_52 hP (ms hk 1) dX4_put_41 ?_
    refine lv_iload_n hx hb dX4_put_44 rfl (lv_at hl 1 rfl) ?_
    refine lv_iload_n hx hb dX4_put_45 rfl (lv_at hl 3 rfl) ?_
    obtain ⟨g8, h⟩ := gd_e h
    refine mw_st X hP hS (ms hk 5) (fun _ => rfl) (inb_vp g8) rfl dX4_put_46 (fun H locs M7 eM7 hP hS => ?_)
    have h := bd_e h eM7
    refine lv_aload_n hx hb dX4_put_47 rfl (lv_at hl 0 rfl) ?_
    refine lv_dup hx hb dX4_put_48 rfl ?_
    refine gt_4_5 X wm_127 hP (ms hk 1) dX4_put_49 ?_
    refine lv_iload hx hb dX4_put_52 (lv_at hl 4 rfl) ?_
    refine lv_ior hx hb dX4_put_54 ?_
    refine pt_4_5 X wm_127 hP hS (ms hk 1) dX4_put_55 (fun H locs M9 eM9 hP hS => ?_)
    have h := bd_e h eM9
    refine lv_aload_n hx hb dX4_put_58 rfl (lv_at hl 0 rfl) ?_
    refine lv_dup hx hb dX4_put_59 rfl ?_
    refine gt_4_6 X wm_128 hP (ms hk 1) dX4_put_60 ?_
    refine lv_iload hx hb dX4_put_63 (lv_at hl 4 rfl) ?_
    refine lv_ior hx hb dX4_put_65 ?_
    refine pt_4_6 X wm_128 hP hS (ms hk 1) dX4_put_66 (fun H locs M10 eM10 hP hS => ?_)
    have h := bd_e h eM10
    exact mw_vret X hr hlocks hP hS (Option.some.inj h) dX4_put_69
  unfold f_X4_put at h
  refine lv_iload_n hx hb dX4_put_0 rfl (lv_at hl 1 rfl) ?_
  refine lv_if_lt (tgt := 10) hx hb dX4_put_1 (by decide) (fun c1 => ?_) (fun c1 => ?_)
  · have h := br_1 h c1
    exact mw_vret X hr hlocks hP hS (Option.some.inj h) dX4_put_10
  · have h := br_0 h c1
    refine lv_iload_n hx hb dX4_put_4 rfl (lv_at hl 1 rfl) ?_
    refine lv_bipush (v := 8) hx hb dX4_put_5 (by decide) ?_
    refine lv_icmp_lt (tgt := 11) hx hb dX4_put_7 (by decide) (fun c2 => ?_) (fun c2 => ?_)
    · have h := br_1 h c2
      refine lv_iconst (v := 1) hx hb dX4_put_11 (by decide) ?_
      refine lv_iload_n hx hb dX4_put_12 rfl (lv_at hl 1 rfl) ?_
      refine lv_ishl hx hb dX4_put_13 ?_
      refine lv_topi (fun x3 ex3 => ?_)
      have h := bd_e h ex3
      refine lv_istore (lv' := [(4, .int x3), (0, .ref (E.2.2 k 1)), (1, .int a1), (2, .int a2), (3, .int a3)]) hx hb dX4_put_14 hl (by decide) rfl (fun ls hl => ?_)
      refine lv_aload_n hx hb dX4_put_16 rfl (lv_at hl 1 rfl) ?_
      refine gt_4_6 X wm_128 hP (ms hk 1) dX4_put_17 ?_
      refine lv_iload hx hb dX4_put_20 (lv_at hl 0 rfl) ?_
      refine lv_iand hx hb dX4_put_22 ?_
      refine lv_if_ne (tgt := 33) hx hb dX4_put_23 (by decide) (fun c4 => ?_) (fun c4 => ?_)
      · have h := br_0 h c4
        exact w_L33 _ _ _ _ _ _ _ _ h hP hS (lv_sub hl [1, 2, 3, 4, 0] rfl)
      · have h := br_1 h c4
        refine lv_aload_n hx hb dX4_put_26 rfl (lv_at hl 1 rfl) ?_
        refine gt_4_4 X wm_53 hP (ms hk 1) dX4_put_27 ?_
        refine lv_iload_n hx hb dX4_put_30 rfl (lv_at hl 2 rfl) ?_
        refine lv_iload_n hx hb dX4_put_31 rfl (lv_at hl 4 rfl) ?_
        obtain ⟨g12, h⟩ := gd_e h
        refine mw_st X hP hS (ms hk 6) (fun _ => rfl) (inb_vp g12) rfl dX4_put_32 (fun H locs M11 eM11 hP hS => ?_)
        have h := bd_e h eM11
        exact w_L33 _ _ _ _ _ _ _ _ h hP hS (lv_sub hl [1, 2, 3, 4, 0] rfl)
    · have h := br_0 h c2
      exact mw_vret X hr hlocks hP hS (Option.some.inj h) dX4_put_10
/-! SealedGroups$Pages.toDisk -/
noncomputable def f_X4_toDisk (k : Nat) (M : Mem) (a1 : Int32) : Option Mem :=
(if a1 < 0 then
some M
else
(if a1 < (8 : Int32) then
gd (inb a1 8) (
gd (inb a1 8) (
bd (st M k 2 (a1).toNatClampNeg (M k 4 (a1).toNatClampNeg)) (fun M4 =>
gd (inb a1 8) (
gd (inb a1 8) (
bd (st M4 k 3 (a1).toNatClampNeg (M4 k 5 (a1).toNatClampNeg)) (fun M7 =>
bd (st M7 k 1 6 ((M7 k 1 6) &&& (((1 : Int32) <<< (a1 &&& 31)) ^^^ (-1 : Int32)))) (fun M9 =>
some M9)))))))
else
some M))
theorem pk_X4_toDisk : Pk "SealedGroups$Pages" yX4_toDisk cX4_toDisk 2 none 1 := ⟨wm_451, wm_36, rfl, by decide +kernel⟩
theorem pv_X4_toDisk : Cond.instanceMethod yX4_toDisk ∈ wsL_law ∧ Cond.selects "SealedGroups$Pages" yX4_toDisk yX4_toDisk ∈ wsL_law := ⟨wm_449, wm_450⟩
set_option maxHeartbeats 4000000 in
set_option maxRecDepth 100000 in
theorem c_X4_toDisk (l : Launch) (E : En) (hA : AdOK E) {k : Nat} {M : Mem} {a1 : Int32} {M0 : Mem} (hk : k < 7) (h : f_X4_toDisk k M a1 = some M0) : Met l yX4_toDisk (Wm yX4_toDisk cX4_toDisk 2 none) ({ frames := 0, cells := 0, slots := 0, locals := 0 } : Room) (va_Pc [Value.ref (E.2.2 k 1), Value.int a1] (Wd E M)) (QV E M0) 0 0 (AA E) := by
  refine Met.ofW (cc := cX4_toDisk) (maxL := 2) (ret := none) (by decide +kernel) rfl ?_
  intro p e s m args below meth c s₁ B hml hv
  obtain ⟨rfl, hP, hK⟩ := hv
  have X : Cx E (AA E) p s m c _ cX4_toDisk 2 RX4 := ⟨⟨B.exec, B.bytes, hml, findClass_of_methodNamed B.named, fun w hw => atoms_spec (ws := Wm yX4_toDisk cX4_toDisk 2 none) B.pre w (List.mem_cons_of_mem _ hw)⟩, hK, hA, fun _ h => h⟩
  have hx := B.exec
  have hb := B.bytes
  have hr := B.returns
  have hlocks := B.notSynchronized
  clear B hml
  have hS : va_S (AA E) s.heap s.heap [] := va_S.rf
  have hl := lv_entry ([Value.ref (E.2.2 k 1), Value.int a1]) (n := 2) (Nat.le_of_ble_eq_true rfl)
  rw [lg_entry_eq]
  generalize (lg_sl ([Value.ref (E.2.2 k 1), Value.int a1]) ++ List.replicate (2 - (lg_sl ([Value.ref (E.2.2 k 1), Value.int a1])).length) Slot.unset).toArray = ls at hl ⊢
  have hl : lv_has ls 2 [(0, .ref (E.2.2 k 1)), (1, .int a1)] := hl
  unfold f_X4_toDisk at h
  refine lv_iload_n hx hb dX4_toDisk_0 rfl (lv_at hl 1 rfl) ?_
  refine lv_if_lt (tgt := 10) hx hb dX4_toDisk_1 (by decide) (fun c1 => ?_) (fun c1 => ?_)
  · have h := br_1 h c1
    exact mw_vret X hr hlocks hP hS (Option.some.inj h) dX4_toDisk_10
  · have h := br_0 h c1
    refine lv_iload_n hx hb dX4_toDisk_4 rfl (lv_at hl 1 rfl) ?_
    refine lv_bipush (v := 8) hx hb dX4_toDisk_5 (by decide) ?_
    refine lv_icmp_lt (tgt := 11) hx hb dX4_toDisk_7 (by decide) (fun c2 => ?_) (fun c2 => ?_)
    · have h := br_1 h c2
      refine lv_aload_n hx hb dX4_toDisk_11 rfl (lv_at hl 0 rfl) ?_
      refine gt_4_0 X wm_49 hP (ms hk 1) dX4_toDisk_12 ?_
      refine lv_iload_n hx hb dX4_toDisk_15 rfl (lv_at hl 1 rfl) ?_
      refine lv_aload_n hx hb dX4_toDisk_16 rfl (lv_at hl 0 rfl) ?_
      refine gt_4_2 X wm_51 hP (ms hk 1) dX4_toDisk_17 ?_
      refine lv_iload_n hx hb dX4_toDisk_20 rfl (lv_at hl 1 rfl) ?_
      obtain ⟨g3, h⟩ := gd_e h
      refine mw_ld X hP (ms hk 4) rfl (inb_vp g3) rfl dX4_toDisk_21 ?_
      obtain ⟨g5, h⟩ := gd_e h
      refine mw_st X hP hS (ms hk 2) (fun _ => rfl) (inb_vp g5) rfl dX4_toDisk_22 (fun H locs M4 eM4 hP hS => ?_)
      have h := bd_e h eM4
      refine lv_aload_n hx hb dX4_toDisk_23 rfl (lv_at hl 0 rfl) ?_
      refine gt_4_1 X wm_50 hP (ms hk 1) dX4_toDisk_24 ?_
      refine lv_iload_n hx hb dX4_toDisk_27 rfl (lv_at hl 1 rfl) ?_
      refine lv_aload_n hx hb dX4_toDisk_28 rfl (lv_at hl 0 rfl) ?_
      refine gt_4_3 X wm_52 hP (ms hk 1) dX4_toDisk_29 ?_
      refine lv_iload_n hx hb dX4_toDisk_32 rfl (lv_at hl 1 rfl) ?_
      obtain ⟨g6, h⟩ := gd_e h
      refine mw_ld X hP (ms hk 5) rfl (inb_vp g6) rfl dX4_toDisk_33 ?_
      obtain ⟨g8, h⟩ := gd_e h
      refine mw_st X hP hS (ms hk 3) (fun _ => rfl) (inb_vp g8) rfl dX4_toDisk_34 (fun H locs M7 eM7 hP hS => ?_)
      have h := bd_e h eM7
      refine lv_aload_n hx hb dX4_toDisk_35 rfl (lv_at hl 0 rfl) ?_
      refine lv_dup hx hb dX4_toDisk_36 rfl ?_
      refine gt_4_6 X wm_128 hP (ms hk 1) dX4_toDisk_37 ?_
      refine lv_iconst (v := 1) hx hb dX4_toDisk_40 (by decide) ?_
      refine lv_iload_n hx hb dX4_toDisk_41 rfl (lv_at hl 1 rfl) ?_
      refine lv_ishl hx hb dX4_toDisk_42 ?_
      refine lv_iconst (v := -1) hx hb dX4_toDisk_43 (by decide) ?_
      refine lv_ixor hx hb dX4_toDisk_44 ?_
      refine lv_iand hx hb dX4_toDisk_45 ?_
      refine pt_4_6 X wm_128 hP hS (ms hk 1) dX4_toDisk_46 (fun H locs M9 eM9 hP hS => ?_)
      have h := bd_e h eM9
      exact mw_vret X hr hlocks hP hS (Option.some.inj h) dX4_toDisk_49
    · have h := br_0 h c2
      exact mw_vret X hr hlocks hP hS (Option.some.inj h) dX4_toDisk_10
/-! SealedGroups$Pages.emptyCache -/
noncomputable def f_X4_emptyCache (k : Nat) (M : Mem) : Option Mem :=
bd (st M k 1 5 (0 : Int32)) (fun M1 =>
bd (st M1 k 1 6 (0 : Int32)) (fun M2 =>
some M2))
theorem pk_X4_emptyCache : Pk "SealedGroups$Pages" yX4_emptyCache cX4_emptyCache 1 none 0 := ⟨wm_502, wm_36, rfl, by decide +kernel⟩
theorem pv_X4_emptyCache : Cond.instanceMethod yX4_emptyCache ∈ wsL_law ∧ Cond.selects "SealedGroups$Pages" yX4_emptyCache yX4_emptyCache ∈ wsL_law := ⟨wm_500, wm_501⟩
set_option maxHeartbeats 4000000 in
set_option maxRecDepth 100000 in
theorem c_X4_emptyCache (l : Launch) (E : En) (hA : AdOK E) {k : Nat} {M : Mem} {M0 : Mem} (hk : k < 7) (h : f_X4_emptyCache k M = some M0) : Met l yX4_emptyCache (Wm yX4_emptyCache cX4_emptyCache 1 none) ({ frames := 0, cells := 0, slots := 0, locals := 0 } : Room) (va_Pc [Value.ref (E.2.2 k 1)] (Wd E M)) (QV E M0) 0 0 (AA E) := by
  refine Met.ofW (cc := cX4_emptyCache) (maxL := 1) (ret := none) (by decide +kernel) rfl ?_
  intro p e s m args below meth c s₁ B hml hv
  obtain ⟨rfl, hP, hK⟩ := hv
  have X : Cx E (AA E) p s m c _ cX4_emptyCache 1 RX4 := ⟨⟨B.exec, B.bytes, hml, findClass_of_methodNamed B.named, fun w hw => atoms_spec (ws := Wm yX4_emptyCache cX4_emptyCache 1 none) B.pre w (List.mem_cons_of_mem _ hw)⟩, hK, hA, fun _ h => h⟩
  have hx := B.exec
  have hb := B.bytes
  have hr := B.returns
  have hlocks := B.notSynchronized
  clear B hml
  have hS : va_S (AA E) s.heap s.heap [] := va_S.rf
  have hl := lv_entry ([Value.ref (E.2.2 k 1)]) (n := 1) (Nat.le_of_ble_eq_true rfl)
  rw [lg_entry_eq]
  generalize (lg_sl ([Value.ref (E.2.2 k 1)]) ++ List.replicate (1 - (lg_sl ([Value.ref (E.2.2 k 1)])).length) Slot.unset).toArray = ls at hl ⊢
  have hl : lv_has ls 1 [(0, .ref (E.2.2 k 1))] := hl
  unfold f_X4_emptyCache at h
  refine lv_aload_n hx hb dX4_emptyCache_0 rfl (lv_at hl 0 rfl) ?_
  refine lv_iconst (v := 0) hx hb dX4_emptyCache_1 (by decide) ?_
  refine pt_4_5 X wm_127 hP hS (ms hk 1) dX4_emptyCache_2 (fun H locs M1 eM1 hP hS => ?_)
  have h := bd_e h eM1
  refine lv_aload_n hx hb dX4_emptyCache_5 rfl (lv_at hl 0 rfl) ?_
  refine lv_iconst (v := 0) hx hb dX4_emptyCache_6 (by decide) ?_
  refine pt_4_6 X wm_128 hP hS (ms hk 1) dX4_emptyCache_7 (fun H locs M2 eM2 hP hS => ?_)
  have h := bd_e h eM2
  exact mw_vret X hr hlocks hP hS (Option.some.inj h) dX4_emptyCache_10
/-! SealedGroups$Pages.highestDiskMark -/
noncomputable def f_X4_highestDiskMark_L4 (k : Nat) (M : Mem) (K4 : Int32 → Int32 → Option Int32) (y1 y2 : Int32) : Option Int32 :=
(if (8 : Int32) ≤ y2 then
some y1
else
gd (inb y2 8) (
bd ((if y1 < (M k 3 (y2).toNatClampNeg) then (M k 3 (y2).toNatClampNeg) else y1)) (fun x3 =>
bd (y2 + (1 : Int32)) (fun x4 =>
K4 x3 x4))))
noncomputable def f_X4_highestDiskMark (k : Nat) (M : Mem) : Option Int32 :=
itr (f_X4_highestDiskMark_L4 k M) (fun _ _ => none) FU (0 : Int32) (0 : Int32)
theorem pk_X4_highestDiskMark : Pk "SealedGroups$Pages" yX4_highestDiskMark cX4_highestDiskMark 3 (some .int) 0 := ⟨wm_493, wm_36, rfl, by decide +kernel⟩
theorem pv_X4_highestDiskMark : Cond.instanceMethod yX4_highestDiskMark ∈ wsL_law ∧ Cond.selects "SealedGroups$Pages" yX4_highestDiskMark yX4_highestDiskMark ∈ wsL_law := ⟨wm_491, wm_492⟩
set_option maxHeartbeats 4000000 in
set_option maxRecDepth 100000 in
theorem c_X4_highestDiskMark (l : Launch) (E : En) (hA : AdOK E) {k : Nat} {M : Mem} {r0 : Int32} (hk : k < 7) (h : f_X4_highestDiskMark k M = some r0) : Met l yX4_highestDiskMark (Wm yX4_highestDiskMark cX4_highestDiskMark 3 (some .int)) ({ frames := 1, cells := 0, slots := 0, locals := 21 } : Room) (va_Pc [Value.ref (E.2.2 k 1)] (Wd E M)) (QI E r0 M) 0 0 (AA E) := by
  refine Met.ofW (cc := cX4_highestDiskMark) (maxL := 3) (ret := (some .int)) (by decide +kernel) rfl ?_
  intro p e s m args below meth c s₁ B hml hv
  obtain ⟨rfl, hP, hK⟩ := hv
  have X : Cx E (AA E) p s m c _ cX4_highestDiskMark 3 RX4 := ⟨⟨B.exec, B.bytes, hml, findClass_of_methodNamed B.named, fun w hw => atoms_spec (ws := Wm yX4_highestDiskMark cX4_highestDiskMark 3 (some .int)) B.pre w (List.mem_cons_of_mem _ hw)⟩, hK, hA, fun _ h => h⟩
  have hx := B.exec
  have hb := B.bytes
  have hr := B.returns
  have hlocks := B.notSynchronized
  clear B hml
  have hS : va_S (AA E) s.heap s.heap [] := va_S.rf
  have hl := lv_entry ([Value.ref (E.2.2 k 1)]) (n := 3) (Nat.le_of_ble_eq_true rfl)
  rw [lg_entry_eq]
  generalize (lg_sl ([Value.ref (E.2.2 k 1)]) ++ List.replicate (3 - (lg_sl ([Value.ref (E.2.2 k 1)])).length) Slot.unset).toArray = ls at hl ⊢
  have hl : lv_has ls 3 [(0, .ref (E.2.2 k 1))] := hl
  have w_L4 : ∀ (n4 : Nat)  (y1 y2 : Int32) (H : Heap) (locs : List Loc) (ls : Array Slot), itr (f_X4_highestDiskMark_L4 k M) (fun _ _ => none) n4 y1 y2 = some r0 → va_P E.1 vwCl (wl E M) H → va_S (AA E) s.heap H locs → lv_has ls 3 [(0, .ref (E.2.2 k 1)), (1, .int y1), (2, .int y2)] → W p l e (headSpec (Wm yX4_highestDiskMark cX4_highestDiskMark 3 (some .int)) ({ frames := 1, cells := 0, slots := 0, locals := 21 } : Room)).room s m ([Value.ref (E.2.2 k 1)] : List Value).toArray below meth c H locs 0 0 (MQ below (QI E r0 M) ([Value.ref (E.2.2 k 1)] : List Value).toArray s 0 0 (AA E)) (F0 m 4 ls []) := by
    intro n4
    induction n4 with
    | zero => intro y1 y2 H locs ls h; exact (nomatch (show (none : Option Int32) = some _ from h))
    | succ n4 ih4 =>
      intro y1 y2 H locs ls h hP hS hl
      have h : f_X4_highestDiskMark_L4 k M (itr (f_X4_highestDiskMark_L4 k M) (fun _ _ => none) n4) y1 y2 = some r0 := h
      unfold f_X4_highestDiskMark_L4 at h
      refine lv_iload_n hx hb dX4_highestDiskMark_4 rfl (lv_at hl 2 rfl) ?_
      refine lv_bipush (v := 8) hx hb dX4_highestDiskMark_5 (by decide) ?_
      refine lv_icmp_ge (tgt := 27) hx hb dX4_highestDiskMark_7 (by decide) (fun c1 => ?_) (fun c1 => ?_)
      · have h := br_1 h c1
        refine lv_iload_n hx hb dX4_highestDiskMark_27 rfl (lv_at hl 1 rfl) ?_
        exact mw_iret X hr hlocks hP hS (Option.some.inj h) rfl dX4_highestDiskMark_28
      · have h := br_0 h c1
        refine lv_iload_n hx hb dX4_highestDiskMark_10 rfl (lv_at hl 1 rfl) ?_
        refine lv_aload_n hx hb dX4_highestDiskMark_11 rfl (lv_at hl 0 rfl) ?_
        refine gt_4_1 X wm_50 hP (ms hk 1) dX4_highestDiskMark_12 ?_
        refine lv_iload_n hx hb dX4_highestDiskMark_15 rfl (lv_at hl 2 rfl) ?_
        obtain ⟨g2, h⟩ := gd_e h
        refine mw_ld X hP (ms hk 3) rfl (inb_vp g2) rfl dX4_highestDiskMark_16 ?_
        refine mw_max X hl.1 ⟨Nat.le_of_ble_eq_true rfl, Nat.le_of_ble_eq_true rfl⟩ ⟨Nat.zero_le _, Nat.zero_le _⟩ (Nat.le_of_ble_eq_true rfl) wm_494 wm_smax wm_iMath wm_cmax dX4_highestDiskMark_17 ?_
        refine lv_topi (fun x3 ex3 => ?_)
        have h := bd_e h ex3
        refine lv_istore_n (lv' := [(1, .int x3), (0, .ref (E.2.2 k 1)), (2, .int y2)]) hx hb dX4_highestDiskMark_20 rfl hl (by decide) rfl (fun ls hl => ?_)
        obtain ⟨x4, ex4⟩ : ∃ y : Int32, y = y2 + (1 : Int32) := ⟨_, rfl⟩
        have h := bd_e h ex4
        refine lv_iinc (v := x4) (lv' := [(2, .int x4), (1, .int x3), (0, .ref (E.2.2 k 1))]) hx hb dX4_highestDiskMark_21 hl (k := 2) rfl (by rw [ex4]; rfl) (by decide) rfl (fun ls hl => ?_)
        refine lv_goto (tgt := 4) hx hb dX4_highestDiskMark_24 (by decide) ?_
        exact ih4 _ _ _ _ _ h hP hS (lv_sub hl [2, 1, 0] rfl)
  unfold f_X4_highestDiskMark at h
  refine lv_iconst (v := 0) hx hb dX4_highestDiskMark_0 (by decide) ?_
  refine lv_istore_n (lv' := [(1, .int (0 : Int32)), (0, .ref (E.2.2 k 1))]) hx hb dX4_highestDiskMark_1 rfl hl (by decide) rfl (fun ls hl => ?_)
  refine lv_iconst (v := 0) hx hb dX4_highestDiskMark_2 (by decide) ?_
  refine lv_istore_n (lv' := [(2, .int (0 : Int32)), (1, .int (0 : Int32)), (0, .ref (E.2.2 k 1))]) hx hb dX4_highestDiskMark_3 rfl hl (by decide) rfl (fun ls hl => ?_)
  exact w_L4 FU _ _ _ _ _ h hP hS (lv_sub hl [2, 1, 0] rfl)
/-! SealedGroups$Pages.tell -/
noncomputable def f_X4_tell (k : Nat) (M : Mem) (a1 a2 : Int32) : Option Int32 :=
(if a1 < 0 then
some (-1000001 : Int32)
else
(if a1 < (8 : Int32) then
(if a2 = (0 : Int32) then
bO (f_X4_valueOf k M a1) (fun v4 =>
some v4)
else if a2 = (1 : Int32) then
bO (f_X4_markOf k M a1) (fun v6 =>
some v6)
else if a2 = (2 : Int32) then
gd (inb a1 8) (
some (M k 2 (a1).toNatClampNeg))
else if a2 = (3 : Int32) then
gd (inb a1 8) (
some (M k 3 (a1).toNatClampNeg))
else if a2 = (4 : Int32) then
some (((M k 1 5) >>> (a1 &&& 31)) &&& (1 : Int32))
else if a2 = (5 : Int32) then
some (((M k 1 6) >>> (a1 &&& 31)) &&& (1 : Int32))
else 
bO (f_X4_startOf k M a1) (fun v13 =>
some v13))
else
some (-1000001 : Int32)))
theorem pk_X4_tell : Pk "SealedGroups$Pages" yX4_tell cX4_tell 3 (some .int) 2 := ⟨wm_125, wm_36, rfl, by decide +kernel⟩
theorem pv_X4_tell : Cond.instanceMethod yX4_tell ∈ wsL_law ∧ Cond.selects "SealedGroups$Pages" yX4_tell yX4_tell ∈ wsL_law := ⟨wm_123, wm_124⟩
set_option maxHeartbeats 4000000 in
set_option maxRecDepth 100000 in
theorem c_X4_tell (l : Launch) (E : En) (hA : AdOK E) {k : Nat} {M : Mem} {a1 a2 : Int32} {r0 : Int32} (hk : k < 7) (h : f_X4_tell k M a1 a2 = some r0) : Met l yX4_tell (Wm yX4_tell cX4_tell 3 (some .int)) ({ frames := 1, cells := 0, slots := 0, locals := 21 } : Room) (va_Pc [Value.ref (E.2.2 k 1), Value.int a1, Value.int a2] (Wd E M)) (QI E r0 M) 0 0 (AA E) := by
  refine Met.ofW (cc := cX4_tell) (maxL := 3) (ret := (some .int)) (by decide +kernel) rfl ?_
  intro p e s m args below meth c s₁ B hml hv
  obtain ⟨rfl, hP, hK⟩ := hv
  have X : Cx E (AA E) p s m c _ cX4_tell 3 RX4 := ⟨⟨B.exec, B.bytes, hml, findClass_of_methodNamed B.named, fun w hw => atoms_spec (ws := Wm yX4_tell cX4_tell 3 (some .int)) B.pre w (List.mem_cons_of_mem _ hw)⟩, hK, hA, fun _ h => h⟩
  have hx := B.exec
  have hb := B.bytes
  have hr := B.returns
  have hlocks := B.notSynchronized
  clear B hml
  have hS : va_S (AA E) s.heap s.heap [] := va_S.rf
  have hl := lv_entry ([Value.ref (E.2.2 k 1), Value.int a1, Value.int a2]) (n := 3) (Nat.le_of_ble_eq_true rfl)
  rw [lg_entry_eq]
  generalize (lg_sl ([Value.ref (E.2.2 k 1), Value.int a1, Value.int a2]) ++ List.replicate (3 - (lg_sl ([Value.ref (E.2.2 k 1), Value.int a1, Value.int a2])).length) Slot.unset).toArray = ls at hl ⊢
  have hl : lv_has ls 3 [(0, .ref (E.2.2 k 1)), (1, .int a1), (2, .int a2)] := hl
  unfold f_X4_tell at h
  refine lv_iload_n hx hb dX4_tell_0 rfl (lv_at hl 1 rfl) ?_
  refine lv_if_lt (tgt := 10) hx hb dX4_tell_1 (by decide) (fun c1 => ?_) (fun c1 => ?_)
  · have h := br_1 h c1
    refine lv_ldc hx hb X.1.2.2.2.1 (X.1.2.2.2.2 _ wm_126) dX4_tell_10 ?_
    exact mw_iret X hr hlocks hP hS (Option.some.inj h) rfl dX4_tell_12
  · have h := br_0 h c1
    refine lv_iload_n hx hb dX4_tell_4 rfl (lv_at hl 1 rfl) ?_
    refine lv_bipush (v := 8) hx hb dX4_tell_5 (by decide) ?_
    refine lv_icmp_lt (tgt := 13) hx hb dX4_tell_7 (by decide) (fun c2 => ?_) (fun c2 => ?_)
    · have h := br_1 h c2
      refine lv_iload_n hx hb dX4_tell_13 rfl (lv_at hl 2 rfl) ?_
      by_cases c3 : a2 = (0 : Int32)
      · have h := br_1 h c3
        refine lv_tableIn (tgt := 52) hx hb dX4_tell_14 (by rw [c3] <;> decide) (by rw [c3] <;> decide) (by rw [c3] <;> rfl) (by decide) ?_
        refine lv_aload_n hx hb dX4_tell_52 rfl (lv_at hl 0 rfl) ?_
        refine lv_iload_n hx hb dX4_tell_53 rfl (lv_at hl 1 rfl) ?_
        obtain ⟨v4, hv4, h⟩ := bO_e h
        refine mw_callVi X (c_X4_valueOf l E hA hk hv4) pk_X4_valueOf pv_X4_valueOf wm_129 ⟨Nat.le_of_ble_eq_true rfl, Nat.le_of_ble_eq_true rfl⟩ ⟨rfl, rfl⟩ hP hS (ms hk 1) rfl rfl rfl rfl hl.1 (Nat.le_of_ble_eq_true rfl) ⟨Nat.zero_le _, Nat.zero_le _⟩ rfl dX4_tell_54 (fun H locs hP hS => ?_)
        exact mw_iret X hr hlocks hP hS (Option.some.inj h) rfl dX4_tell_57
      have h := br_0 h c3
      by_cases c5 : a2 = (1 : Int32)
      · have h := br_1 h c5
        refine lv_tableIn (tgt := 58) hx hb dX4_tell_14 (by rw [c5] <;> decide) (by rw [c5] <;> decide) (by rw [c5] <;> rfl) (by decide) ?_
        refine lv_aload_n hx hb dX4_tell_58 rfl (lv_at hl 0 rfl) ?_
        refine lv_iload_n hx hb dX4_tell_59 rfl (lv_at hl 1 rfl) ?_
        obtain ⟨v6, hv6, h⟩ := bO_e h
        refine mw_callVi X (c_X4_markOf l E hA hk hv6) pk_X4_markOf pv_X4_markOf wm_133 ⟨Nat.le_of_ble_eq_true rfl, Nat.le_of_ble_eq_true rfl⟩ ⟨rfl, rfl⟩ hP hS (ms hk 1) rfl rfl rfl rfl hl.1 (Nat.le_of_ble_eq_true rfl) ⟨Nat.zero_le _, Nat.zero_le _⟩ rfl dX4_tell_60 (fun H locs hP hS => ?_)
        exact mw_iret X hr hlocks hP hS (Option.some.inj h) rfl dX4_tell_63
      have h := br_0 h c5
      by_cases c7 : a2 = (2 : Int32)
      · have h := br_1 h c7
        refine lv_tableIn (tgt := 64) hx hb dX4_tell_14 (by rw [c7] <;> decide) (by rw [c7] <;> decide) (by rw [c7] <;> rfl) (by decide) ?_
        refine lv_aload_n hx hb dX4_tell_64 rfl (lv_at hl 0 rfl) ?_
        refine gt_4_0 X wm_49 hP (ms hk 1) dX4_tell_65 ?_
        refine lv_iload_n hx hb dX4_tell_68 rfl (lv_at hl 1 rfl) ?_
        obtain ⟨g8, h⟩ := gd_e h
        refine mw_ld X hP (ms hk 2) rfl (inb_vp g8) rfl dX4_tell_69 ?_
        exact mw_iret X hr hlocks hP hS (Option.some.inj h) rfl dX4_tell_70
      have h := br_0 h c7
      by_cases c9 : a2 = (3 : Int32)
      · have h := br_1 h c9
        refine lv_tableIn (tgt := 71) hx hb dX4_tell_14 (by rw [c9] <;> decide) (by rw [c9] <;> decide) (by rw [c9] <;> rfl) (by decide) ?_
        refine lv_aload_n hx hb dX4_tell_71 rfl (lv_at hl 0 rfl) ?_
        refine gt_4_1 X wm_50 hP (ms hk 1) dX4_tell_72 ?_
        refine lv_iload_n hx hb dX4_tell_75 rfl (lv_at hl 1 rfl) ?_
        obtain ⟨g10, h⟩ := gd_e h
        refine mw_ld X hP (ms hk 3) rfl (inb_vp g10) rfl dX4_tell_76 ?_
        exact mw_iret X hr hlocks hP hS (Option.some.inj h) rfl dX4_tell_77
      have h := br_0 h c9
      by_cases c11 : a2 = (4 : Int32)
      · have h := br_1 h c11
        refine lv_tableIn (tgt := 78) hx hb dX4_tell_14 (by rw [c11] <;> decide) (by rw [c11] <;> decide) (by rw [c11] <;> rfl) (by decide) ?_
        refine lv_aload_n hx hb dX4_tell_78 rfl (lv_at hl 0 rfl) ?_
        refine gt_4_5 X wm_127 hP (ms hk 1) dX4_tell_79 ?_
        refine lv_iload_n hx hb dX4_tell_82 rfl (lv_at hl 1 rfl) ?_
        refine lv_ishr hx hb dX4_tell_83 ?_
        refine lv_iconst (v := 1) hx hb dX4_tell_84 (by decide) ?_
        refine lv_iand hx hb dX4_tell_85 ?_
        exact mw_iret X hr hlocks hP hS (Option.some.inj h) rfl dX4_tell_86
      have h := br_0 h c11
      by_cases c12 : a2 = (5 : Int32)
      · have h := br_1 h c12
        refine lv_tableIn (tgt := 87) hx hb dX4_tell_14 (by rw [c12] <;> decide) (by rw [c12] <;> decide) (by rw [c12] <;> rfl) (by decide) ?_
        refine lv_aload_n hx hb dX4_tell_87 rfl (lv_at hl 0 rfl) ?_
        refine gt_4_6 X wm_128 hP (ms hk 1) dX4_tell_88 ?_
        refine lv_iload_n hx hb dX4_tell_91 rfl (lv_at hl 1 rfl) ?_
        refine lv_ishr hx hb dX4_tell_92 ?_
        refine lv_iconst (v := 1) hx hb dX4_tell_93 (by decide) ?_
        refine lv_iand hx hb dX4_tell_94 ?_
        exact mw_iret X hr hlocks hP hS (Option.some.inj h) rfl dX4_tell_95
      have h := br_0 h c12
      have qc3 := sw_ne c3 (v := 0) rfl
      have qc5 := sw_ne c5 (v := 1) rfl
      have qc7 := sw_ne c7 (v := 2) rfl
      have qc9 := sw_ne c9 (v := 3) rfl
      have qc11 := sw_ne c11 (v := 4) rfl
      have qc12 := sw_ne c12 (v := 5) rfl
      refine lv_tableOut (tgt := 96) hx hb dX4_tell_14 (by omega) (by decide) ?_
      refine lv_aload_n hx hb dX4_tell_96 rfl (lv_at hl 0 rfl) ?_
      refine lv_iload_n hx hb dX4_tell_97 rfl (lv_at hl 1 rfl) ?_
      obtain ⟨v13, hv13, h⟩ := bO_e h
      refine mw_callVi X (c_X4_startOf l E hA hk hv13) pk_X4_startOf pv_X4_startOf wm_137 ⟨Nat.le_of_ble_eq_true rfl, Nat.le_of_ble_eq_true rfl⟩ ⟨rfl, rfl⟩ hP hS (ms hk 1) rfl rfl rfl rfl hl.1 (Nat.le_of_ble_eq_true rfl) ⟨Nat.zero_le _, Nat.zero_le _⟩ rfl dX4_tell_98 (fun H locs hP hS => ?_)
      exact mw_iret X hr hlocks hP hS (Option.some.inj h) rfl dX4_tell_101
    · have h := br_0 h c2
      refine lv_ldc hx hb X.1.2.2.2.1 (X.1.2.2.2.2 _ wm_126) dX4_tell_10 ?_
      exact mw_iret X hr hlocks hP hS (Option.some.inj h) rfl dX4_tell_12
