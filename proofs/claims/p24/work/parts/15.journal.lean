/-! SealedGroups$Journal.copyFrom -/
noncomputable def f_X2_copyFrom (k : Nat) (j : Nat) (M : Mem) : Option Mem :=
bd (sr M k 12 (va_cpy (M j 12) (M k 12) 0 0 128)) (fun M1 =>
bd (sr M1 k 13 (va_cpy (M1 j 13) (M1 k 13) 0 0 128)) (fun M2 =>
bd (sr M2 k 14 (va_cpy (M2 j 14) (M2 k 14) 0 0 128)) (fun M3 =>
bd (sr M3 k 15 (va_cpy (M3 j 15) (M3 k 15) 0 0 128)) (fun M4 =>
bd (sr M4 k 16 (va_cpy (M4 j 16) (M4 k 16) 0 0 128)) (fun M5 =>
bd (sr M5 k 17 (va_cpy (M5 j 17) (M5 k 17) 0 0 128)) (fun M6 =>
bd (sr M6 k 18 (va_cpy (M6 j 18) (M6 k 18) 0 0 8)) (fun M7 =>
bd (st M7 k 11 7 (M7 j 11 7)) (fun M8 =>
bd (st M8 k 11 8 (M8 j 11 8)) (fun M9 =>
bd (st M9 k 11 9 (M9 j 11 9)) (fun M10 =>
bd (st M10 k 11 10 (M10 j 11 10)) (fun M11 =>
bd (st M11 k 11 11 (M11 j 11 11)) (fun M12 =>
some M12))))))))))))
theorem pk_X2_copyFrom : Pk "SealedGroups$Journal" yX2_copyFrom cX2_copyFrom 2 none 1 := ⟨wm_269, wm_44, rfl, by decide +kernel⟩
theorem pv_X2_copyFrom : Cond.instanceMethod yX2_copyFrom ∈ wsL_law ∧ Cond.selects "SealedGroups$Journal" yX2_copyFrom yX2_copyFrom ∈ wsL_law := ⟨wm_267, wm_268⟩
set_option maxHeartbeats 4000000 in
set_option maxRecDepth 100000 in
theorem c_X2_copyFrom (l : Launch) (E : En) (hA : AdOK E) {k j : Nat} {M : Mem} {M0 : Mem} (hk : k < 7) (hj : j < 7) (h : f_X2_copyFrom k j M = some M0) : Met l yX2_copyFrom (Wm yX2_copyFrom cX2_copyFrom 2 none) ({ frames := 1, cells := 0, slots := 0, locals := 26 } : Room) (va_Pc [Value.ref (E.2.2 k 11), Value.ref (E.2.2 j 11)] (Wd E M)) (QV E M0) 0 0 (AA E) := by
  refine Met.ofW (cc := cX2_copyFrom) (maxL := 2) (ret := none) (by decide +kernel) rfl ?_
  intro p e s m args below meth c s₁ B hml hv
  obtain ⟨rfl, hP, hK⟩ := hv
  have X : Cx E (AA E) p s m c _ cX2_copyFrom 2 RX2 := ⟨⟨B.exec, B.bytes, hml, findClass_of_methodNamed B.named, fun w hw => atoms_spec (ws := Wm yX2_copyFrom cX2_copyFrom 2 none) B.pre w (List.mem_cons_of_mem _ hw)⟩, hK, hA, fun _ h => h⟩
  have hx := B.exec
  have hb := B.bytes
  have hr := B.returns
  have hlocks := B.notSynchronized
  clear B hml
  have hS : va_S (AA E) s.heap s.heap [] := va_S.rf
  have hl := lv_entry ([Value.ref (E.2.2 k 11), Value.ref (E.2.2 j 11)]) (n := 2) (Nat.le_of_ble_eq_true rfl)
  rw [lg_entry_eq]
  generalize (lg_sl ([Value.ref (E.2.2 k 11), Value.ref (E.2.2 j 11)]) ++ List.replicate (2 - (lg_sl ([Value.ref (E.2.2 k 11), Value.ref (E.2.2 j 11)])).length) Slot.unset).toArray = ls at hl ⊢
  have hl : lv_has ls 2 [(0, .ref (E.2.2 k 11)), (1, .ref (E.2.2 j 11))] := hl
  unfold f_X2_copyFrom at h
  refine lv_aload_n hx hb dX2_copyFrom_0 rfl (lv_at hl 1 rfl) ?_
  refine gt_2_0 X wm_63 hP (ms hj 11) dX2_copyFrom_1 ?_
  refine lv_iconst (v := 0) hx hb dX2_copyFrom_4 (by decide) ?_
  refine lv_aload_n hx hb dX2_copyFrom_5 rfl (lv_at hl 0 rfl) ?_
  refine gt_2_0 X wm_63 hP (ms hk 11) dX2_copyFrom_6 ?_
  refine lv_iconst (v := 0) hx hb dX2_copyFrom_9 (by decide) ?_
  refine lv_sipush (v := 128) hx hb dX2_copyFrom_10 (by decide) ?_
  refine mw_cpy X hP hS hl.1 (ms hj 12) rfl (ms hk 12) (fun _ => rfl) (by decide) (by decide) (by decide) (by decide) (by decide) ⟨Nat.le_of_ble_eq_true rfl, Nat.le_of_ble_eq_true rfl⟩ (Nat.le_of_ble_eq_true rfl) wm_270 wm_ncpy wm_scpy wm_iSys dX2_copyFrom_13 (fun H locs M1 eM1 hP hS => ?_)
  have h := bd_e h (eM1.trans rfl)
  refine lv_aload_n hx hb dX2_copyFrom_16 rfl (lv_at hl 1 rfl) ?_
  refine gt_2_1 X wm_64 hP (ms hj 11) dX2_copyFrom_17 ?_
  refine lv_iconst (v := 0) hx hb dX2_copyFrom_20 (by decide) ?_
  refine lv_aload_n hx hb dX2_copyFrom_21 rfl (lv_at hl 0 rfl) ?_
  refine gt_2_1 X wm_64 hP (ms hk 11) dX2_copyFrom_22 ?_
  refine lv_iconst (v := 0) hx hb dX2_copyFrom_25 (by decide) ?_
  refine lv_sipush (v := 128) hx hb dX2_copyFrom_26 (by decide) ?_
  refine mw_cpy X hP hS hl.1 (ms hj 13) rfl (ms hk 13) (fun _ => rfl) (by decide) (by decide) (by decide) (by decide) (by decide) ⟨Nat.le_of_ble_eq_true rfl, Nat.le_of_ble_eq_true rfl⟩ (Nat.le_of_ble_eq_true rfl) wm_270 wm_ncpy wm_scpy wm_iSys dX2_copyFrom_29 (fun H locs M2 eM2 hP hS => ?_)
  have h := bd_e h (eM2.trans rfl)
  refine lv_aload_n hx hb dX2_copyFrom_32 rfl (lv_at hl 1 rfl) ?_
  refine gt_2_2 X wm_65 hP (ms hj 11) dX2_copyFrom_33 ?_
  refine lv_iconst (v := 0) hx hb dX2_copyFrom_36 (by decide) ?_
  refine lv_aload_n hx hb dX2_copyFrom_37 rfl (lv_at hl 0 rfl) ?_
  refine gt_2_2 X wm_65 hP (ms hk 11) dX2_copyFrom_38 ?_
  refine lv_iconst (v := 0) hx hb dX2_copyFrom_41 (by decide) ?_
  refine lv_sipush (v := 128) hx hb dX2_copyFrom_42 (by decide) ?_
  refine mw_cpy X hP hS hl.1 (ms hj 14) rfl (ms hk 14) (fun _ => rfl) (by decide) (by decide) (by decide) (by decide) (by decide) ⟨Nat.le_of_ble_eq_true rfl, Nat.le_of_ble_eq_true rfl⟩ (Nat.le_of_ble_eq_true rfl) wm_270 wm_ncpy wm_scpy wm_iSys dX2_copyFrom_45 (fun H locs M3 eM3 hP hS => ?_)
  have h := bd_e h (eM3.trans rfl)
  refine lv_aload_n hx hb dX2_copyFrom_48 rfl (lv_at hl 1 rfl) ?_
  refine gt_2_3 X wm_66 hP (ms hj 11) dX2_copyFrom_49 ?_
  refine lv_iconst (v := 0) hx hb dX2_copyFrom_52 (by decide) ?_
  refine lv_aload_n hx hb dX2_copyFrom_53 rfl (lv_at hl 0 rfl) ?_
  refine gt_2_3 X wm_66 hP (ms hk 11) dX2_copyFrom_54 ?_
  refine lv_iconst (v := 0) hx hb dX2_copyFrom_57 (by decide) ?_
  refine lv_sipush (v := 128) hx hb dX2_copyFrom_58 (by decide) ?_
  refine mw_cpy X hP hS hl.1 (ms hj 15) rfl (ms hk 15) (fun _ => rfl) (by decide) (by decide) (by decide) (by decide) (by decide) ⟨Nat.le_of_ble_eq_true rfl, Nat.le_of_ble_eq_true rfl⟩ (Nat.le_of_ble_eq_true rfl) wm_270 wm_ncpy wm_scpy wm_iSys dX2_copyFrom_61 (fun H locs M4 eM4 hP hS => ?_)
  have h := bd_e h (eM4.trans rfl)
  refine lv_aload_n hx hb dX2_copyFrom_64 rfl (lv_at hl 1 rfl) ?_
  refine gt_2_4 X wm_67 hP (ms hj 11) dX2_copyFrom_65 ?_
  refine lv_iconst (v := 0) hx hb dX2_copyFrom_68 (by decide) ?_
  refine lv_aload_n hx hb dX2_copyFrom_69 rfl (lv_at hl 0 rfl) ?_
  refine gt_2_4 X wm_67 hP (ms hk 11) dX2_copyFrom_70 ?_
  refine lv_iconst (v := 0) hx hb dX2_copyFrom_73 (by decide) ?_
  refine lv_sipush (v := 128) hx hb dX2_copyFrom_74 (by decide) ?_
  refine mw_cpy X hP hS hl.1 (ms hj 16) rfl (ms hk 16) (fun _ => rfl) (by decide) (by decide) (by decide) (by decide) (by decide) ⟨Nat.le_of_ble_eq_true rfl, Nat.le_of_ble_eq_true rfl⟩ (Nat.le_of_ble_eq_true rfl) wm_270 wm_ncpy wm_scpy wm_iSys dX2_copyFrom_77 (fun H locs M5 eM5 hP hS => ?_)
  have h := bd_e h (eM5.trans rfl)
  refine lv_aload_n hx hb dX2_copyFrom_80 rfl (lv_at hl 1 rfl) ?_
  refine gt_2_5 X wm_68 hP (ms hj 11) dX2_copyFrom_81 ?_
  refine lv_iconst (v := 0) hx hb dX2_copyFrom_84 (by decide) ?_
  refine lv_aload_n hx hb dX2_copyFrom_85 rfl (lv_at hl 0 rfl) ?_
  refine gt_2_5 X wm_68 hP (ms hk 11) dX2_copyFrom_86 ?_
  refine lv_iconst (v := 0) hx hb dX2_copyFrom_89 (by decide) ?_
  refine lv_sipush (v := 128) hx hb dX2_copyFrom_90 (by decide) ?_
  refine mw_cpy X hP hS hl.1 (ms hj 17) rfl (ms hk 17) (fun _ => rfl) (by decide) (by decide) (by decide) (by decide) (by decide) ⟨Nat.le_of_ble_eq_true rfl, Nat.le_of_ble_eq_true rfl⟩ (Nat.le_of_ble_eq_true rfl) wm_270 wm_ncpy wm_scpy wm_iSys dX2_copyFrom_93 (fun H locs M6 eM6 hP hS => ?_)
  have h := bd_e h (eM6.trans rfl)
  refine lv_aload_n hx hb dX2_copyFrom_96 rfl (lv_at hl 1 rfl) ?_
  refine gt_2_6 X wm_69 hP (ms hj 11) dX2_copyFrom_97 ?_
  refine lv_iconst (v := 0) hx hb dX2_copyFrom_100 (by decide) ?_
  refine lv_aload_n hx hb dX2_copyFrom_101 rfl (lv_at hl 0 rfl) ?_
  refine gt_2_6 X wm_69 hP (ms hk 11) dX2_copyFrom_102 ?_
  refine lv_iconst (v := 0) hx hb dX2_copyFrom_105 (by decide) ?_
  refine lv_bipush (v := 8) hx hb dX2_copyFrom_106 (by decide) ?_
  refine mw_cpy X hP hS hl.1 (ms hj 18) rfl (ms hk 18) (fun _ => rfl) (by decide) (by decide) (by decide) (by decide) (by decide) ⟨Nat.le_of_ble_eq_true rfl, Nat.le_of_ble_eq_true rfl⟩ (Nat.le_of_ble_eq_true rfl) wm_270 wm_ncpy wm_scpy wm_iSys dX2_copyFrom_108 (fun H locs M7 eM7 hP hS => ?_)
  have h := bd_e h (eM7.trans rfl)
  refine lv_aload_n hx hb dX2_copyFrom_111 rfl (lv_at hl 0 rfl) ?_
  refine lv_aload_n hx hb dX2_copyFrom_112 rfl (lv_at hl 1 rfl) ?_
  refine gt_2_7 X wm_70 hP (ms hj 11) dX2_copyFrom_113 ?_
  refine pt_2_7 X wm_70 hP hS (ms hk 11) dX2_copyFrom_116 (fun H locs M8 eM8 hP hS => ?_)
  have h := bd_e h eM8
  refine lv_aload_n hx hb dX2_copyFrom_119 rfl (lv_at hl 0 rfl) ?_
  refine lv_aload_n hx hb dX2_copyFrom_120 rfl (lv_at hl 1 rfl) ?_
  refine gt_2_8 X wm_116 hP (ms hj 11) dX2_copyFrom_121 ?_
  refine pt_2_8 X wm_116 hP hS (ms hk 11) dX2_copyFrom_124 (fun H locs M9 eM9 hP hS => ?_)
  have h := bd_e h eM9
  refine lv_aload_n hx hb dX2_copyFrom_127 rfl (lv_at hl 0 rfl) ?_
  refine lv_aload_n hx hb dX2_copyFrom_128 rfl (lv_at hl 1 rfl) ?_
  refine gt_2_9 X wm_186 hP (ms hj 11) dX2_copyFrom_129 ?_
  refine pt_2_9 X wm_186 hP hS (ms hk 11) dX2_copyFrom_132 (fun H locs M10 eM10 hP hS => ?_)
  have h := bd_e h eM10
  refine lv_aload_n hx hb dX2_copyFrom_135 rfl (lv_at hl 0 rfl) ?_
  refine lv_aload_n hx hb dX2_copyFrom_136 rfl (lv_at hl 1 rfl) ?_
  refine gt_2_10 X wm_206 hP (ms hj 11) dX2_copyFrom_137 ?_
  refine pt_2_10 X wm_206 hP hS (ms hk 11) dX2_copyFrom_140 (fun H locs M11 eM11 hP hS => ?_)
  have h := bd_e h eM11
  refine lv_aload_n hx hb dX2_copyFrom_143 rfl (lv_at hl 0 rfl) ?_
  refine lv_aload_n hx hb dX2_copyFrom_144 rfl (lv_at hl 1 rfl) ?_
  refine gt_2_11 X wm_216 hP (ms hj 11) dX2_copyFrom_145 ?_
  refine pt_2_11 X wm_216 hP hS (ms hk 11) dX2_copyFrom_148 (fun H locs M12 eM12 hP hS => ?_)
  have h := bd_e h eM12
  exact mw_vret X hr hlocks hP hS (Option.some.inj h) dX2_copyFrom_151
/-! SealedGroups$Journal.isFull -/
noncomputable def f_X2_isFull (k : Nat) (M : Mem) : Option Int32 :=
(if (M k 11 8) < (60 : Int32) then
some (0 : Int32)
else
some (1 : Int32))
theorem pk_X2_isFull : Pk "SealedGroups$Journal" yX2_isFull cX2_isFull 1 (some .boolean) 0 := ⟨wm_387, wm_44, rfl, by decide +kernel⟩
theorem pv_X2_isFull : Cond.instanceMethod yX2_isFull ∈ wsL_law ∧ Cond.selects "SealedGroups$Journal" yX2_isFull yX2_isFull ∈ wsL_law := ⟨wm_385, wm_386⟩
set_option maxHeartbeats 4000000 in
set_option maxRecDepth 100000 in
theorem c_X2_isFull (l : Launch) (E : En) (hA : AdOK E) {k : Nat} {M : Mem} {r0 : Int32} (hk : k < 7) (h : f_X2_isFull k M = some r0) : Met l yX2_isFull (Wm yX2_isFull cX2_isFull 1 (some .boolean)) ({ frames := 0, cells := 0, slots := 0, locals := 0 } : Room) (va_Pc [Value.ref (E.2.2 k 11)] (Wd E M)) (QI E r0 M) 0 0 (AA E) := by
  refine Met.ofW (cc := cX2_isFull) (maxL := 1) (ret := (some .boolean)) (by decide +kernel) rfl ?_
  intro p e s m args below meth c s₁ B hml hv
  obtain ⟨rfl, hP, hK⟩ := hv
  have X : Cx E (AA E) p s m c _ cX2_isFull 1 RX2 := ⟨⟨B.exec, B.bytes, hml, findClass_of_methodNamed B.named, fun w hw => atoms_spec (ws := Wm yX2_isFull cX2_isFull 1 (some .boolean)) B.pre w (List.mem_cons_of_mem _ hw)⟩, hK, hA, fun _ h => h⟩
  have hx := B.exec
  have hb := B.bytes
  have hr := B.returns
  have hlocks := B.notSynchronized
  clear B hml
  have hS : va_S (AA E) s.heap s.heap [] := va_S.rf
  have hl := lv_entry ([Value.ref (E.2.2 k 11)]) (n := 1) (Nat.le_of_ble_eq_true rfl)
  rw [lg_entry_eq]
  generalize (lg_sl ([Value.ref (E.2.2 k 11)]) ++ List.replicate (1 - (lg_sl ([Value.ref (E.2.2 k 11)])).length) Slot.unset).toArray = ls at hl ⊢
  have hl : lv_has ls 1 [(0, .ref (E.2.2 k 11))] := hl
  unfold f_X2_isFull at h
  refine lv_aload_n hx hb dX2_isFull_0 rfl (lv_at hl 0 rfl) ?_
  refine gt_2_8 X wm_116 hP (ms hk 11) dX2_isFull_1 ?_
  refine lv_bipush (v := 60) hx hb dX2_isFull_4 (by decide) ?_
  refine lv_icmp_lt (tgt := 13) hx hb dX2_isFull_6 (by decide) (fun c1 => ?_) (fun c1 => ?_)
  · have h := br_1 h c1
    refine lv_iconst (v := 0) hx hb dX2_isFull_13 (by decide) ?_
    exact mw_zret X hr hlocks hP hS (by decide) (Option.some.inj h) rfl dX2_isFull_14
  · have h := br_0 h c1
    refine lv_iconst (v := 1) hx hb dX2_isFull_9 (by decide) ?_
    refine lv_goto (tgt := 14) hx hb dX2_isFull_10 (by decide) ?_
    exact mw_zret X hr hlocks hP hS (by decide) (Option.some.inj h) rfl dX2_isFull_14
/-! SealedGroups$Journal.last -/
noncomputable def f_X2_last (k : Nat) (M : Mem) : Option Int32 :=
(if (M k 11 8) = 0 then
some (0 : Int32)
else
some (((M k 11 7) + (M k 11 8)) - (1 : Int32)))
theorem pk_X2_last : Pk "SealedGroups$Journal" yX2_last cX2_last 1 (some .int) 0 := ⟨wm_211, wm_44, rfl, by decide +kernel⟩
theorem pv_X2_last : Cond.instanceMethod yX2_last ∈ wsL_law ∧ Cond.selects "SealedGroups$Journal" yX2_last yX2_last ∈ wsL_law := ⟨wm_209, wm_210⟩
set_option maxHeartbeats 4000000 in
set_option maxRecDepth 100000 in
theorem c_X2_last (l : Launch) (E : En) (hA : AdOK E) {k : Nat} {M : Mem} {r0 : Int32} (hk : k < 7) (h : f_X2_last k M = some r0) : Met l yX2_last (Wm yX2_last cX2_last 1 (some .int)) ({ frames := 0, cells := 0, slots := 0, locals := 0 } : Room) (va_Pc [Value.ref (E.2.2 k 11)] (Wd E M)) (QI E r0 M) 0 0 (AA E) := by
  refine Met.ofW (cc := cX2_last) (maxL := 1) (ret := (some .int)) (by decide +kernel) rfl ?_
  intro p e s m args below meth c s₁ B hml hv
  obtain ⟨rfl, hP, hK⟩ := hv
  have X : Cx E (AA E) p s m c _ cX2_last 1 RX2 := ⟨⟨B.exec, B.bytes, hml, findClass_of_methodNamed B.named, fun w hw => atoms_spec (ws := Wm yX2_last cX2_last 1 (some .int)) B.pre w (List.mem_cons_of_mem _ hw)⟩, hK, hA, fun _ h => h⟩
  have hx := B.exec
  have hb := B.bytes
  have hr := B.returns
  have hlocks := B.notSynchronized
  clear B hml
  have hS : va_S (AA E) s.heap s.heap [] := va_S.rf
  have hl := lv_entry ([Value.ref (E.2.2 k 11)]) (n := 1) (Nat.le_of_ble_eq_true rfl)
  rw [lg_entry_eq]
  generalize (lg_sl ([Value.ref (E.2.2 k 11)]) ++ List.replicate (1 - (lg_sl ([Value.ref (E.2.2 k 11)])).length) Slot.unset).toArray = ls at hl ⊢
  have hl : lv_has ls 1 [(0, .ref (E.2.2 k 11))] := hl
  unfold f_X2_last at h
  refine lv_aload_n hx hb dX2_last_0 rfl (lv_at hl 0 rfl) ?_
  refine gt_2_8 X wm_116 hP (ms hk 11) dX2_last_1 ?_
  refine lv_if_ne (tgt := 11) hx hb dX2_last_4 (by decide) (fun c1 => ?_) (fun c1 => ?_)
  · have h := br_0 h c1
    refine lv_aload_n hx hb dX2_last_11 rfl (lv_at hl 0 rfl) ?_
    refine gt_2_7 X wm_70 hP (ms hk 11) dX2_last_12 ?_
    refine lv_aload_n hx hb dX2_last_15 rfl (lv_at hl 0 rfl) ?_
    refine gt_2_8 X wm_116 hP (ms hk 11) dX2_last_16 ?_
    refine lv_iadd hx hb dX2_last_19 ?_
    refine lv_iconst (v := 1) hx hb dX2_last_20 (by decide) ?_
    refine lv_isub hx hb dX2_last_21 ?_
    exact mw_iret X hr hlocks hP hS (Option.some.inj h) rfl dX2_last_22
  · have h := br_1 h c1
    refine lv_iconst (v := 0) hx hb dX2_last_7 (by decide) ?_
    refine lv_goto (tgt := 22) hx hb dX2_last_8 (by decide) ?_
    exact mw_iret X hr hlocks hP hS (Option.some.inj h) rfl dX2_last_22
/-! SealedGroups$Journal.has -/
noncomputable def f_X2_has (k : Nat) (M : Mem) (a1 : Int32) : Option Int32 :=
(if a1 < (M k 11 7) then
some (0 : Int32)
else
(if (M k 11 8) ≤ (a1 - (M k 11 7)) then
some (0 : Int32)
else
(if (128 : Int32) ≤ (a1 - (M k 11 7)) then
some (0 : Int32)
else
some (1 : Int32))))
theorem pk_X2_has : Pk "SealedGroups$Journal" yX2_has cX2_has 2 (some .boolean) 1 := ⟨wm_190, wm_44, rfl, by decide +kernel⟩
theorem pv_X2_has : Cond.instanceMethod yX2_has ∈ wsL_law ∧ Cond.selects "SealedGroups$Journal" yX2_has yX2_has ∈ wsL_law := ⟨wm_188, wm_189⟩
set_option maxHeartbeats 4000000 in
set_option maxRecDepth 100000 in
theorem c_X2_has (l : Launch) (E : En) (hA : AdOK E) {k : Nat} {M : Mem} {a1 : Int32} {r0 : Int32} (hk : k < 7) (h : f_X2_has k M a1 = some r0) : Met l yX2_has (Wm yX2_has cX2_has 2 (some .boolean)) ({ frames := 0, cells := 0, slots := 0, locals := 0 } : Room) (va_Pc [Value.ref (E.2.2 k 11), Value.int a1] (Wd E M)) (QI E r0 M) 0 0 (AA E) := by
  refine Met.ofW (cc := cX2_has) (maxL := 2) (ret := (some .boolean)) (by decide +kernel) rfl ?_
  intro p e s m args below meth c s₁ B hml hv
  obtain ⟨rfl, hP, hK⟩ := hv
  have X : Cx E (AA E) p s m c _ cX2_has 2 RX2 := ⟨⟨B.exec, B.bytes, hml, findClass_of_methodNamed B.named, fun w hw => atoms_spec (ws := Wm yX2_has cX2_has 2 (some .boolean)) B.pre w (List.mem_cons_of_mem _ hw)⟩, hK, hA, fun _ h => h⟩
  have hx := B.exec
  have hb := B.bytes
  have hr := B.returns
  have hlocks := B.notSynchronized
  clear B hml
  have hS : va_S (AA E) s.heap s.heap [] := va_S.rf
  have hl := lv_entry ([Value.ref (E.2.2 k 11), Value.int a1]) (n := 2) (Nat.le_of_ble_eq_true rfl)
  rw [lg_entry_eq]
  generalize (lg_sl ([Value.ref (E.2.2 k 11), Value.int a1]) ++ List.replicate (2 - (lg_sl ([Value.ref (E.2.2 k 11), Value.int a1])).length) Slot.unset).toArray = ls at hl ⊢
  have hl : lv_has ls 2 [(0, .ref (E.2.2 k 11)), (1, .int a1)] := hl
  unfold f_X2_has at h
  refine lv_iload_n hx hb dX2_has_0 rfl (lv_at hl 1 rfl) ?_
  refine lv_aload_n hx hb dX2_has_1 rfl (lv_at hl 0 rfl) ?_
  refine gt_2_7 X wm_70 hP (ms hk 11) dX2_has_2 ?_
  refine lv_icmp_lt (tgt := 37) hx hb dX2_has_5 (by decide) (fun c1 => ?_) (fun c1 => ?_)
  · have h := br_1 h c1
    refine lv_iconst (v := 0) hx hb dX2_has_37 (by decide) ?_
    exact mw_zret X hr hlocks hP hS (by decide) (Option.some.inj h) rfl dX2_has_38
  · have h := br_0 h c1
    refine lv_iload_n hx hb dX2_has_8 rfl (lv_at hl 1 rfl) ?_
    refine lv_aload_n hx hb dX2_has_9 rfl (lv_at hl 0 rfl) ?_
    refine gt_2_7 X wm_70 hP (ms hk 11) dX2_has_10 ?_
    refine lv_isub hx hb dX2_has_13 ?_
    refine lv_aload_n hx hb dX2_has_14 rfl (lv_at hl 0 rfl) ?_
    refine gt_2_8 X wm_116 hP (ms hk 11) dX2_has_15 ?_
    refine lv_icmp_ge (tgt := 37) hx hb dX2_has_18 (by decide) (fun c2 => ?_) (fun c2 => ?_)
    · have h := br_1 h c2
      refine lv_iconst (v := 0) hx hb dX2_has_37 (by decide) ?_
      exact mw_zret X hr hlocks hP hS (by decide) (Option.some.inj h) rfl dX2_has_38
    · have h := br_0 h c2
      refine lv_iload_n hx hb dX2_has_21 rfl (lv_at hl 1 rfl) ?_
      refine lv_aload_n hx hb dX2_has_22 rfl (lv_at hl 0 rfl) ?_
      refine gt_2_7 X wm_70 hP (ms hk 11) dX2_has_23 ?_
      refine lv_isub hx hb dX2_has_26 ?_
      refine lv_sipush (v := 128) hx hb dX2_has_27 (by decide) ?_
      refine lv_icmp_ge (tgt := 37) hx hb dX2_has_30 (by decide) (fun c3 => ?_) (fun c3 => ?_)
      · have h := br_1 h c3
        refine lv_iconst (v := 0) hx hb dX2_has_37 (by decide) ?_
        exact mw_zret X hr hlocks hP hS (by decide) (Option.some.inj h) rfl dX2_has_38
      · have h := br_0 h c3
        refine lv_iconst (v := 1) hx hb dX2_has_33 (by decide) ?_
        refine lv_goto (tgt := 38) hx hb dX2_has_34 (by decide) ?_
        exact mw_zret X hr hlocks hP hS (by decide) (Option.some.inj h) rfl dX2_has_38
/-! SealedGroups$Journal.at -/
noncomputable def f_X2_at (k : Nat) (rw : Nat) (M : Mem) (a1 : Int32) : Option Int32 :=
bd ((a1 - (M k 11 7))) (fun x1 =>
(if x1 < 0 then
some (-1000004 : Int32)
else
(if (M k 11 8) ≤ x1 then
some (-1000004 : Int32)
else
(if (128 : Int32) ≤ x1 then
some (-1000004 : Int32)
else
gd (inb x1 128) (
some (M k rw (x1).toNatClampNeg))))))
theorem pk_X2_at : Pk "SealedGroups$Journal" yX2_at cX2_at 4 (some .int) 2 := ⟨wm_194, wm_44, rfl, by decide +kernel⟩
theorem pv_X2_at : Cond.instanceMethod yX2_at ∈ wsL_law ∧ Cond.selects "SealedGroups$Journal" yX2_at yX2_at ∈ wsL_law := ⟨wm_192, wm_193⟩
set_option maxHeartbeats 4000000 in
set_option maxRecDepth 100000 in
theorem c_X2_at (l : Launch) (E : En) (hA : AdOK E) {k rw : Nat} {M : Mem} {a1 : Int32} {r0 : Int32} (hk : k < 7) (hrw : 12 ≤ rw ∧ rw ≤ 17) (h : f_X2_at k rw M a1 = some r0) : Met l yX2_at (Wm yX2_at cX2_at 4 (some .int)) ({ frames := 0, cells := 0, slots := 0, locals := 0 } : Room) (va_Pc [Value.ref (E.2.2 k 11), Value.ref (E.2.2 k rw), Value.int a1] (Wd E M)) (QI E r0 M) 0 0 (AA E) := by
  refine Met.ofW (cc := cX2_at) (maxL := 4) (ret := (some .int)) (by decide +kernel) rfl ?_
  intro p e s m args below meth c s₁ B hml hv
  obtain ⟨rfl, hP, hK⟩ := hv
  have X : Cx E (AA E) p s m c _ cX2_at 4 RX2 := ⟨⟨B.exec, B.bytes, hml, findClass_of_methodNamed B.named, fun w hw => atoms_spec (ws := Wm yX2_at cX2_at 4 (some .int)) B.pre w (List.mem_cons_of_mem _ hw)⟩, hK, hA, fun _ h => h⟩
  have hx := B.exec
  have hb := B.bytes
  have hr := B.returns
  have hlocks := B.notSynchronized
  clear B hml
  have hS : va_S (AA E) s.heap s.heap [] := va_S.rf
  have hl := lv_entry ([Value.ref (E.2.2 k 11), Value.ref (E.2.2 k rw), Value.int a1]) (n := 4) (Nat.le_of_ble_eq_true rfl)
  rw [lg_entry_eq]
  generalize (lg_sl ([Value.ref (E.2.2 k 11), Value.ref (E.2.2 k rw), Value.int a1]) ++ List.replicate (4 - (lg_sl ([Value.ref (E.2.2 k 11), Value.ref (E.2.2 k rw), Value.int a1])).length) Slot.unset).toArray = ls at hl ⊢
  have hl : lv_has ls 4 [(0, .ref (E.2.2 k 11)), (1, .ref (E.2.2 k rw)), (2, .int a1)] := hl
  unfold f_X2_at at h
  refine lv_iload_n hx hb dX2_at_0 rfl (lv_at hl 2 rfl) ?_
  refine lv_aload_n hx hb dX2_at_1 rfl (lv_at hl 0 rfl) ?_
  refine gt_2_7 X wm_70 hP (ms hk 11) dX2_at_2 ?_
  refine lv_isub hx hb dX2_at_5 ?_
  refine lv_topi (fun x1 ex1 => ?_)
  have h := bd_e h ex1
  refine lv_istore_n (lv' := [(3, .int x1), (0, .ref (E.2.2 k 11)), (1, .ref (E.2.2 k rw)), (2, .int a1)]) hx hb dX2_at_6 rfl hl (by decide) rfl (fun ls hl => ?_)
  refine lv_iload_n hx hb dX2_at_7 rfl (lv_at hl 0 rfl) ?_
  refine lv_if_lt (tgt := 31) hx hb dX2_at_8 (by decide) (fun c2 => ?_) (fun c2 => ?_)
  · have h := br_1 h c2
    refine lv_ldc hx hb X.1.2.2.2.1 (X.1.2.2.2.2 _ wm_121) dX2_at_31 ?_
    exact mw_iret X hr hlocks hP hS (Option.some.inj h) rfl dX2_at_33
  · have h := br_0 h c2
    refine lv_iload_n hx hb dX2_at_11 rfl (lv_at hl 0 rfl) ?_
    refine lv_aload_n hx hb dX2_at_12 rfl (lv_at hl 1 rfl) ?_
    refine gt_2_8 X wm_116 hP (ms hk 11) dX2_at_13 ?_
    refine lv_icmp_ge (tgt := 31) hx hb dX2_at_16 (by decide) (fun c3 => ?_) (fun c3 => ?_)
    · have h := br_1 h c3
      refine lv_ldc hx hb X.1.2.2.2.1 (X.1.2.2.2.2 _ wm_121) dX2_at_31 ?_
      exact mw_iret X hr hlocks hP hS (Option.some.inj h) rfl dX2_at_33
    · have h := br_0 h c3
      refine lv_iload_n hx hb dX2_at_19 rfl (lv_at hl 0 rfl) ?_
      refine lv_aload_n hx hb dX2_at_20 rfl (lv_at hl 2 rfl) ?_
      refine mw_len X hP (ms hk rw (by omega)) (cel_rw hrw _) (v := 128) rfl dX2_at_21 ?_
      refine lv_icmp_ge (tgt := 31) hx hb dX2_at_22 (by decide) (fun c4 => ?_) (fun c4 => ?_)
      · have h := br_1 h c4
        refine lv_ldc hx hb X.1.2.2.2.1 (X.1.2.2.2.2 _ wm_121) dX2_at_31 ?_
        exact mw_iret X hr hlocks hP hS (Option.some.inj h) rfl dX2_at_33
      · have h := br_0 h c4
        refine lv_aload_n hx hb dX2_at_25 rfl (lv_at hl 2 rfl) ?_
        refine lv_iload_n hx hb dX2_at_26 rfl (lv_at hl 0 rfl) ?_
        obtain ⟨g5, h⟩ := gd_e h
        refine mw_ld X hP (ms hk rw (by omega)) (cel_rw hrw _) (inb_vp g5) rfl dX2_at_27 ?_
        refine lv_goto (tgt := 33) hx hb dX2_at_28 (by decide) ?_
        exact mw_iret X hr hlocks hP hS (Option.some.inj h) rfl dX2_at_33
/-! SealedGroups$Journal.append -/
noncomputable def f_X2_append (k : Nat) (M : Mem) (a1 a2 a3 a4 a5 a6 : Int32) : Option (Int32 × Mem) :=
(if (M k 11 8) < 0 then
some ((-1000004 : Int32), M)
else
(if (M k 11 8) < (128 : Int32) then
gd (inb (M k 11 8) 128) (
bd (st M k 12 ((M k 11 8)).toNatClampNeg a1) (fun M3 =>
gd (inb (M3 k 11 8) 128) (
bd (st M3 k 13 ((M3 k 11 8)).toNatClampNeg a2) (fun M5 =>
gd (inb (M5 k 11 8) 128) (
bd (st M5 k 14 ((M5 k 11 8)).toNatClampNeg a3) (fun M7 =>
gd (inb (M7 k 11 8) 128) (
bd (st M7 k 15 ((M7 k 11 8)).toNatClampNeg a4) (fun M9 =>
gd (inb (M9 k 11 8) 128) (
bd (st M9 k 16 ((M9 k 11 8)).toNatClampNeg a5) (fun M11 =>
gd (inb (M11 k 11 8) 128) (
bd (st M11 k 17 ((M11 k 11 8)).toNatClampNeg a6) (fun M13 =>
bd (st M13 k 11 8 ((M13 k 11 8) + (1 : Int32))) (fun M15 =>
some ((((M15 k 11 7) + (M15 k 11 8)) - (1 : Int32)), M15))))))))))))))
else
some ((-1000004 : Int32), M)))
theorem pk_X2_append : Pk "SealedGroups$Journal" yX2_append cX2_append 7 (some .int) 6 := ⟨wm_325, wm_44, rfl, by decide +kernel⟩
theorem pv_X2_append : Cond.instanceMethod yX2_append ∈ wsL_law ∧ Cond.selects "SealedGroups$Journal" yX2_append yX2_append ∈ wsL_law := ⟨wm_323, wm_324⟩
set_option maxHeartbeats 4000000 in
set_option maxRecDepth 100000 in
theorem c_X2_append (l : Launch) (E : En) (hA : AdOK E) {k : Nat} {M : Mem} {a1 a2 a3 a4 a5 a6 : Int32} {r0 : Int32} {M0 : Mem} (hk : k < 7) (h : f_X2_append k M a1 a2 a3 a4 a5 a6 = some (r0, M0)) : Met l yX2_append (Wm yX2_append cX2_append 7 (some .int)) ({ frames := 0, cells := 0, slots := 0, locals := 0 } : Room) (va_Pc [Value.ref (E.2.2 k 11), Value.int a1, Value.int a2, Value.int a3, Value.int a4, Value.int a5, Value.int a6] (Wd E M)) (QI E r0 M0) 0 0 (AA E) := by
  refine Met.ofW (cc := cX2_append) (maxL := 7) (ret := (some .int)) (by decide +kernel) rfl ?_
  intro p e s m args below meth c s₁ B hml hv
  obtain ⟨rfl, hP, hK⟩ := hv
  have X : Cx E (AA E) p s m c _ cX2_append 7 RX2 := ⟨⟨B.exec, B.bytes, hml, findClass_of_methodNamed B.named, fun w hw => atoms_spec (ws := Wm yX2_append cX2_append 7 (some .int)) B.pre w (List.mem_cons_of_mem _ hw)⟩, hK, hA, fun _ h => h⟩
  have hx := B.exec
  have hb := B.bytes
  have hr := B.returns
  have hlocks := B.notSynchronized
  clear B hml
  have hS : va_S (AA E) s.heap s.heap [] := va_S.rf
  have hl := lv_entry ([Value.ref (E.2.2 k 11), Value.int a1, Value.int a2, Value.int a3, Value.int a4, Value.int a5, Value.int a6]) (n := 7) (Nat.le_of_ble_eq_true rfl)
  rw [lg_entry_eq]
  generalize (lg_sl ([Value.ref (E.2.2 k 11), Value.int a1, Value.int a2, Value.int a3, Value.int a4, Value.int a5, Value.int a6]) ++ List.replicate (7 - (lg_sl ([Value.ref (E.2.2 k 11), Value.int a1, Value.int a2, Value.int a3, Value.int a4, Value.int a5, Value.int a6])).length) Slot.unset).toArray = ls at hl ⊢
  have hl : lv_has ls 7 [(0, .ref (E.2.2 k 11)), (1, .int a1), (2, .int a2), (3, .int a3), (4, .int a4), (5, .int a5), (6, .int a6)] := hl
  unfold f_X2_append at h
  refine lv_aload_n hx hb dX2_append_0 rfl (lv_at hl 0 rfl) ?_
  refine gt_2_8 X wm_116 hP (ms hk 11) dX2_append_1 ?_
  refine lv_if_lt (tgt := 17) hx hb dX2_append_4 (by decide) (fun c1 => ?_) (fun c1 => ?_)
  · have h := br_1 h c1
    refine lv_ldc hx hb X.1.2.2.2.1 (X.1.2.2.2.2 _ wm_121) dX2_append_17 ?_
    have h := Option.some.inj h
    exact mw_iret X hr hlocks hP hS (congrArg Prod.fst h) (congrArg Prod.snd h) dX2_append_19
  · have h := br_0 h c1
    refine lv_aload_n hx hb dX2_append_7 rfl (lv_at hl 0 rfl) ?_
    refine gt_2_8 X wm_116 hP (ms hk 11) dX2_append_8 ?_
    refine lv_sipush (v := 128) hx hb dX2_append_11 (by decide) ?_
    refine lv_icmp_lt (tgt := 20) hx hb dX2_append_14 (by decide) (fun c2 => ?_) (fun c2 => ?_)
    · have h := br_1 h c2
      refine lv_aload_n hx hb dX2_append_20 rfl (lv_at hl 0 rfl) ?_
      refine gt_2_0 X wm_63 hP (ms hk 11) dX2_append_21 ?_
      refine lv_aload_n hx hb dX2_append_24 rfl (lv_at hl 0 rfl) ?_
      refine gt_2_8 X wm_116 hP (ms hk 11) dX2_append_25 ?_
      refine lv_iload_n hx hb dX2_append_28 rfl (lv_at hl 1 rfl) ?_
      obtain ⟨g4, h⟩ := gd_e h
      refine mw_st X hP hS (ms hk 12) (fun _ => rfl) (inb_vp g4) rfl dX2_append_29 (fun H locs M3 eM3 hP hS => ?_)
      have h := bd_e h eM3
      refine lv_aload_n hx hb dX2_append_30 rfl (lv_at hl 0 rfl) ?_
      refine gt_2_1 X wm_64 hP (ms hk 11) dX2_append_31 ?_
      refine lv_aload_n hx hb dX2_append_34 rfl (lv_at hl 0 rfl) ?_
      refine gt_2_8 X wm_116 hP (ms hk 11) dX2_append_35 ?_
      refine lv_iload_n hx hb dX2_append_38 rfl (lv_at hl 2 rfl) ?_
      obtain ⟨g6, h⟩ := gd_e h
      refine mw_st X hP hS (ms hk 13) (fun _ => rfl) (inb_vp g6) rfl dX2_append_39 (fun H locs M5 eM5 hP hS => ?_)
      have h := bd_e h eM5
      refine lv_aload_n hx hb dX2_append_40 rfl (lv_at hl 0 rfl) ?_
      refine gt_2_2 X wm_65 hP (ms hk 11) dX2_append_41 ?_
      refine lv_aload_n hx hb dX2_append_44 rfl (lv_at hl 0 rfl) ?_
      refine gt_2_8 X wm_116 hP (ms hk 11) dX2_append_45 ?_
      refine lv_iload_n hx hb dX2_append_48 rfl (lv_at hl 3 rfl) ?_
      obtain ⟨g8, h⟩ := gd_e h
      refine mw_st X hP hS (ms hk 14) (fun _ => rfl) (inb_vp g8) rfl dX2_append_49 (fun H locs M7 eM7 hP hS => ?_)
      have h := bd_e h eM7
      refine lv_aload_n hx hb dX2_append_50 rfl (lv_at hl 0 rfl) ?_
      refine gt_2_3 X wm_66 hP (ms hk 11) dX2_append_51 ?_
      refine lv_aload_n hx hb dX2_append_54 rfl (lv_at hl 0 rfl) ?_
      refine gt_2_8 X wm_116 hP (ms hk 11) dX2_append_55 ?_
      refine lv_iload hx hb dX2_append_58 (lv_at hl 4 rfl) ?_
      obtain ⟨g10, h⟩ := gd_e h
      refine mw_st X hP hS (ms hk 15) (fun _ => rfl) (inb_vp g10) rfl dX2_append_60 (fun H locs M9 eM9 hP hS => ?_)
      have h := bd_e h eM9
      refine lv_aload_n hx hb dX2_append_61 rfl (lv_at hl 0 rfl) ?_
      refine gt_2_4 X wm_67 hP (ms hk 11) dX2_append_62 ?_
      refine lv_aload_n hx hb dX2_append_65 rfl (lv_at hl 0 rfl) ?_
      refine gt_2_8 X wm_116 hP (ms hk 11) dX2_append_66 ?_
      refine lv_iload hx hb dX2_append_69 (lv_at hl 5 rfl) ?_
      obtain ⟨g12, h⟩ := gd_e h
      refine mw_st X hP hS (ms hk 16) (fun _ => rfl) (inb_vp g12) rfl dX2_append_71 (fun H locs M11 eM11 hP hS => ?_)
      have h := bd_e h eM11
      refine lv_aload_n hx hb dX2_append_72 rfl (lv_at hl 0 rfl) ?_
      refine gt_2_5 X wm_68 hP (ms hk 11) dX2_append_73 ?_
      refine lv_aload_n hx hb dX2_append_76 rfl (lv_at hl 0 rfl) ?_
      refine gt_2_8 X wm_116 hP (ms hk 11) dX2_append_77 ?_
      refine lv_iload hx hb dX2_append_80 (lv_at hl 6 rfl) ?_
      obtain ⟨g14, h⟩ := gd_e h
      refine mw_st X hP hS (ms hk 17) (fun _ => rfl) (inb_vp g14) rfl dX2_append_82 (fun H locs M13 eM13 hP hS => ?_)
      have h := bd_e h eM13
      refine lv_aload_n hx hb dX2_append_83 rfl (lv_at hl 0 rfl) ?_
      refine lv_dup hx hb dX2_append_84 rfl ?_
      refine gt_2_8 X wm_116 hP (ms hk 11) dX2_append_85 ?_
      refine lv_iconst (v := 1) hx hb dX2_append_88 (by decide) ?_
      refine lv_iadd hx hb dX2_append_89 ?_
      refine pt_2_8 X wm_116 hP hS (ms hk 11) dX2_append_90 (fun H locs M15 eM15 hP hS => ?_)
      have h := bd_e h eM15
      refine lv_aload_n hx hb dX2_append_93 rfl (lv_at hl 0 rfl) ?_
      refine gt_2_7 X wm_70 hP (ms hk 11) dX2_append_94 ?_
      refine lv_aload_n hx hb dX2_append_97 rfl (lv_at hl 0 rfl) ?_
      refine gt_2_8 X wm_116 hP (ms hk 11) dX2_append_98 ?_
      refine lv_iadd hx hb dX2_append_101 ?_
      refine lv_iconst (v := 1) hx hb dX2_append_102 (by decide) ?_
      refine lv_isub hx hb dX2_append_103 ?_
      have h := Option.some.inj h
      exact mw_iret X hr hlocks hP hS (congrArg Prod.fst h) (congrArg Prod.snd h) dX2_append_104
    · have h := br_0 h c2
      refine lv_ldc hx hb X.1.2.2.2.1 (X.1.2.2.2.2 _ wm_121) dX2_append_17 ?_
      have h := Option.some.inj h
      exact mw_iret X hr hlocks hP hS (congrArg Prod.fst h) (congrArg Prod.snd h) dX2_append_19
/-! SealedGroups$Journal.forceUpTo -/
noncomputable def f_X2_forceUpTo (k : Nat) (M : Mem) (a1 : Int32) : Option (Int32 × Mem) :=
bd ((if (0 : Int32) < (a1 - (M k 11 9)) then (a1 - (M k 11 9)) else (0 : Int32))) (fun x1 =>
bd (st M k 11 9 ((M k 11 9) + x1)) (fun M2 =>
some (x1, M2)))
theorem pk_X2_forceUpTo : Pk "SealedGroups$Journal" yX2_forceUpTo cX2_forceUpTo 3 (some .int) 1 := ⟨wm_344, wm_44, rfl, by decide +kernel⟩
theorem pv_X2_forceUpTo : Cond.instanceMethod yX2_forceUpTo ∈ wsL_law ∧ Cond.selects "SealedGroups$Journal" yX2_forceUpTo yX2_forceUpTo ∈ wsL_law := ⟨wm_342, wm_343⟩
set_option maxHeartbeats 4000000 in
set_option maxRecDepth 100000 in
theorem c_X2_forceUpTo (l : Launch) (E : En) (hA : AdOK E) {k : Nat} {M : Mem} {a1 : Int32} {r0 : Int32} {M0 : Mem} (hk : k < 7) (h : f_X2_forceUpTo k M a1 = some (r0, M0)) : Met l yX2_forceUpTo (Wm yX2_forceUpTo cX2_forceUpTo 3 (some .int)) ({ frames := 1, cells := 0, slots := 0, locals := 21 } : Room) (va_Pc [Value.ref (E.2.2 k 11), Value.int a1] (Wd E M)) (QI E r0 M0) 0 0 (AA E) := by
  refine Met.ofW (cc := cX2_forceUpTo) (maxL := 3) (ret := (some .int)) (by decide +kernel) rfl ?_
  intro p e s m args below meth c s₁ B hml hv
  obtain ⟨rfl, hP, hK⟩ := hv
  have X : Cx E (AA E) p s m c _ cX2_forceUpTo 3 RX2 := ⟨⟨B.exec, B.bytes, hml, findClass_of_methodNamed B.named, fun w hw => atoms_spec (ws := Wm yX2_forceUpTo cX2_forceUpTo 3 (some .int)) B.pre w (List.mem_cons_of_mem _ hw)⟩, hK, hA, fun _ h => h⟩
  have hx := B.exec
  have hb := B.bytes
  have hr := B.returns
  have hlocks := B.notSynchronized
  clear B hml
  have hS : va_S (AA E) s.heap s.heap [] := va_S.rf
  have hl := lv_entry ([Value.ref (E.2.2 k 11), Value.int a1]) (n := 3) (Nat.le_of_ble_eq_true rfl)
  rw [lg_entry_eq]
  generalize (lg_sl ([Value.ref (E.2.2 k 11), Value.int a1]) ++ List.replicate (3 - (lg_sl ([Value.ref (E.2.2 k 11), Value.int a1])).length) Slot.unset).toArray = ls at hl ⊢
  have hl : lv_has ls 3 [(0, .ref (E.2.2 k 11)), (1, .int a1)] := hl
  unfold f_X2_forceUpTo at h
  refine lv_iconst (v := 0) hx hb dX2_forceUpTo_0 (by decide) ?_
  refine lv_iload_n hx hb dX2_forceUpTo_1 rfl (lv_at hl 1 rfl) ?_
  refine lv_aload_n hx hb dX2_forceUpTo_2 rfl (lv_at hl 0 rfl) ?_
  refine gt_2_9 X wm_186 hP (ms hk 11) dX2_forceUpTo_3 ?_
  refine lv_isub hx hb dX2_forceUpTo_6 ?_
  refine mw_max X hl.1 ⟨Nat.le_of_ble_eq_true rfl, Nat.le_of_ble_eq_true rfl⟩ ⟨Nat.zero_le _, Nat.zero_le _⟩ (Nat.le_of_ble_eq_true rfl) wm_203 wm_smax wm_iMath wm_cmax dX2_forceUpTo_7 ?_
  refine lv_topi (fun x1 ex1 => ?_)
  have h := bd_e h ex1
  refine lv_istore_n (lv' := [(2, .int x1), (0, .ref (E.2.2 k 11)), (1, .int a1)]) hx hb dX2_forceUpTo_10 rfl hl (by decide) rfl (fun ls hl => ?_)
  refine lv_aload_n hx hb dX2_forceUpTo_11 rfl (lv_at hl 1 rfl) ?_
  refine lv_dup hx hb dX2_forceUpTo_12 rfl ?_
  refine gt_2_9 X wm_186 hP (ms hk 11) dX2_forceUpTo_13 ?_
  refine lv_iload_n hx hb dX2_forceUpTo_16 rfl (lv_at hl 0 rfl) ?_
  refine lv_iadd hx hb dX2_forceUpTo_17 ?_
  refine pt_2_9 X wm_186 hP hS (ms hk 11) dX2_forceUpTo_18 (fun H locs M2 eM2 hP hS => ?_)
  have h := bd_e h eM2
  refine lv_iload_n hx hb dX2_forceUpTo_21 rfl (lv_at hl 0 rfl) ?_
  have h := Option.some.inj h
  exact mw_iret X hr hlocks hP hS (congrArg Prod.fst h) (congrArg Prod.snd h) dX2_forceUpTo_22
/-! SealedGroups$Journal.appendCheckpoint -/
noncomputable def f_X2_appendCheckpoint_L151 (k : Nat) (K78 : Mem → Int32 → Int32 → Option (Int32 × Mem)) (M : Mem) (y3 y4 : Int32) : Option (Int32 × Mem) :=
bd (y4 + (1 : Int32)) (fun x14 =>
K78 M y3 x14)
noncomputable def f_X2_appendCheckpoint_L127 (k : Nat) (K78 : Mem → Int32 → Int32 → Option (Int32 × Mem)) (M : Mem) (y3 y4 y5 z0 z1 : Int32) : Option (Int32 × Mem) :=
gd (inb z1 8) (
bd (st M k 18 (z1).toNatClampNeg z0) (fun M11 =>
(if y5 = 0 then
f_X2_appendCheckpoint_L151 k K78 M11 y3 y4
else
gd (inb y4 8) (
bd (st M11 k 11 11 (if (M11 k 6 (y4).toNatClampNeg) < (M11 k 11 11) then (M11 k 6 (y4).toNatClampNeg) else (M11 k 11 11))) (fun M16 =>
f_X2_appendCheckpoint_L151 k K78 M16 y3 y4)))))
noncomputable def f_X2_appendCheckpoint_L103 (k : Nat) (K78 : Mem → Int32 → Int32 → Option (Int32 × Mem)) (M : Mem) (y3 y4 z0 : Int32) : Option (Int32 × Mem) :=
(if z0 = 0 then
f_X2_appendCheckpoint_L127 k K78 M y3 y4 z0 (0 : Int32) y4
else
gd (inb y4 8) (
f_X2_appendCheckpoint_L127 k K78 M y3 y4 z0 (M k 6 (y4).toNatClampNeg) y4))
noncomputable def f_X2_appendCheckpoint_L78 (k : Nat) (K78 : Mem → Int32 → Int32 → Option (Int32 × Mem)) (M : Mem) (y3 y4 : Int32) : Option (Int32 × Mem) :=
(if (8 : Int32) ≤ y4 then
bP (f_X2_forceUpTo k M y3) (fun v7 M8 =>
some (y3, M8))
else
(if (((M k 1 6) >>> (y4 &&& 31)) &&& (1 : Int32)) = (1 : Int32) then
f_X2_appendCheckpoint_L103 k K78 M y3 y4 (1 : Int32)
else
f_X2_appendCheckpoint_L103 k K78 M y3 y4 (0 : Int32)))
noncomputable def f_X2_appendCheckpoint_L69 (k : Nat) (K32 : Mem → Int32 → Int32 → Option (Int32 × Mem)) (M : Mem) (y3 y4 : Int32) : Option (Int32 × Mem) :=
bd (y4 + (1 : Int32)) (fun x19 =>
K32 M y3 x19)
noncomputable def f_X2_appendCheckpoint_L32 (k : Nat) (K32 : Mem → Int32 → Int32 → Option (Int32 × Mem)) (M : Mem) (y3 y4 : Int32) : Option (Int32 × Mem) :=
(if (4 : Int32) ≤ y4 then
itr (f_X2_appendCheckpoint_L78 k) (fun _ _ _ => none) FU M y3 (0 : Int32)
else
(if (((M k 7 3) >>> (y4 &&& 31)) &&& (1 : Int32)) = (1 : Int32) then
gd (inb y4 4) (
bd (st M k 11 11 (if (M k 8 (y4).toNatClampNeg) < (M k 11 11) then (M k 8 (y4).toNatClampNeg) else (M k 11 11))) (fun M21 =>
f_X2_appendCheckpoint_L69 k K32 M21 y3 y4))
else
f_X2_appendCheckpoint_L69 k K32 M y3 y4))
noncomputable def f_X2_appendCheckpoint (k : Nat) (M : Mem) : Option (Int32 × Mem) :=
bP (f_X2_append k M (5 : Int32) (-1000004 : Int32) (-1000004 : Int32) (M k 7 3) (M k 1 6) (0 : Int32)) (fun v1 M2 =>
bd (st M2 k 11 10 v1) (fun M3 =>
bd (st M3 k 11 11 v1) (fun M4 =>
itr (f_X2_appendCheckpoint_L32 k) (fun _ _ _ => none) FU M4 v1 (0 : Int32))))
theorem pk_X2_appendCheckpoint : Pk "SealedGroups$Journal" yX2_appendCheckpoint cX2_appendCheckpoint 6 (some .int) 2 := ⟨wm_471, wm_44, rfl, by decide +kernel⟩
theorem pv_X2_appendCheckpoint : Cond.instanceMethod yX2_appendCheckpoint ∈ wsL_law ∧ Cond.selects "SealedGroups$Journal" yX2_appendCheckpoint yX2_appendCheckpoint ∈ wsL_law := ⟨wm_469, wm_470⟩
set_option maxHeartbeats 4000000 in
set_option maxRecDepth 100000 in
theorem c_X2_appendCheckpoint (l : Launch) (E : En) (hA : AdOK E) {k : Nat} {M : Mem} {r0 : Int32} {M0 : Mem} (hk : k < 7) (h : f_X2_appendCheckpoint k M = some (r0, M0)) : Met l yX2_appendCheckpoint (Wm yX2_appendCheckpoint cX2_appendCheckpoint 6 (some .int)) ({ frames := 2, cells := 0, slots := 0, locals := 43 } : Room) (va_Pc [Value.ref (E.2.2 k 11), Value.ref (E.2.2 k 7), Value.ref (E.2.2 k 1)] (Wd E M)) (QI E r0 M0) 0 0 (AA E) := by
  refine Met.ofW (cc := cX2_appendCheckpoint) (maxL := 6) (ret := (some .int)) (by decide +kernel) rfl ?_
  intro p e s m args below meth c s₁ B hml hv
  obtain ⟨rfl, hP, hK⟩ := hv
  have X : Cx E (AA E) p s m c _ cX2_appendCheckpoint 6 RX2 := ⟨⟨B.exec, B.bytes, hml, findClass_of_methodNamed B.named, fun w hw => atoms_spec (ws := Wm yX2_appendCheckpoint cX2_appendCheckpoint 6 (some .int)) B.pre w (List.mem_cons_of_mem _ hw)⟩, hK, hA, fun _ h => h⟩
  have hx := B.exec
  have hb := B.bytes
  have hr := B.returns
  have hlocks := B.notSynchronized
  clear B hml
  have hS : va_S (AA E) s.heap s.heap [] := va_S.rf
  have hl := lv_entry ([Value.ref (E.2.2 k 11), Value.ref (E.2.2 k 7), Value.ref (E.2.2 k 1)]) (n := 6) (Nat.le_of_ble_eq_true rfl)
  rw [lg_entry_eq]
  generalize (lg_sl ([Value.ref (E.2.2 k 11), Value.ref (E.2.2 k 7), Value.ref (E.2.2 k 1)]) ++ List.replicate (6 - (lg_sl ([Value.ref (E.2.2 k 11), Value.ref (E.2.2 k 7), Value.ref (E.2.2 k 1)])).length) Slot.unset).toArray = ls at hl ⊢
  have hl : lv_has ls 6 [(0, .ref (E.2.2 k 11)), (1, .ref (E.2.2 k 7)), (2, .ref (E.2.2 k 1))] := hl
  have w_L78 : ∀ (n78 : Nat) (M : Mem) (y3 y4 : Int32) (H : Heap) (locs : List Loc) (ls : Array Slot), itr (f_X2_appendCheckpoint_L78 k) (fun _ _ _ => none) n78 M y3 y4 = some (r0, M0) → va_P E.1 vwCl (wl E M) H → va_S (AA E) s.heap H locs → lv_has ls 6 [(0, .ref (E.2.2 k 11)), (2, .ref (E.2.2 k 1)), (3, .int y3), (4, .int y4)] → W p l e (headSpec (Wm yX2_appendCheckpoint cX2_appendCheckpoint 6 (some .int)) ({ frames := 2, cells := 0, slots := 0, locals := 43 } : Room)).room s m ([Value.ref (E.2.2 k 11), Value.ref (E.2.2 k 7), Value.ref (E.2.2 k 1)] : List Value).toArray below meth c H locs 0 0 (MQ below (QI E r0 M0) ([Value.ref (E.2.2 k 11), Value.ref (E.2.2 k 7), Value.ref (E.2.2 k 1)] : List Value).toArray s 0 0 (AA E)) (F0 m 78 ls []) := by
    intro n78
    induction n78 with
    | zero => intro M y3 y4 H locs ls h; exact (nomatch (show (none : Option (Int32 × Mem)) = some _ from h))
    | succ n78 ih78 =>
      intro M y3 y4 H locs ls h hP hS hl
      have h : f_X2_appendCheckpoint_L78 k (itr (f_X2_appendCheckpoint_L78 k) (fun _ _ _ => none) n78) M y3 y4 = some (r0, M0) := h
      have w_L151 : ∀ (M : Mem) (y3 y4 : Int32) (H : Heap) (locs : List Loc) (ls : Array Slot), f_X2_appendCheckpoint_L151 k (itr (f_X2_appendCheckpoint_L78 k) (fun _ _ _ => none) n78) M y3 y4 = some (r0, M0) → va_P E.1 vwCl (wl E M) H → va_S (AA E) s.heap H locs → lv_has ls 6 [(0, .ref (E.2.2 k 11)), (2, .ref (E.2.2 k 1)), (3, .int y3), (4, .int y4)] → W p l e (headSpec (Wm yX2_appendCheckpoint cX2_appendCheckpoint 6 (some .int)) ({ frames := 2, cells := 0, slots := 0, locals := 43 } : Room)).room s m ([Value.ref (E.2.2 k 11), Value.ref (E.2.2 k 7), Value.ref (E.2.2 k 1)] : List Value).toArray below meth c H locs 0 0 (MQ below (QI E r0 M0) ([Value.ref (E.2.2 k 11), Value.ref (E.2.2 k 7), Value.ref (E.2.2 k 1)] : List Value).toArray s 0 0 (AA E)) (F0 m 151 ls []) := by
        intro M y3 y4 H locs ls h hP hS hl
        unfold f_X2_appendCheckpoint_L151 at h
        obtain ⟨x14, ex14⟩ : ∃ y : Int32, y = y4 + (1 : Int32) := ⟨_, rfl⟩
        have h := bd_e h ex14
        refine lv_iinc (v := x14) (lv' := [(4, .int x14), (0, .ref (E.2.2 k 11)), (2, .ref (E.2.2 k 1)), (3, .int y3)]) hx hb dX2_appendCheckpoint_151 hl (k := 3) rfl (by rw [ex14]; rfl) (by decide) rfl (fun ls hl => ?_)
        refine lv_goto (tgt := 78) hx hb dX2_appendCheckpoint_154 (by decide) ?_
        exact ih78 _ _ _ _ _ _ h hP hS (lv_sub hl [1, 2, 3, 0] rfl)
      have w_L127 : ∀ (M : Mem) (y3 y4 y5 z0 z1 : Int32) (H : Heap) (locs : List Loc) (ls : Array Slot), f_X2_appendCheckpoint_L127 k (itr (f_X2_appendCheckpoint_L78 k) (fun _ _ _ => none) n78) M y3 y4 y5 z0 z1 = some (r0, M0) → va_P E.1 vwCl (wl E M) H → va_S (AA E) s.heap H locs → lv_has ls 6 [(0, .ref (E.2.2 k 11)), (2, .ref (E.2.2 k 1)), (3, .int y3), (4, .int y4), (5, .int y5)] → W p l e (headSpec (Wm yX2_appendCheckpoint cX2_appendCheckpoint 6 (some .int)) ({ frames := 2, cells := 0, slots := 0, locals := 43 } : Room)).room s m ([Value.ref (E.2.2 k 11), Value.ref (E.2.2 k 7), Value.ref (E.2.2 k 1)] : List Value).toArray below meth c H locs 0 0 (MQ below (QI E r0 M0) ([Value.ref (E.2.2 k 11), Value.ref (E.2.2 k 7), Value.ref (E.2.2 k 1)] : List Value).toArray s 0 0 (AA E)) (F0 m 127 ls [.int z0, .int z1, .ref (E.2.2 k 18)]) := by
        intro M y3 y4 y5 z0 z1 H locs ls h hP hS hl
        unfold f_X2_appendCheckpoint_L127 at h
        obtain ⟨g12, h⟩ := gd_e h
        refine mw_st X hP hS (ms hk 18) (fun _ => rfl) (inb_vp g12) rfl dX2_appendCheckpoint_127 (fun H locs M11 eM11 hP hS => ?_)
        have h := bd_e h eM11
        refine lv_iload hx hb dX2_appendCheckpoint_128 (lv_at hl 4 rfl) ?_
        refine lv_if_eq (tgt := 151) hx hb dX2_appendCheckpoint_130 (by decide) (fun c13 => ?_) (fun c13 => ?_)
        · have h := br_1 h c13
          exact w_L151 _ _ _ _ _ _ h hP hS (lv_sub hl [0, 1, 2, 3] rfl)
        · have h := br_0 h c13
          refine lv_aload_n hx hb dX2_appendCheckpoint_133 rfl (lv_at hl 0 rfl) ?_
          refine lv_aload_n hx hb dX2_appendCheckpoint_134 rfl (lv_at hl 0 rfl) ?_
          refine gt_2_11 X wm_216 hP (ms hk 11) dX2_appendCheckpoint_135 ?_
          refine lv_aload_n hx hb dX2_appendCheckpoint_138 rfl (lv_at hl 1 rfl) ?_
          refine gn_4_4 X nf_0 hP (ms hk 1) dX2_appendCheckpoint_139 ?_
          refine lv_iload hx hb dX2_appendCheckpoint_142 (lv_at hl 3 rfl) ?_
          obtain ⟨g15, h⟩ := gd_e h
          refine mw_ld X hP (ms hk 6) rfl (inb_vp g15) rfl dX2_appendCheckpoint_144 ?_
          refine mw_min X hl.1 ⟨Nat.le_of_ble_eq_true rfl, Nat.le_of_ble_eq_true rfl⟩ ⟨Nat.zero_le _, Nat.zero_le _⟩ (Nat.le_of_ble_eq_true rfl) wm_117 wm_smin wm_iMath wm_cmin dX2_appendCheckpoint_145 ?_
          refine pt_2_11 X wm_216 hP hS (ms hk 11) dX2_appendCheckpoint_148 (fun H locs M16 eM16 hP hS => ?_)
          have h := bd_e h eM16
          exact w_L151 _ _ _ _ _ _ h hP hS (lv_sub hl [0, 1, 2, 3] rfl)
      have w_L103 : ∀ (M : Mem) (y3 y4 z0 : Int32) (H : Heap) (locs : List Loc) (ls : Array Slot), f_X2_appendCheckpoint_L103 k (itr (f_X2_appendCheckpoint_L78 k) (fun _ _ _ => none) n78) M y3 y4 z0 = some (r0, M0) → va_P E.1 vwCl (wl E M) H → va_S (AA E) s.heap H locs → lv_has ls 6 [(0, .ref (E.2.2 k 11)), (2, .ref (E.2.2 k 1)), (3, .int y3), (4, .int y4)] → W p l e (headSpec (Wm yX2_appendCheckpoint cX2_appendCheckpoint 6 (some .int)) ({ frames := 2, cells := 0, slots := 0, locals := 43 } : Room)).room s m ([Value.ref (E.2.2 k 11), Value.ref (E.2.2 k 7), Value.ref (E.2.2 k 1)] : List Value).toArray below meth c H locs 0 0 (MQ below (QI E r0 M0) ([Value.ref (E.2.2 k 11), Value.ref (E.2.2 k 7), Value.ref (E.2.2 k 1)] : List Value).toArray s 0 0 (AA E)) (F0 m 103 ls [.int z0]) := by
        intro M y3 y4 z0 H locs ls h hP hS hl
        unfold f_X2_appendCheckpoint_L103 at h
        refine lv_istore (lv' := [(5, .int z0), (0, .ref (E.2.2 k 11)), (2, .ref (E.2.2 k 1)), (3, .int y3), (4, .int y4)]) hx hb dX2_appendCheckpoint_103 hl (by decide) rfl (fun ls hl => ?_)
        refine lv_aload_n hx hb dX2_appendCheckpoint_105 rfl (lv_at hl 1 rfl) ?_
        refine gt_2_6 X wm_69 hP (ms hk 11) dX2_appendCheckpoint_106 ?_
        refine lv_iload hx hb dX2_appendCheckpoint_109 (lv_at hl 4 rfl) ?_
        refine lv_iload hx hb dX2_appendCheckpoint_111 (lv_at hl 0 rfl) ?_
        refine lv_if_eq (tgt := 126) hx hb dX2_appendCheckpoint_113 (by decide) (fun c10 => ?_) (fun c10 => ?_)
        · have h := br_1 h c10
          refine lv_iconst (v := 0) hx hb dX2_appendCheckpoint_126 (by decide) ?_
          exact w_L127 _ _ _ _ _ _ _ _ _ h hP hS (lv_sub hl [1, 2, 3, 4, 0] rfl)
        · have h := br_0 h c10
          refine lv_aload_n hx hb dX2_appendCheckpoint_116 rfl (lv_at hl 2 rfl) ?_
          refine gn_4_4 X nf_0 hP (ms hk 1) dX2_appendCheckpoint_117 ?_
          refine lv_iload hx hb dX2_appendCheckpoint_120 (lv_at hl 4 rfl) ?_
          obtain ⟨g17, h⟩ := gd_e h
          refine mw_ld X hP (ms hk 6) rfl (inb_vp g17) rfl dX2_appendCheckpoint_122 ?_
          refine lv_goto (tgt := 127) hx hb dX2_appendCheckpoint_123 (by decide) ?_
          exact w_L127 _ _ _ _ _ _ _ _ _ h hP hS (lv_sub hl [1, 2, 3, 4, 0] rfl)
      unfold f_X2_appendCheckpoint_L78 at h
      refine lv_iload hx hb dX2_appendCheckpoint_78 (lv_at hl 3 rfl) ?_
      refine lv_bipush (v := 8) hx hb dX2_appendCheckpoint_80 (by decide) ?_
      refine lv_icmp_ge (tgt := 157) hx hb dX2_appendCheckpoint_82 (by decide) (fun c6 => ?_) (fun c6 => ?_)
      · have h := br_1 h c6
        refine lv_aload_n hx hb dX2_appendCheckpoint_157 rfl (lv_at hl 0 rfl) ?_
        refine lv_iload_n hx hb dX2_appendCheckpoint_158 rfl (lv_at hl 2 rfl) ?_
        obtain ⟨v7, M8, hv7, h⟩ := bP_e h
        refine mw_callVi X (c_X2_forceUpTo l E hA hk hv7) pk_X2_forceUpTo pv_X2_forceUpTo wm_473 ⟨Nat.le_of_ble_eq_true rfl, Nat.le_of_ble_eq_true rfl⟩ ⟨rfl, rfl⟩ hP hS (ms hk 11) rfl rfl rfl rfl hl.1 (Nat.le_of_ble_eq_true rfl) ⟨Nat.zero_le _, Nat.zero_le _⟩ rfl dX2_appendCheckpoint_159 (fun H locs hP hS => ?_)
        refine lv_pop hx hb dX2_appendCheckpoint_162 rfl ?_
        refine lv_iload_n hx hb dX2_appendCheckpoint_163 rfl (lv_at hl 2 rfl) ?_
        have h := Option.some.inj h
        exact mw_iret X hr hlocks hP hS (congrArg Prod.fst h) (congrArg Prod.snd h) dX2_appendCheckpoint_164
      · have h := br_0 h c6
        refine lv_aload_n hx hb dX2_appendCheckpoint_85 rfl (lv_at hl 1 rfl) ?_
        refine gn_4_6 X nf_3 hP (ms hk 1) dX2_appendCheckpoint_86 ?_
        refine lv_iload hx hb dX2_appendCheckpoint_89 (lv_at hl 3 rfl) ?_
        refine lv_ishr hx hb dX2_appendCheckpoint_91 ?_
        refine lv_iconst (v := 1) hx hb dX2_appendCheckpoint_92 (by decide) ?_
        refine lv_iand hx hb dX2_appendCheckpoint_93 ?_
        refine lv_iconst (v := 1) hx hb dX2_appendCheckpoint_94 (by decide) ?_
        refine lv_icmp_ne (tgt := 102) hx hb dX2_appendCheckpoint_95 (by decide) (fun c9 => ?_) (fun c9 => ?_)
        · have h := br_0 h c9
          refine lv_iconst (v := 0) hx hb dX2_appendCheckpoint_102 (by decide) ?_
          exact w_L103 _ _ _ _ _ _ _ h hP hS (lv_sub hl [0, 1, 2, 3] rfl)
        · have h := br_1 h c9
          refine lv_iconst (v := 1) hx hb dX2_appendCheckpoint_98 (by decide) ?_
          refine lv_goto (tgt := 103) hx hb dX2_appendCheckpoint_99 (by decide) ?_
          exact w_L103 _ _ _ _ _ _ _ h hP hS (lv_sub hl [0, 1, 2, 3] rfl)
  have w_L32 : ∀ (n32 : Nat) (M : Mem) (y3 y4 : Int32) (H : Heap) (locs : List Loc) (ls : Array Slot), itr (f_X2_appendCheckpoint_L32 k) (fun _ _ _ => none) n32 M y3 y4 = some (r0, M0) → va_P E.1 vwCl (wl E M) H → va_S (AA E) s.heap H locs → lv_has ls 6 [(0, .ref (E.2.2 k 11)), (1, .ref (E.2.2 k 7)), (2, .ref (E.2.2 k 1)), (3, .int y3), (4, .int y4)] → W p l e (headSpec (Wm yX2_appendCheckpoint cX2_appendCheckpoint 6 (some .int)) ({ frames := 2, cells := 0, slots := 0, locals := 43 } : Room)).room s m ([Value.ref (E.2.2 k 11), Value.ref (E.2.2 k 7), Value.ref (E.2.2 k 1)] : List Value).toArray below meth c H locs 0 0 (MQ below (QI E r0 M0) ([Value.ref (E.2.2 k 11), Value.ref (E.2.2 k 7), Value.ref (E.2.2 k 1)] : List Value).toArray s 0 0 (AA E)) (F0 m 32 ls []) := by
    intro n32
    induction n32 with
    | zero => intro M y3 y4 H locs ls h; exact (nomatch (show (none : Option (Int32 × Mem)) = some _ from h))
    | succ n32 ih32 =>
      intro M y3 y4 H locs ls h hP hS hl
      have h : f_X2_appendCheckpoint_L32 k (itr (f_X2_appendCheckpoint_L32 k) (fun _ _ _ => none) n32) M y3 y4 = some (r0, M0) := h
      have w_L69 : ∀ (M : Mem) (y3 y4 : Int32) (H : Heap) (locs : List Loc) (ls : Array Slot), f_X2_appendCheckpoint_L69 k (itr (f_X2_appendCheckpoint_L32 k) (fun _ _ _ => none) n32) M y3 y4 = some (r0, M0) → va_P E.1 vwCl (wl E M) H → va_S (AA E) s.heap H locs → lv_has ls 6 [(0, .ref (E.2.2 k 11)), (1, .ref (E.2.2 k 7)), (2, .ref (E.2.2 k 1)), (3, .int y3), (4, .int y4)] → W p l e (headSpec (Wm yX2_appendCheckpoint cX2_appendCheckpoint 6 (some .int)) ({ frames := 2, cells := 0, slots := 0, locals := 43 } : Room)).room s m ([Value.ref (E.2.2 k 11), Value.ref (E.2.2 k 7), Value.ref (E.2.2 k 1)] : List Value).toArray below meth c H locs 0 0 (MQ below (QI E r0 M0) ([Value.ref (E.2.2 k 11), Value.ref (E.2.2 k 7), Value.ref (E.2.2 k 1)] : List Value).toArray s 0 0 (AA E)) (F0 m 69 ls []) := by
        intro M y3 y4 H locs ls h hP hS hl
        unfold f_X2_appendCheckpoint_L69 at h
        obtain ⟨x19, ex19⟩ : ∃ y : Int32, y = y4 + (1 : Int32) := ⟨_, rfl⟩
        have h := bd_e h ex19
        refine lv_iinc (v := x19) (lv' := [(4, .int x19), (0, .ref (E.2.2 k 11)), (1, .ref (E.2.2 k 7)), (2, .ref (E.2.2 k 1)), (3, .int y3)]) hx hb dX2_appendCheckpoint_69 hl (k := 4) rfl (by rw [ex19]; rfl) (by decide) rfl (fun ls hl => ?_)
        refine lv_goto (tgt := 32) hx hb dX2_appendCheckpoint_72 (by decide) ?_
        exact ih32 _ _ _ _ _ _ h hP hS (lv_sub hl [1, 2, 3, 4, 0] rfl)
      unfold f_X2_appendCheckpoint_L32 at h
      refine lv_iload hx hb dX2_appendCheckpoint_32 (lv_at hl 4 rfl) ?_
      refine lv_iconst (v := 4) hx hb dX2_appendCheckpoint_34 (by decide) ?_
      refine lv_icmp_ge (tgt := 75) hx hb dX2_appendCheckpoint_35 (by decide) (fun c5 => ?_) (fun c5 => ?_)
      · have h := br_1 h c5
        refine lv_iconst (v := 0) hx hb dX2_appendCheckpoint_75 (by decide) ?_
        refine lv_istore (lv' := [(4, .int (0 : Int32)), (0, .ref (E.2.2 k 11)), (1, .ref (E.2.2 k 7)), (2, .ref (E.2.2 k 1)), (3, .int y3)]) hx hb dX2_appendCheckpoint_76 hl (by decide) rfl (fun ls hl => ?_)
        exact w_L78 FU _ _ _ _ _ _ h hP hS (lv_sub hl [1, 3, 4, 0] rfl)
      · have h := br_0 h c5
        refine lv_aload_n hx hb dX2_appendCheckpoint_38 rfl (lv_at hl 1 rfl) ?_
        refine gn_0_3 X nf_7 hP (ms hk 7) dX2_appendCheckpoint_39 ?_
        refine lv_iload hx hb dX2_appendCheckpoint_42 (lv_at hl 4 rfl) ?_
        refine lv_ishr hx hb dX2_appendCheckpoint_44 ?_
        refine lv_iconst (v := 1) hx hb dX2_appendCheckpoint_45 (by decide) ?_
        refine lv_iand hx hb dX2_appendCheckpoint_46 ?_
        refine lv_iconst (v := 1) hx hb dX2_appendCheckpoint_47 (by decide) ?_
        refine lv_icmp_ne (tgt := 69) hx hb dX2_appendCheckpoint_48 (by decide) (fun c18 => ?_) (fun c18 => ?_)
        · have h := br_0 h c18
          exact w_L69 _ _ _ _ _ _ h hP hS (lv_sub hl [0, 1, 2, 3, 4] rfl)
        · have h := br_1 h c18
          refine lv_aload_n hx hb dX2_appendCheckpoint_51 rfl (lv_at hl 0 rfl) ?_
          refine lv_aload_n hx hb dX2_appendCheckpoint_52 rfl (lv_at hl 0 rfl) ?_
          refine gt_2_11 X wm_216 hP (ms hk 11) dX2_appendCheckpoint_53 ?_
          refine lv_aload_n hx hb dX2_appendCheckpoint_56 rfl (lv_at hl 1 rfl) ?_
          refine gn_0_0 X nf_6 hP (ms hk 7) dX2_appendCheckpoint_57 ?_
          refine lv_iload hx hb dX2_appendCheckpoint_60 (lv_at hl 4 rfl) ?_
          obtain ⟨g20, h⟩ := gd_e h
          refine mw_ld X hP (ms hk 8) rfl (inb_vp g20) rfl dX2_appendCheckpoint_62 ?_
          refine mw_min X hl.1 ⟨Nat.le_of_ble_eq_true rfl, Nat.le_of_ble_eq_true rfl⟩ ⟨Nat.zero_le _, Nat.zero_le _⟩ (Nat.le_of_ble_eq_true rfl) wm_117 wm_smin wm_iMath wm_cmin dX2_appendCheckpoint_63 ?_
          refine pt_2_11 X wm_216 hP hS (ms hk 11) dX2_appendCheckpoint_66 (fun H locs M21 eM21 hP hS => ?_)
          have h := bd_e h eM21
          exact w_L69 _ _ _ _ _ _ h hP hS (lv_sub hl [0, 1, 2, 3, 4] rfl)
  unfold f_X2_appendCheckpoint at h
  refine lv_aload_n hx hb dX2_appendCheckpoint_0 rfl (lv_at hl 0 rfl) ?_
  refine lv_iconst (v := 5) hx hb dX2_appendCheckpoint_1 (by decide) ?_
  refine lv_ldc hx hb X.1.2.2.2.1 (X.1.2.2.2.2 _ wm_121) dX2_appendCheckpoint_2 ?_
  refine lv_ldc hx hb X.1.2.2.2.1 (X.1.2.2.2.2 _ wm_121) dX2_appendCheckpoint_4 ?_
  refine lv_aload_n hx hb dX2_appendCheckpoint_6 rfl (lv_at hl 1 rfl) ?_
  refine gn_0_3 X nf_7 hP (ms hk 7) dX2_appendCheckpoint_7 ?_
  refine lv_aload_n hx hb dX2_appendCheckpoint_10 rfl (lv_at hl 2 rfl) ?_
  refine gn_4_6 X nf_3 hP (ms hk 1) dX2_appendCheckpoint_11 ?_
  refine lv_iconst (v := 0) hx hb dX2_appendCheckpoint_14 (by decide) ?_
  obtain ⟨v1, M2, hv1, h⟩ := bP_e h
  refine mw_callVi X (c_X2_append l E hA hk hv1) pk_X2_append pv_X2_append wm_472 ⟨Nat.le_of_ble_eq_true rfl, Nat.le_of_ble_eq_true rfl⟩ ⟨rfl, rfl⟩ hP hS (ms hk 11) rfl rfl rfl rfl hl.1 (Nat.le_of_ble_eq_true rfl) ⟨Nat.zero_le _, Nat.zero_le _⟩ rfl dX2_appendCheckpoint_15 (fun H locs hP hS => ?_)
  refine lv_istore_n (lv' := [(3, .int v1), (0, .ref (E.2.2 k 11)), (1, .ref (E.2.2 k 7)), (2, .ref (E.2.2 k 1))]) hx hb dX2_appendCheckpoint_18 rfl hl (by decide) rfl (fun ls hl => ?_)
  refine lv_aload_n hx hb dX2_appendCheckpoint_19 rfl (lv_at hl 1 rfl) ?_
  refine lv_iload_n hx hb dX2_appendCheckpoint_20 rfl (lv_at hl 0 rfl) ?_
  refine pt_2_10 X wm_206 hP hS (ms hk 11) dX2_appendCheckpoint_21 (fun H locs M3 eM3 hP hS => ?_)
  have h := bd_e h eM3
  refine lv_aload_n hx hb dX2_appendCheckpoint_24 rfl (lv_at hl 1 rfl) ?_
  refine lv_iload_n hx hb dX2_appendCheckpoint_25 rfl (lv_at hl 0 rfl) ?_
  refine pt_2_11 X wm_216 hP hS (ms hk 11) dX2_appendCheckpoint_26 (fun H locs M4 eM4 hP hS => ?_)
  have h := bd_e h eM4
  refine lv_iconst (v := 0) hx hb dX2_appendCheckpoint_29 (by decide) ?_
  refine lv_istore (lv' := [(4, .int (0 : Int32)), (3, .int v1), (0, .ref (E.2.2 k 11)), (1, .ref (E.2.2 k 7)), (2, .ref (E.2.2 k 1))]) hx hb dX2_appendCheckpoint_30 hl (by decide) rfl (fun ls hl => ?_)
  exact w_L32 FU _ _ _ _ _ _ h hP hS (lv_sub hl [2, 3, 4, 1, 0] rfl)
/-! SealedGroups$Journal.droppable -/
noncomputable def f_X2_droppable (k : Nat) (M : Mem) : Option Int32 :=
(if (M k 11 10) = 0 then
some (0 : Int32)
else
some (if (0 : Int32) < ((M k 11 11) - (M k 11 7)) then ((M k 11 11) - (M k 11 7)) else (0 : Int32)))
theorem pk_X2_droppable : Pk "SealedGroups$Journal" yX2_droppable cX2_droppable 1 (some .int) 0 := ⟨wm_215, wm_44, rfl, by decide +kernel⟩
theorem pv_X2_droppable : Cond.instanceMethod yX2_droppable ∈ wsL_law ∧ Cond.selects "SealedGroups$Journal" yX2_droppable yX2_droppable ∈ wsL_law := ⟨wm_213, wm_214⟩
set_option maxHeartbeats 4000000 in
set_option maxRecDepth 100000 in
theorem c_X2_droppable (l : Launch) (E : En) (hA : AdOK E) {k : Nat} {M : Mem} {r0 : Int32} (hk : k < 7) (h : f_X2_droppable k M = some r0) : Met l yX2_droppable (Wm yX2_droppable cX2_droppable 1 (some .int)) ({ frames := 1, cells := 0, slots := 0, locals := 21 } : Room) (va_Pc [Value.ref (E.2.2 k 11)] (Wd E M)) (QI E r0 M) 0 0 (AA E) := by
  refine Met.ofW (cc := cX2_droppable) (maxL := 1) (ret := (some .int)) (by decide +kernel) rfl ?_
  intro p e s m args below meth c s₁ B hml hv
  obtain ⟨rfl, hP, hK⟩ := hv
  have X : Cx E (AA E) p s m c _ cX2_droppable 1 RX2 := ⟨⟨B.exec, B.bytes, hml, findClass_of_methodNamed B.named, fun w hw => atoms_spec (ws := Wm yX2_droppable cX2_droppable 1 (some .int)) B.pre w (List.mem_cons_of_mem _ hw)⟩, hK, hA, fun _ h => h⟩
  have hx := B.exec
  have hb := B.bytes
  have hr := B.returns
  have hlocks := B.notSynchronized
  clear B hml
  have hS : va_S (AA E) s.heap s.heap [] := va_S.rf
  have hl := lv_entry ([Value.ref (E.2.2 k 11)]) (n := 1) (Nat.le_of_ble_eq_true rfl)
  rw [lg_entry_eq]
  generalize (lg_sl ([Value.ref (E.2.2 k 11)]) ++ List.replicate (1 - (lg_sl ([Value.ref (E.2.2 k 11)])).length) Slot.unset).toArray = ls at hl ⊢
  have hl : lv_has ls 1 [(0, .ref (E.2.2 k 11))] := hl
  unfold f_X2_droppable at h
  refine lv_aload_n hx hb dX2_droppable_0 rfl (lv_at hl 0 rfl) ?_
  refine gt_2_10 X wm_206 hP (ms hk 11) dX2_droppable_1 ?_
  refine lv_if_ne (tgt := 11) hx hb dX2_droppable_4 (by decide) (fun c1 => ?_) (fun c1 => ?_)
  · have h := br_0 h c1
    refine lv_iconst (v := 0) hx hb dX2_droppable_11 (by decide) ?_
    refine lv_aload_n hx hb dX2_droppable_12 rfl (lv_at hl 0 rfl) ?_
    refine gt_2_11 X wm_216 hP (ms hk 11) dX2_droppable_13 ?_
    refine lv_aload_n hx hb dX2_droppable_16 rfl (lv_at hl 0 rfl) ?_
    refine gt_2_7 X wm_70 hP (ms hk 11) dX2_droppable_17 ?_
    refine lv_isub hx hb dX2_droppable_20 ?_
    refine mw_max X hl.1 ⟨Nat.le_of_ble_eq_true rfl, Nat.le_of_ble_eq_true rfl⟩ ⟨Nat.zero_le _, Nat.zero_le _⟩ (Nat.le_of_ble_eq_true rfl) wm_203 wm_smax wm_iMath wm_cmax dX2_droppable_21 ?_
    exact mw_iret X hr hlocks hP hS (Option.some.inj h) rfl dX2_droppable_24
  · have h := br_1 h c1
    refine lv_iconst (v := 0) hx hb dX2_droppable_7 (by decide) ?_
    refine lv_goto (tgt := 24) hx hb dX2_droppable_8 (by decide) ?_
    exact mw_iret X hr hlocks hP hS (Option.some.inj h) rfl dX2_droppable_24
/-! SealedGroups$Journal.dropFirst -/
noncomputable def f_X2_dropFirst (k : Nat) (M : Mem) : Option (Int32 × Mem) :=
bO (f_X2_droppable k M) (fun v1 =>
bd (((M k 11 8) - v1)) (fun x2 =>
(if v1 ≤ 0 then
some ((0 : Int32), M)
else
(if x2 < 0 then
some ((0 : Int32), M)
else
(if (M k 11 8) ≤ (128 : Int32) then
gd (¬ v1 < 0 ∧ ¬ (0 : Int32) < 0 ∧ ¬ x2 < 0 ∧ (v1).toNatClampNeg + (x2).toNatClampNeg ≤ 128 ∧ ((0 : Int32)).toNatClampNeg + (x2).toNatClampNeg ≤ 128) (
bd (sr M k 12 (va_cpy (M k 12) (M k 12) (v1).toNatClampNeg ((0 : Int32)).toNatClampNeg (x2).toNatClampNeg)) (fun M6 =>
gd (¬ v1 < 0 ∧ ¬ (0 : Int32) < 0 ∧ ¬ x2 < 0 ∧ (v1).toNatClampNeg + (x2).toNatClampNeg ≤ 128 ∧ ((0 : Int32)).toNatClampNeg + (x2).toNatClampNeg ≤ 128) (
bd (sr M6 k 13 (va_cpy (M6 k 13) (M6 k 13) (v1).toNatClampNeg ((0 : Int32)).toNatClampNeg (x2).toNatClampNeg)) (fun M8 =>
gd (¬ v1 < 0 ∧ ¬ (0 : Int32) < 0 ∧ ¬ x2 < 0 ∧ (v1).toNatClampNeg + (x2).toNatClampNeg ≤ 128 ∧ ((0 : Int32)).toNatClampNeg + (x2).toNatClampNeg ≤ 128) (
bd (sr M8 k 14 (va_cpy (M8 k 14) (M8 k 14) (v1).toNatClampNeg ((0 : Int32)).toNatClampNeg (x2).toNatClampNeg)) (fun M10 =>
gd (¬ v1 < 0 ∧ ¬ (0 : Int32) < 0 ∧ ¬ x2 < 0 ∧ (v1).toNatClampNeg + (x2).toNatClampNeg ≤ 128 ∧ ((0 : Int32)).toNatClampNeg + (x2).toNatClampNeg ≤ 128) (
bd (sr M10 k 15 (va_cpy (M10 k 15) (M10 k 15) (v1).toNatClampNeg ((0 : Int32)).toNatClampNeg (x2).toNatClampNeg)) (fun M12 =>
gd (¬ v1 < 0 ∧ ¬ (0 : Int32) < 0 ∧ ¬ x2 < 0 ∧ (v1).toNatClampNeg + (x2).toNatClampNeg ≤ 128 ∧ ((0 : Int32)).toNatClampNeg + (x2).toNatClampNeg ≤ 128) (
bd (sr M12 k 16 (va_cpy (M12 k 16) (M12 k 16) (v1).toNatClampNeg ((0 : Int32)).toNatClampNeg (x2).toNatClampNeg)) (fun M14 =>
gd (¬ v1 < 0 ∧ ¬ (0 : Int32) < 0 ∧ ¬ x2 < 0 ∧ (v1).toNatClampNeg + (x2).toNatClampNeg ≤ 128 ∧ ((0 : Int32)).toNatClampNeg + (x2).toNatClampNeg ≤ 128) (
bd (sr M14 k 17 (va_cpy (M14 k 17) (M14 k 17) (v1).toNatClampNeg ((0 : Int32)).toNatClampNeg (x2).toNatClampNeg)) (fun M16 =>
bd (st M16 k 11 8 x2) (fun M18 =>
bd (st M18 k 11 7 ((M18 k 11 7) + v1)) (fun M19 =>
some (v1, M19)))))))))))))))
else
some ((0 : Int32), M))))))
theorem pk_X2_dropFirst : Pk "SealedGroups$Journal" yX2_dropFirst cX2_dropFirst 3 (some .int) 0 := ⟨wm_361, wm_44, rfl, by decide +kernel⟩
theorem pv_X2_dropFirst : Cond.instanceMethod yX2_dropFirst ∈ wsL_law ∧ Cond.selects "SealedGroups$Journal" yX2_dropFirst yX2_dropFirst ∈ wsL_law := ⟨wm_359, wm_360⟩
set_option maxHeartbeats 4000000 in
set_option maxRecDepth 100000 in
theorem c_X2_dropFirst (l : Launch) (E : En) (hA : AdOK E) {k : Nat} {M : Mem} {r0 : Int32} {M0 : Mem} (hk : k < 7) (h : f_X2_dropFirst k M = some (r0, M0)) : Met l yX2_dropFirst (Wm yX2_dropFirst cX2_dropFirst 3 (some .int)) ({ frames := 2, cells := 0, slots := 0, locals := 41 } : Room) (va_Pc [Value.ref (E.2.2 k 11)] (Wd E M)) (QI E r0 M0) 0 0 (AA E) := by
  refine Met.ofW (cc := cX2_dropFirst) (maxL := 3) (ret := (some .int)) (by decide +kernel) rfl ?_
  intro p e s m args below meth c s₁ B hml hv
  obtain ⟨rfl, hP, hK⟩ := hv
  have X : Cx E (AA E) p s m c _ cX2_dropFirst 3 RX2 := ⟨⟨B.exec, B.bytes, hml, findClass_of_methodNamed B.named, fun w hw => atoms_spec (ws := Wm yX2_dropFirst cX2_dropFirst 3 (some .int)) B.pre w (List.mem_cons_of_mem _ hw)⟩, hK, hA, fun _ h => h⟩
  have hx := B.exec
  have hb := B.bytes
  have hr := B.returns
  have hlocks := B.notSynchronized
  clear B hml
  have hS : va_S (AA E) s.heap s.heap [] := va_S.rf
  have hl := lv_entry ([Value.ref (E.2.2 k 11)]) (n := 3) (Nat.le_of_ble_eq_true rfl)
  rw [lg_entry_eq]
  generalize (lg_sl ([Value.ref (E.2.2 k 11)]) ++ List.replicate (3 - (lg_sl ([Value.ref (E.2.2 k 11)])).length) Slot.unset).toArray = ls at hl ⊢
  have hl : lv_has ls 3 [(0, .ref (E.2.2 k 11))] := hl
  unfold f_X2_dropFirst at h
  refine lv_aload_n hx hb dX2_dropFirst_0 rfl (lv_at hl 0 rfl) ?_
  obtain ⟨v1, hv1, h⟩ := bO_e h
  refine mw_callVi X (c_X2_droppable l E hA hk hv1) pk_X2_droppable pv_X2_droppable wm_212 ⟨Nat.le_of_ble_eq_true rfl, Nat.le_of_ble_eq_true rfl⟩ ⟨rfl, rfl⟩ hP hS (ms hk 11) rfl rfl rfl rfl hl.1 (Nat.le_of_ble_eq_true rfl) ⟨Nat.zero_le _, Nat.zero_le _⟩ rfl dX2_dropFirst_1 (fun H locs hP hS => ?_)
  refine lv_istore_n (lv' := [(1, .int v1), (0, .ref (E.2.2 k 11))]) hx hb dX2_dropFirst_4 rfl hl (by decide) rfl (fun ls hl => ?_)
  refine lv_aload_n hx hb dX2_dropFirst_5 rfl (lv_at hl 1 rfl) ?_
  refine gt_2_8 X wm_116 hP (ms hk 11) dX2_dropFirst_6 ?_
  refine lv_iload_n hx hb dX2_dropFirst_9 rfl (lv_at hl 0 rfl) ?_
  refine lv_isub hx hb dX2_dropFirst_10 ?_
  refine lv_topi (fun x2 ex2 => ?_)
  have h := bd_e h ex2
  refine lv_istore_n (lv' := [(2, .int x2), (1, .int v1), (0, .ref (E.2.2 k 11))]) hx hb dX2_dropFirst_11 rfl hl (by decide) rfl (fun ls hl => ?_)
  refine lv_iload_n hx hb dX2_dropFirst_12 rfl (lv_at hl 1 rfl) ?_
  refine lv_if_le (tgt := 30) hx hb dX2_dropFirst_13 (by decide) (fun c3 => ?_) (fun c3 => ?_)
  · have h := br_1 h c3
    refine lv_iconst (v := 0) hx hb dX2_dropFirst_30 (by decide) ?_
    have h := Option.some.inj h
    exact mw_iret X hr hlocks hP hS (congrArg Prod.fst h) (congrArg Prod.snd h) dX2_dropFirst_31
  · have h := br_0 h c3
    refine lv_iload_n hx hb dX2_dropFirst_16 rfl (lv_at hl 0 rfl) ?_
    refine lv_if_lt (tgt := 30) hx hb dX2_dropFirst_17 (by decide) (fun c4 => ?_) (fun c4 => ?_)
    · have h := br_1 h c4
      refine lv_iconst (v := 0) hx hb dX2_dropFirst_30 (by decide) ?_
      have h := Option.some.inj h
      exact mw_iret X hr hlocks hP hS (congrArg Prod.fst h) (congrArg Prod.snd h) dX2_dropFirst_31
    · have h := br_0 h c4
      refine lv_aload_n hx hb dX2_dropFirst_20 rfl (lv_at hl 2 rfl) ?_
      refine gt_2_8 X wm_116 hP (ms hk 11) dX2_dropFirst_21 ?_
      refine lv_sipush (v := 128) hx hb dX2_dropFirst_24 (by decide) ?_
      refine lv_icmp_le (tgt := 32) hx hb dX2_dropFirst_27 (by decide) (fun c5 => ?_) (fun c5 => ?_)
      · have h := br_1 h c5
        refine lv_aload_n hx hb dX2_dropFirst_32 rfl (lv_at hl 2 rfl) ?_
        refine gt_2_0 X wm_63 hP (ms hk 11) dX2_dropFirst_33 ?_
        refine lv_iload_n hx hb dX2_dropFirst_36 rfl (lv_at hl 1 rfl) ?_
        refine lv_aload_n hx hb dX2_dropFirst_37 rfl (lv_at hl 2 rfl) ?_
        refine gt_2_0 X wm_63 hP (ms hk 11) dX2_dropFirst_38 ?_
        refine lv_iconst (v := 0) hx hb dX2_dropFirst_41 (by decide) ?_
        refine lv_iload_n hx hb dX2_dropFirst_42 rfl (lv_at hl 0 rfl) ?_
        obtain ⟨g7, h⟩ := gd_e h
        refine mw_cpy X hP hS hl.1 (ms hk 12) rfl (ms hk 12) (fun _ => rfl) g7.1 g7.2.1 g7.2.2.1 g7.2.2.2.1 g7.2.2.2.2 ⟨Nat.le_of_ble_eq_true rfl, Nat.le_of_ble_eq_true rfl⟩ (Nat.le_of_ble_eq_true rfl) wm_270 wm_ncpy wm_scpy wm_iSys dX2_dropFirst_43 (fun H locs M6 eM6 hP hS => ?_)
        have h := bd_e h eM6
        refine lv_aload_n hx hb dX2_dropFirst_46 rfl (lv_at hl 2 rfl) ?_
        refine gt_2_1 X wm_64 hP (ms hk 11) dX2_dropFirst_47 ?_
        refine lv_iload_n hx hb dX2_dropFirst_50 rfl (lv_at hl 1 rfl) ?_
        refine lv_aload_n hx hb dX2_dropFirst_51 rfl (lv_at hl 2 rfl) ?_
        refine gt_2_1 X wm_64 hP (ms hk 11) dX2_dropFirst_52 ?_
        refine lv_iconst (v := 0) hx hb dX2_dropFirst_55 (by decide) ?_
        refine lv_iload_n hx hb dX2_dropFirst_56 rfl (lv_at hl 0 rfl) ?_
        obtain ⟨g9, h⟩ := gd_e h
        refine mw_cpy X hP hS hl.1 (ms hk 13) rfl (ms hk 13) (fun _ => rfl) g9.1 g9.2.1 g9.2.2.1 g9.2.2.2.1 g9.2.2.2.2 ⟨Nat.le_of_ble_eq_true rfl, Nat.le_of_ble_eq_true rfl⟩ (Nat.le_of_ble_eq_true rfl) wm_270 wm_ncpy wm_scpy wm_iSys dX2_dropFirst_57 (fun H locs M8 eM8 hP hS => ?_)
        have h := bd_e h eM8
        refine lv_aload_n hx hb dX2_dropFirst_60 rfl (lv_at hl 2 rfl) ?_
        refine gt_2_2 X wm_65 hP (ms hk 11) dX2_dropFirst_61 ?_
        refine lv_iload_n hx hb dX2_dropFirst_64 rfl (lv_at hl 1 rfl) ?_
        refine lv_aload_n hx hb dX2_dropFirst_65 rfl (lv_at hl 2 rfl) ?_
        refine gt_2_2 X wm_65 hP (ms hk 11) dX2_dropFirst_66 ?_
        refine lv_iconst (v := 0) hx hb dX2_dropFirst_69 (by decide) ?_
        refine lv_iload_n hx hb dX2_dropFirst_70 rfl (lv_at hl 0 rfl) ?_
        obtain ⟨g11, h⟩ := gd_e h
        refine mw_cpy X hP hS hl.1 (ms hk 14) rfl (ms hk 14) (fun _ => rfl) g11.1 g11.2.1 g11.2.2.1 g11.2.2.2.1 g11.2.2.2.2 ⟨Nat.le_of_ble_eq_true rfl, Nat.le_of_ble_eq_true rfl⟩ (Nat.le_of_ble_eq_true rfl) wm_270 wm_ncpy wm_scpy wm_iSys dX2_dropFirst_71 (fun H locs M10 eM10 hP hS => ?_)
        have h := bd_e h eM10
        refine lv_aload_n hx hb dX2_dropFirst_74 rfl (lv_at hl 2 rfl) ?_
        refine gt_2_3 X wm_66 hP (ms hk 11) dX2_dropFirst_75 ?_
        refine lv_iload_n hx hb dX2_dropFirst_78 rfl (lv_at hl 1 rfl) ?_
        refine lv_aload_n hx hb dX2_dropFirst_79 rfl (lv_at hl 2 rfl) ?_
        refine gt_2_3 X wm_66 hP (ms hk 11) dX2_dropFirst_80 ?_
        refine lv_iconst (v := 0) hx hb dX2_dropFirst_83 (by decide) ?_
        refine lv_iload_n hx hb dX2_dropFirst_84 rfl (lv_at hl 0 rfl) ?_
        obtain ⟨g13, h⟩ := gd_e h
        refine mw_cpy X hP hS hl.1 (ms hk 15) rfl (ms hk 15) (fun _ => rfl) g13.1 g13.2.1 g13.2.2.1 g13.2.2.2.1 g13.2.2.2.2 ⟨Nat.le_of_ble_eq_true rfl, Nat.le_of_ble_eq_true rfl⟩ (Nat.le_of_ble_eq_true rfl) wm_270 wm_ncpy wm_scpy wm_iSys dX2_dropFirst_85 (fun H locs M12 eM12 hP hS => ?_)
        have h := bd_e h eM12
        refine lv_aload_n hx hb dX2_dropFirst_88 rfl (lv_at hl 2 rfl) ?_
        refine gt_2_4 X wm_67 hP (ms hk 11) dX2_dropFirst_89 ?_
        refine lv_iload_n hx hb dX2_dropFirst_92 rfl (lv_at hl 1 rfl) ?_
        refine lv_aload_n hx hb dX2_dropFirst_93 rfl (lv_at hl 2 rfl) ?_
        refine gt_2_4 X wm_67 hP (ms hk 11) dX2_dropFirst_94 ?_
        refine lv_iconst (v := 0) hx hb dX2_dropFirst_97 (by decide) ?_
        refine lv_iload_n hx hb dX2_dropFirst_98 rfl (lv_at hl 0 rfl) ?_
        obtain ⟨g15, h⟩ := gd_e h
        refine mw_cpy X hP hS hl.1 (ms hk 16) rfl (ms hk 16) (fun _ => rfl) g15.1 g15.2.1 g15.2.2.1 g15.2.2.2.1 g15.2.2.2.2 ⟨Nat.le_of_ble_eq_true rfl, Nat.le_of_ble_eq_true rfl⟩ (Nat.le_of_ble_eq_true rfl) wm_270 wm_ncpy wm_scpy wm_iSys dX2_dropFirst_99 (fun H locs M14 eM14 hP hS => ?_)
        have h := bd_e h eM14
        refine lv_aload_n hx hb dX2_dropFirst_102 rfl (lv_at hl 2 rfl) ?_
        refine gt_2_5 X wm_68 hP (ms hk 11) dX2_dropFirst_103 ?_
        refine lv_iload_n hx hb dX2_dropFirst_106 rfl (lv_at hl 1 rfl) ?_
        refine lv_aload_n hx hb dX2_dropFirst_107 rfl (lv_at hl 2 rfl) ?_
        refine gt_2_5 X wm_68 hP (ms hk 11) dX2_dropFirst_108 ?_
        refine lv_iconst (v := 0) hx hb dX2_dropFirst_111 (by decide) ?_
        refine lv_iload_n hx hb dX2_dropFirst_112 rfl (lv_at hl 0 rfl) ?_
        obtain ⟨g17, h⟩ := gd_e h
        refine mw_cpy X hP hS hl.1 (ms hk 17) rfl (ms hk 17) (fun _ => rfl) g17.1 g17.2.1 g17.2.2.1 g17.2.2.2.1 g17.2.2.2.2 ⟨Nat.le_of_ble_eq_true rfl, Nat.le_of_ble_eq_true rfl⟩ (Nat.le_of_ble_eq_true rfl) wm_270 wm_ncpy wm_scpy wm_iSys dX2_dropFirst_113 (fun H locs M16 eM16 hP hS => ?_)
        have h := bd_e h eM16
        refine lv_aload_n hx hb dX2_dropFirst_116 rfl (lv_at hl 2 rfl) ?_
        refine lv_iload_n hx hb dX2_dropFirst_117 rfl (lv_at hl 0 rfl) ?_
        refine pt_2_8 X wm_116 hP hS (ms hk 11) dX2_dropFirst_118 (fun H locs M18 eM18 hP hS => ?_)
        have h := bd_e h eM18
        refine lv_aload_n hx hb dX2_dropFirst_121 rfl (lv_at hl 2 rfl) ?_
        refine lv_dup hx hb dX2_dropFirst_122 rfl ?_
        refine gt_2_7 X wm_70 hP (ms hk 11) dX2_dropFirst_123 ?_
        refine lv_iload_n hx hb dX2_dropFirst_126 rfl (lv_at hl 1 rfl) ?_
        refine lv_iadd hx hb dX2_dropFirst_127 ?_
        refine pt_2_7 X wm_70 hP hS (ms hk 11) dX2_dropFirst_128 (fun H locs M19 eM19 hP hS => ?_)
        have h := bd_e h eM19
        refine lv_iload_n hx hb dX2_dropFirst_131 rfl (lv_at hl 1 rfl) ?_
        have h := Option.some.inj h
        exact mw_iret X hr hlocks hP hS (congrArg Prod.fst h) (congrArg Prod.snd h) dX2_dropFirst_132
      · have h := br_0 h c5
        refine lv_iconst (v := 0) hx hb dX2_dropFirst_30 (by decide) ?_
        have h := Option.some.inj h
        exact mw_iret X hr hlocks hP hS (congrArg Prod.fst h) (congrArg Prod.snd h) dX2_dropFirst_31
/-! SealedGroups$Journal.loseRecords -/
noncomputable def f_X2_loseRecords_L64 (k : Nat) (M : Mem) (y3 y4 : Int32) : Option (Int32 × Mem) :=
bd (st M k 11 8 (if (0 : Int32) < ((y4 - (M k 11 7)) + (1 : Int32)) then ((y4 - (M k 11 7)) + (1 : Int32)) else (0 : Int32))) (fun M5 =>
bd (st M5 k 11 9 y4) (fun M6 =>
some ((y3 - (M6 k 11 8)), M6)))
noncomputable def f_X2_loseRecords (k : Nat) (M : Mem) (a1 a2 : Int32) : Option (Int32 × Mem) :=
bd ((M k 11 8)) (fun x1 =>
bO (f_X2_last k M) (fun v2 =>
bd ((if (M k 11 9) < v2 then (M k 11 9) else v2)) (fun x3 =>
(if a1 = 0 then
f_X2_loseRecords_L64 k M x1 x3
else
bO (f_X2_has k M x3) (fun v7 =>
(if v7 = 0 then
f_X2_loseRecords_L64 k M x1 x3
else
(if x3 ≤ a2 then
f_X2_loseRecords_L64 k M x1 x3
else
bO (f_X2_at k 12 M x3) (fun v10 =>
(if v10 = (2 : Int32) then
f_X2_loseRecords_L64 k M x1 x3
else
(if v10 = (5 : Int32) then
f_X2_loseRecords_L64 k M x1 x3
else
bd (x3 + (-1 : Int32)) (fun x13 =>
f_X2_loseRecords_L64 k M x1 x13)))))))))))
theorem pk_X2_loseRecords : Pk "SealedGroups$Journal" yX2_loseRecords cX2_loseRecords 6 (some .int) 2 := ⟨wm_498, wm_44, rfl, by decide +kernel⟩
theorem pv_X2_loseRecords : Cond.instanceMethod yX2_loseRecords ∈ wsL_law ∧ Cond.selects "SealedGroups$Journal" yX2_loseRecords yX2_loseRecords ∈ wsL_law := ⟨wm_496, wm_497⟩
set_option maxHeartbeats 4000000 in
set_option maxRecDepth 100000 in
theorem c_X2_loseRecords (l : Launch) (E : En) (hA : AdOK E) {k : Nat} {M : Mem} {a1 a2 : Int32} {r0 : Int32} {M0 : Mem} (hk : k < 7) (h : f_X2_loseRecords k M a1 a2 = some (r0, M0)) : Met l yX2_loseRecords (Wm yX2_loseRecords cX2_loseRecords 6 (some .int)) ({ frames := 1, cells := 0, slots := 0, locals := 23 } : Room) (va_Pc [Value.ref (E.2.2 k 11), Value.int a1, Value.int a2] (Wd E M)) (QI E r0 M0) 0 0 (AA E) := by
  refine Met.ofW (cc := cX2_loseRecords) (maxL := 6) (ret := (some .int)) (by decide +kernel) rfl ?_
  intro p e s m args below meth c s₁ B hml hv
  obtain ⟨rfl, hP, hK⟩ := hv
  have X : Cx E (AA E) p s m c _ cX2_loseRecords 6 RX2 := ⟨⟨B.exec, B.bytes, hml, findClass_of_methodNamed B.named, fun w hw => atoms_spec (ws := Wm yX2_loseRecords cX2_loseRecords 6 (some .int)) B.pre w (List.mem_cons_of_mem _ hw)⟩, hK, hA, fun _ h => h⟩
  have hx := B.exec
  have hb := B.bytes
  have hr := B.returns
  have hlocks := B.notSynchronized
  clear B hml
  have hS : va_S (AA E) s.heap s.heap [] := va_S.rf
  have hl := lv_entry ([Value.ref (E.2.2 k 11), Value.int a1, Value.int a2]) (n := 6) (Nat.le_of_ble_eq_true rfl)
  rw [lg_entry_eq]
  generalize (lg_sl ([Value.ref (E.2.2 k 11), Value.int a1, Value.int a2]) ++ List.replicate (6 - (lg_sl ([Value.ref (E.2.2 k 11), Value.int a1, Value.int a2])).length) Slot.unset).toArray = ls at hl ⊢
  have hl : lv_has ls 6 [(0, .ref (E.2.2 k 11)), (1, .int a1), (2, .int a2)] := hl
  have w_L64 : ∀ (M : Mem) (y3 y4 : Int32) (H : Heap) (locs : List Loc) (ls : Array Slot), f_X2_loseRecords_L64 k M y3 y4 = some (r0, M0) → va_P E.1 vwCl (wl E M) H → va_S (AA E) s.heap H locs → lv_has ls 6 [(0, .ref (E.2.2 k 11)), (3, .int y3), (4, .int y4)] → W p l e (headSpec (Wm yX2_loseRecords cX2_loseRecords 6 (some .int)) ({ frames := 1, cells := 0, slots := 0, locals := 23 } : Room)).room s m ([Value.ref (E.2.2 k 11), Value.int a1, Value.int a2] : List Value).toArray below meth c H locs 0 0 (MQ below (QI E r0 M0) ([Value.ref (E.2.2 k 11), Value.int a1, Value.int a2] : List Value).toArray s 0 0 (AA E)) (F0 m 64 ls []) := by
    intro M y3 y4 H locs ls h hP hS hl
    unfold f_X2_loseRecords_L64 at h
    refine lv_aload_n hx hb dX2_loseRecords_64 rfl (lv_at hl 0 rfl) ?_
    refine lv_iconst (v := 0) hx hb dX2_loseRecords_65 (by decide) ?_
    refine lv_iload hx hb dX2_loseRecords_66 (lv_at hl 2 rfl) ?_
    refine lv_aload_n hx hb dX2_loseRecords_68 rfl (lv_at hl 0 rfl) ?_
    refine gt_2_7 X wm_70 hP (ms hk 11) dX2_loseRecords_69 ?_
    refine lv_isub hx hb dX2_loseRecords_72 ?_
    refine lv_iconst (v := 1) hx hb dX2_loseRecords_73 (by decide) ?_
    refine lv_iadd hx hb dX2_loseRecords_74 ?_
    refine mw_max X hl.1 ⟨Nat.le_of_ble_eq_true rfl, Nat.le_of_ble_eq_true rfl⟩ ⟨Nat.zero_le _, Nat.zero_le _⟩ (Nat.le_of_ble_eq_true rfl) wm_203 wm_smax wm_iMath wm_cmax dX2_loseRecords_75 ?_
    refine pt_2_8 X wm_116 hP hS (ms hk 11) dX2_loseRecords_78 (fun H locs M5 eM5 hP hS => ?_)
    have h := bd_e h eM5
    refine lv_aload_n hx hb dX2_loseRecords_81 rfl (lv_at hl 0 rfl) ?_
    refine lv_iload hx hb dX2_loseRecords_82 (lv_at hl 2 rfl) ?_
    refine pt_2_9 X wm_186 hP hS (ms hk 11) dX2_loseRecords_84 (fun H locs M6 eM6 hP hS => ?_)
    have h := bd_e h eM6
    refine lv_iload_n hx hb dX2_loseRecords_87 rfl (lv_at hl 1 rfl) ?_
    refine lv_aload_n hx hb dX2_loseRecords_88 rfl (lv_at hl 0 rfl) ?_
    refine gt_2_8 X wm_116 hP (ms hk 11) dX2_loseRecords_89 ?_
    refine lv_isub hx hb dX2_loseRecords_92 ?_
    have h := Option.some.inj h
    exact mw_iret X hr hlocks hP hS (congrArg Prod.fst h) (congrArg Prod.snd h) dX2_loseRecords_93
  unfold f_X2_loseRecords at h
  refine lv_aload_n hx hb dX2_loseRecords_0 rfl (lv_at hl 0 rfl) ?_
  refine gt_2_8 X wm_116 hP (ms hk 11) dX2_loseRecords_1 ?_
  refine lv_topi (fun x1 ex1 => ?_)
  have h := bd_e h ex1
  refine lv_istore_n (lv' := [(3, .int x1), (0, .ref (E.2.2 k 11)), (1, .int a1), (2, .int a2)]) hx hb dX2_loseRecords_4 rfl hl (by decide) rfl (fun ls hl => ?_)
  refine lv_aload_n hx hb dX2_loseRecords_5 rfl (lv_at hl 1 rfl) ?_
  obtain ⟨v2, hv2, h⟩ := bO_e h
  refine mw_callVi X (c_X2_last l E hA hk hv2) pk_X2_last pv_X2_last wm_208 ⟨Nat.le_of_ble_eq_true rfl, Nat.le_of_ble_eq_true rfl⟩ ⟨rfl, rfl⟩ hP hS (ms hk 11) rfl rfl rfl rfl hl.1 (Nat.le_of_ble_eq_true rfl) ⟨Nat.zero_le _, Nat.zero_le _⟩ rfl dX2_loseRecords_6 (fun H locs hP hS => ?_)
  refine lv_aload_n hx hb dX2_loseRecords_9 rfl (lv_at hl 1 rfl) ?_
  refine gt_2_9 X wm_186 hP (ms hk 11) dX2_loseRecords_10 ?_
  refine mw_min X hl.1 ⟨Nat.le_of_ble_eq_true rfl, Nat.le_of_ble_eq_true rfl⟩ ⟨Nat.zero_le _, Nat.zero_le _⟩ (Nat.le_of_ble_eq_true rfl) wm_117 wm_smin wm_iMath wm_cmin dX2_loseRecords_13 ?_
  refine lv_topi (fun x3 ex3 => ?_)
  have h := bd_e h ex3
  refine lv_istore (lv' := [(4, .int x3), (3, .int x1), (0, .ref (E.2.2 k 11)), (1, .int a1), (2, .int a2)]) hx hb dX2_loseRecords_16 hl (by decide) rfl (fun ls hl => ?_)
  refine lv_iload_n hx hb dX2_loseRecords_18 rfl (lv_at hl 3 rfl) ?_
  refine lv_if_eq (tgt := 64) hx hb dX2_loseRecords_19 (by decide) (fun c4 => ?_) (fun c4 => ?_)
  · have h := br_1 h c4
    exact w_L64 _ _ _ _ _ _ h hP hS (lv_sub hl [2, 1, 0] rfl)
  · have h := br_0 h c4
    refine lv_aload_n hx hb dX2_loseRecords_22 rfl (lv_at hl 2 rfl) ?_
    refine lv_iload hx hb dX2_loseRecords_23 (lv_at hl 0 rfl) ?_
    obtain ⟨v7, hv7, h⟩ := bO_e h
    refine mw_callVi X (c_X2_has l E hA hk hv7) pk_X2_has pv_X2_has wm_187 ⟨Nat.le_of_ble_eq_true rfl, Nat.le_of_ble_eq_true rfl⟩ ⟨rfl, rfl⟩ hP hS (ms hk 11) rfl rfl rfl rfl hl.1 (Nat.le_of_ble_eq_true rfl) ⟨Nat.zero_le _, Nat.zero_le _⟩ rfl dX2_loseRecords_25 (fun H locs hP hS => ?_)
    refine lv_if_eq (tgt := 64) hx hb dX2_loseRecords_28 (by decide) (fun c8 => ?_) (fun c8 => ?_)
    · have h := br_1 h c8
      exact w_L64 _ _ _ _ _ _ h hP hS (lv_sub hl [2, 1, 0] rfl)
    · have h := br_0 h c8
      refine lv_iload hx hb dX2_loseRecords_31 (lv_at hl 0 rfl) ?_
      refine lv_iload_n hx hb dX2_loseRecords_33 rfl (lv_at hl 4 rfl) ?_
      refine lv_icmp_le (tgt := 64) hx hb dX2_loseRecords_34 (by decide) (fun c9 => ?_) (fun c9 => ?_)
      · have h := br_1 h c9
        exact w_L64 _ _ _ _ _ _ h hP hS (lv_sub hl [2, 1, 0] rfl)
      · have h := br_0 h c9
        refine lv_aload_n hx hb dX2_loseRecords_37 rfl (lv_at hl 2 rfl) ?_
        refine lv_aload_n hx hb dX2_loseRecords_38 rfl (lv_at hl 2 rfl) ?_
        refine gt_2_0 X wm_63 hP (ms hk 11) dX2_loseRecords_39 ?_
        refine lv_iload hx hb dX2_loseRecords_42 (lv_at hl 0 rfl) ?_
        obtain ⟨v10, hv10, h⟩ := bO_e h
        refine mw_callVi X (c_X2_at l E hA hk (by decide) hv10) pk_X2_at pv_X2_at wm_191 ⟨Nat.le_of_ble_eq_true rfl, Nat.le_of_ble_eq_true rfl⟩ ⟨rfl, rfl⟩ hP hS (ms hk 11) rfl rfl rfl rfl hl.1 (Nat.le_of_ble_eq_true rfl) ⟨Nat.zero_le _, Nat.zero_le _⟩ rfl dX2_loseRecords_44 (fun H locs hP hS => ?_)
        refine lv_istore (lv' := [(5, .int v10), (4, .int x3), (3, .int x1), (0, .ref (E.2.2 k 11)), (1, .int a1), (2, .int a2)]) hx hb dX2_loseRecords_47 hl (by decide) rfl (fun ls hl => ?_)
        refine lv_iload hx hb dX2_loseRecords_49 (lv_at hl 0 rfl) ?_
        refine lv_iconst (v := 2) hx hb dX2_loseRecords_51 (by decide) ?_
        refine lv_icmp_eq (tgt := 64) hx hb dX2_loseRecords_52 (by decide) (fun c11 => ?_) (fun c11 => ?_)
        · have h := br_1 h c11
          exact w_L64 _ _ _ _ _ _ h hP hS (lv_sub hl [3, 2, 1] rfl)
        · have h := br_0 h c11
          refine lv_iload hx hb dX2_loseRecords_55 (lv_at hl 0 rfl) ?_
          refine lv_iconst (v := 5) hx hb dX2_loseRecords_57 (by decide) ?_
          refine lv_icmp_eq (tgt := 64) hx hb dX2_loseRecords_58 (by decide) (fun c12 => ?_) (fun c12 => ?_)
          · have h := br_1 h c12
            exact w_L64 _ _ _ _ _ _ h hP hS (lv_sub hl [3, 2, 1] rfl)
          · have h := br_0 h c12
            obtain ⟨x13, ex13⟩ : ∃ y : Int32, y = x3 + (-1 : Int32) := ⟨_, rfl⟩
            have h := bd_e h ex13
            refine lv_iinc (v := x13) (lv' := [(4, .int x13), (5, .int v10), (3, .int x1), (0, .ref (E.2.2 k 11)), (1, .int a1), (2, .int a2)]) hx hb dX2_loseRecords_61 hl (k := 1) rfl (by rw [ex13]; rfl) (by decide) rfl (fun ls hl => ?_)
            exact w_L64 _ _ _ _ _ _ h hP hS (lv_sub hl [3, 2, 0] rfl)
/-! SealedGroups$Journal.settledValueOf -/
noncomputable def f_X2_settledValueOf_L126 (k : Nat) (M : Mem) (K15 : Int32 → Int32 → Int32 → Option Int32) (y1 y2 y3 : Int32) : Option Int32 :=
bd (y3 + (-1 : Int32)) (fun x8 =>
K15 y1 y2 x8)
noncomputable def f_X2_settledValueOf_L50 (k : Nat) (M : Mem) (K15 : Int32 → Int32 → Int32 → Option Int32) (y1 y2 y3 z0 : Int32) : Option Int32 :=
gd (inb y3 128) (
(if (M k 12 (y3).toNatClampNeg) = (0 : Int32) then
bd ((y2 &&& (z0 ^^^ (-1 : Int32)))) (fun x7 =>
f_X2_settledValueOf_L126 k M K15 y1 x7 y3)
else if (M k 12 (y3).toNatClampNeg) = (1 : Int32) then
gd (inb y3 128) (
(if (M k 14 (y3).toNatClampNeg) = y1 then
(if (y2 &&& z0) = 0 then
f_X2_settledValueOf_L126 k M K15 y1 y2 y3
else
gd (inb y3 128) (
some (M k 16 (y3).toNatClampNeg)))
else
f_X2_settledValueOf_L126 k M K15 y1 y2 y3))
else if (M k 12 (y3).toNatClampNeg) = (2 : Int32) then
bd ((y2 ||| z0)) (fun x15 =>
f_X2_settledValueOf_L126 k M K15 y1 x15 y3)
else 
f_X2_settledValueOf_L126 k M K15 y1 y2 y3))
noncomputable def f_X2_settledValueOf_L49 (k : Nat) (M : Mem) (K15 : Int32 → Int32 → Int32 → Option Int32) (y1 y2 y3 : Int32) : Option Int32 :=
f_X2_settledValueOf_L50 k M K15 y1 y2 y3 (0 : Int32)
noncomputable def f_X2_settledValueOf_L15 (k : Nat) (M : Mem) (K15 : Int32 → Int32 → Int32 → Option Int32) (y1 y2 y3 : Int32) : Option Int32 :=
(if y3 < 0 then
some (-1000004 : Int32)
else
gd (inb y3 128) (
(if (M k 13 (y3).toNatClampNeg) < 0 then
f_X2_settledValueOf_L49 k M K15 y1 y2 y3
else
gd (inb y3 128) (
(if (4 : Int32) ≤ (M k 13 (y3).toNatClampNeg) then
f_X2_settledValueOf_L49 k M K15 y1 y2 y3
else
gd (inb y3 128) (
f_X2_settledValueOf_L50 k M K15 y1 y2 y3 ((1 : Int32) <<< ((M k 13 (y3).toNatClampNeg) &&& 31))))))))
noncomputable def f_X2_settledValueOf (k : Nat) (M : Mem) (a1 : Int32) : Option Int32 :=
bd (((if (128 : Int32) < (M k 11 8) then (128 : Int32) else (M k 11 8)) - (1 : Int32))) (fun x1 =>
itr (f_X2_settledValueOf_L15 k M) (fun _ _ _ => none) FU a1 (0 : Int32) x1)
theorem pk_X2_settledValueOf : Pk "SealedGroups$Journal" yX2_settledValueOf cX2_settledValueOf 5 (some .int) 1 := ⟨wm_115, wm_44, rfl, by decide +kernel⟩
theorem pv_X2_settledValueOf : Cond.instanceMethod yX2_settledValueOf ∈ wsL_law ∧ Cond.selects "SealedGroups$Journal" yX2_settledValueOf yX2_settledValueOf ∈ wsL_law := ⟨wm_113, wm_114⟩
set_option maxHeartbeats 4000000 in
set_option maxRecDepth 100000 in
theorem c_X2_settledValueOf (l : Launch) (E : En) (hA : AdOK E) {k : Nat} {M : Mem} {a1 : Int32} {r0 : Int32} (hk : k < 7) (h : f_X2_settledValueOf k M a1 = some r0) : Met l yX2_settledValueOf (Wm yX2_settledValueOf cX2_settledValueOf 5 (some .int)) ({ frames := 1, cells := 0, slots := 0, locals := 21 } : Room) (va_Pc [Value.ref (E.2.2 k 11), Value.int a1] (Wd E M)) (QI E r0 M) 0 0 (AA E) := by
  refine Met.ofW (cc := cX2_settledValueOf) (maxL := 5) (ret := (some .int)) (by decide +kernel) rfl ?_
  intro p e s m args below meth c s₁ B hml hv
  obtain ⟨rfl, hP, hK⟩ := hv
  have X : Cx E (AA E) p s m c _ cX2_settledValueOf 5 RX2 := ⟨⟨B.exec, B.bytes, hml, findClass_of_methodNamed B.named, fun w hw => atoms_spec (ws := Wm yX2_settledValueOf cX2_settledValueOf 5 (some .int)) B.pre w (List.mem_cons_of_mem _ hw)⟩, hK, hA, fun _ h => h⟩
  have hx := B.exec
  have hb := B.bytes
  have hr := B.returns
  have hlocks := B.notSynchronized
  clear B hml
  have hS : va_S (AA E) s.heap s.heap [] := va_S.rf
  have hl := lv_entry ([Value.ref (E.2.2 k 11), Value.int a1]) (n := 5) (Nat.le_of_ble_eq_true rfl)
  rw [lg_entry_eq]
  generalize (lg_sl ([Value.ref (E.2.2 k 11), Value.int a1]) ++ List.replicate (5 - (lg_sl ([Value.ref (E.2.2 k 11), Value.int a1])).length) Slot.unset).toArray = ls at hl ⊢
  have hl : lv_has ls 5 [(0, .ref (E.2.2 k 11)), (1, .int a1)] := hl
  have w_L15 : ∀ (n15 : Nat)  (y1 y2 y3 : Int32) (H : Heap) (locs : List Loc) (ls : Array Slot), itr (f_X2_settledValueOf_L15 k M) (fun _ _ _ => none) n15 y1 y2 y3 = some r0 → va_P E.1 vwCl (wl E M) H → va_S (AA E) s.heap H locs → lv_has ls 5 [(0, .ref (E.2.2 k 11)), (1, .int y1), (2, .int y2), (3, .int y3)] → W p l e (headSpec (Wm yX2_settledValueOf cX2_settledValueOf 5 (some .int)) ({ frames := 1, cells := 0, slots := 0, locals := 21 } : Room)).room s m ([Value.ref (E.2.2 k 11), Value.int a1] : List Value).toArray below meth c H locs 0 0 (MQ below (QI E r0 M) ([Value.ref (E.2.2 k 11), Value.int a1] : List Value).toArray s 0 0 (AA E)) (F0 m 15 ls []) := by
    intro n15
    induction n15 with
    | zero => intro y1 y2 y3 H locs ls h; exact (nomatch (show (none : Option Int32) = some _ from h))
    | succ n15 ih15 =>
      intro y1 y2 y3 H locs ls h hP hS hl
      have h : f_X2_settledValueOf_L15 k M (itr (f_X2_settledValueOf_L15 k M) (fun _ _ _ => none) n15) y1 y2 y3 = some r0 := h
      have w_L126 : ∀  (y1 y2 y3 : Int32) (H : Heap) (locs : List Loc) (ls : Array Slot), f_X2_settledValueOf_L126 k M (itr (f_X2_settledValueOf_L15 k M) (fun _ _ _ => none) n15) y1 y2 y3 = some r0 → va_P E.1 vwCl (wl E M) H → va_S (AA E) s.heap H locs → lv_has ls 5 [(0, .ref (E.2.2 k 11)), (1, .int y1), (2, .int y2), (3, .int y3)] → W p l e (headSpec (Wm yX2_settledValueOf cX2_settledValueOf 5 (some .int)) ({ frames := 1, cells := 0, slots := 0, locals := 21 } : Room)).room s m ([Value.ref (E.2.2 k 11), Value.int a1] : List Value).toArray below meth c H locs 0 0 (MQ below (QI E r0 M) ([Value.ref (E.2.2 k 11), Value.int a1] : List Value).toArray s 0 0 (AA E)) (F0 m 126 ls []) := by
        intro y1 y2 y3 H locs ls h hP hS hl
        unfold f_X2_settledValueOf_L126 at h
        obtain ⟨x8, ex8⟩ : ∃ y : Int32, y = y3 + (-1 : Int32) := ⟨_, rfl⟩
        have h := bd_e h ex8
        refine lv_iinc (v := x8) (lv' := [(3, .int x8), (0, .ref (E.2.2 k 11)), (1, .int y1), (2, .int y2)]) hx hb dX2_settledValueOf_126 hl (k := 3) rfl (by rw [ex8]; rfl) (by decide) rfl (fun ls hl => ?_)
        refine lv_goto (tgt := 15) hx hb dX2_settledValueOf_129 (by decide) ?_
        exact ih15 _ _ _ _ _ _ h hP hS (lv_sub hl [1, 2, 3, 0] rfl)
      have w_L50 : ∀  (y1 y2 y3 z0 : Int32) (H : Heap) (locs : List Loc) (ls : Array Slot), f_X2_settledValueOf_L50 k M (itr (f_X2_settledValueOf_L15 k M) (fun _ _ _ => none) n15) y1 y2 y3 z0 = some r0 → va_P E.1 vwCl (wl E M) H → va_S (AA E) s.heap H locs → lv_has ls 5 [(0, .ref (E.2.2 k 11)), (1, .int y1), (2, .int y2), (3, .int y3)] → W p l e (headSpec (Wm yX2_settledValueOf cX2_settledValueOf 5 (some .int)) ({ frames := 1, cells := 0, slots := 0, locals := 21 } : Room)).room s m ([Value.ref (E.2.2 k 11), Value.int a1] : List Value).toArray below meth c H locs 0 0 (MQ below (QI E r0 M) ([Value.ref (E.2.2 k 11), Value.int a1] : List Value).toArray s 0 0 (AA E)) (F0 m 50 ls [.int z0]) := by
        intro y1 y2 y3 z0 H locs ls h hP hS hl
        unfold f_X2_settledValueOf_L50 at h
        refine lv_istore (lv' := [(4, .int z0), (0, .ref (E.2.2 k 11)), (1, .int y1), (2, .int y2), (3, .int y3)]) hx hb dX2_settledValueOf_50 hl (by decide) rfl (fun ls hl => ?_)
        refine lv_aload_n hx hb dX2_settledValueOf_52 rfl (lv_at hl 1 rfl) ?_
        refine gt_2_0 X wm_63 hP (ms hk 11) dX2_settledValueOf_53 ?_
        refine lv_iload_n hx hb dX2_settledValueOf_56 rfl (lv_at hl 4 rfl) ?_
        obtain ⟨g5, h⟩ := gd_e h
        refine mw_ld X hP (ms hk 12) rfl (inb_vp g5) rfl dX2_settledValueOf_57 ?_
        by_cases c6 : (M k 12 (y3).toNatClampNeg) = (0 : Int32)
        · have h := br_1 h c6
          refine lv_tableIn (tgt := 92) hx hb dX2_settledValueOf_58 (by rw [c6] <;> decide) (by rw [c6] <;> decide) (by rw [c6] <;> rfl) (by decide) ?_
          refine lv_iload_n hx hb dX2_settledValueOf_92 rfl (lv_at hl 3 rfl) ?_
          refine lv_iload hx hb dX2_settledValueOf_93 (lv_at hl 0 rfl) ?_
          refine lv_iconst (v := -1) hx hb dX2_settledValueOf_95 (by decide) ?_
          refine lv_ixor hx hb dX2_settledValueOf_96 ?_
          refine lv_iand hx hb dX2_settledValueOf_97 ?_
          refine lv_topi (fun x7 ex7 => ?_)
          have h := bd_e h ex7
          refine lv_istore_n (lv' := [(2, .int x7), (4, .int z0), (0, .ref (E.2.2 k 11)), (1, .int y1), (3, .int y3)]) hx hb dX2_settledValueOf_98 rfl hl (by decide) rfl (fun ls hl => ?_)
          refine lv_goto (tgt := 126) hx hb dX2_settledValueOf_99 (by decide) ?_
          exact w_L126 _ _ _ _ _ _ h hP hS (lv_sub hl [2, 3, 0, 4] rfl)
        have h := br_0 h c6
        by_cases c9 : (M k 12 (y3).toNatClampNeg) = (1 : Int32)
        · have h := br_1 h c9
          refine lv_tableIn (tgt := 102) hx hb dX2_settledValueOf_58 (by rw [c9] <;> decide) (by rw [c9] <;> decide) (by rw [c9] <;> rfl) (by decide) ?_
          refine lv_aload_n hx hb dX2_settledValueOf_102 rfl (lv_at hl 1 rfl) ?_
          refine gt_2_2 X wm_65 hP (ms hk 11) dX2_settledValueOf_103 ?_
          refine lv_iload_n hx hb dX2_settledValueOf_106 rfl (lv_at hl 4 rfl) ?_
          obtain ⟨g10, h⟩ := gd_e h
          refine mw_ld X hP (ms hk 14) rfl (inb_vp g10) rfl dX2_settledValueOf_107 ?_
          refine lv_iload_n hx hb dX2_settledValueOf_108 rfl (lv_at hl 2 rfl) ?_
          refine lv_icmp_ne (tgt := 126) hx hb dX2_settledValueOf_109 (by decide) (fun c11 => ?_) (fun c11 => ?_)
          · have h := br_0 h c11
            exact w_L126 _ _ _ _ _ _ h hP hS (lv_sub hl [1, 2, 3, 4] rfl)
          · have h := br_1 h c11
            refine lv_iload_n hx hb dX2_settledValueOf_112 rfl (lv_at hl 3 rfl) ?_
            refine lv_iload hx hb dX2_settledValueOf_113 (lv_at hl 0 rfl) ?_
            refine lv_iand hx hb dX2_settledValueOf_115 ?_
            refine lv_if_eq (tgt := 126) hx hb dX2_settledValueOf_116 (by decide) (fun c12 => ?_) (fun c12 => ?_)
            · have h := br_1 h c12
              exact w_L126 _ _ _ _ _ _ h hP hS (lv_sub hl [1, 2, 3, 4] rfl)
            · have h := br_0 h c12
              refine lv_aload_n hx hb dX2_settledValueOf_119 rfl (lv_at hl 1 rfl) ?_
              refine gt_2_4 X wm_67 hP (ms hk 11) dX2_settledValueOf_120 ?_
              refine lv_iload_n hx hb dX2_settledValueOf_123 rfl (lv_at hl 4 rfl) ?_
              obtain ⟨g13, h⟩ := gd_e h
              refine mw_ld X hP (ms hk 16) rfl (inb_vp g13) rfl dX2_settledValueOf_124 ?_
              exact mw_iret X hr hlocks hP hS (Option.some.inj h) rfl dX2_settledValueOf_125
        have h := br_0 h c9
        by_cases c14 : (M k 12 (y3).toNatClampNeg) = (2 : Int32)
        · have h := br_1 h c14
          refine lv_tableIn (tgt := 84) hx hb dX2_settledValueOf_58 (by rw [c14] <;> decide) (by rw [c14] <;> decide) (by rw [c14] <;> rfl) (by decide) ?_
          refine lv_iload_n hx hb dX2_settledValueOf_84 rfl (lv_at hl 3 rfl) ?_
          refine lv_iload hx hb dX2_settledValueOf_85 (lv_at hl 0 rfl) ?_
          refine lv_ior hx hb dX2_settledValueOf_87 ?_
          refine lv_topi (fun x15 ex15 => ?_)
          have h := bd_e h ex15
          refine lv_istore_n (lv' := [(2, .int x15), (4, .int z0), (0, .ref (E.2.2 k 11)), (1, .int y1), (3, .int y3)]) hx hb dX2_settledValueOf_88 rfl hl (by decide) rfl (fun ls hl => ?_)
          refine lv_goto (tgt := 126) hx hb dX2_settledValueOf_89 (by decide) ?_
          exact w_L126 _ _ _ _ _ _ h hP hS (lv_sub hl [2, 3, 0, 4] rfl)
        have h := br_0 h c14
        have qc6 := sw_ne c6 (v := 0) rfl
        have qc9 := sw_ne c9 (v := 1) rfl
        have qc14 := sw_ne c14 (v := 2) rfl
        refine lv_tableOut (tgt := 126) hx hb dX2_settledValueOf_58 (by omega) (by decide) ?_
        exact w_L126 _ _ _ _ _ _ h hP hS (lv_sub hl [1, 2, 3, 4] rfl)
      have w_L49 : ∀  (y1 y2 y3 : Int32) (H : Heap) (locs : List Loc) (ls : Array Slot), f_X2_settledValueOf_L49 k M (itr (f_X2_settledValueOf_L15 k M) (fun _ _ _ => none) n15) y1 y2 y3 = some r0 → va_P E.1 vwCl (wl E M) H → va_S (AA E) s.heap H locs → lv_has ls 5 [(0, .ref (E.2.2 k 11)), (1, .int y1), (2, .int y2), (3, .int y3)] → W p l e (headSpec (Wm yX2_settledValueOf cX2_settledValueOf 5 (some .int)) ({ frames := 1, cells := 0, slots := 0, locals := 21 } : Room)).room s m ([Value.ref (E.2.2 k 11), Value.int a1] : List Value).toArray below meth c H locs 0 0 (MQ below (QI E r0 M) ([Value.ref (E.2.2 k 11), Value.int a1] : List Value).toArray s 0 0 (AA E)) (F0 m 49 ls []) := by
        intro y1 y2 y3 H locs ls h hP hS hl
        unfold f_X2_settledValueOf_L49 at h
        refine lv_iconst (v := 0) hx hb dX2_settledValueOf_49 (by decide) ?_
        exact w_L50 _ _ _ _ _ _ _ h hP hS (lv_sub hl [0, 1, 2, 3] rfl)
      unfold f_X2_settledValueOf_L15 at h
      refine lv_iload_n hx hb dX2_settledValueOf_15 rfl (lv_at hl 3 rfl) ?_
      refine lv_if_lt (tgt := 132) hx hb dX2_settledValueOf_16 (by decide) (fun c2 => ?_) (fun c2 => ?_)
      · have h := br_1 h c2
        refine lv_ldc hx hb X.1.2.2.2.1 (X.1.2.2.2.2 _ wm_121) dX2_settledValueOf_132 ?_
        exact mw_iret X hr hlocks hP hS (Option.some.inj h) rfl dX2_settledValueOf_134
      · have h := br_0 h c2
        refine lv_aload_n hx hb dX2_settledValueOf_19 rfl (lv_at hl 0 rfl) ?_
        refine gt_2_1 X wm_64 hP (ms hk 11) dX2_settledValueOf_20 ?_
        refine lv_iload_n hx hb dX2_settledValueOf_23 rfl (lv_at hl 3 rfl) ?_
        obtain ⟨g3, h⟩ := gd_e h
        refine mw_ld X hP (ms hk 13) rfl (inb_vp g3) rfl dX2_settledValueOf_24 ?_
        refine lv_if_lt (tgt := 49) hx hb dX2_settledValueOf_25 (by decide) (fun c4 => ?_) (fun c4 => ?_)
        · have h := br_1 h c4
          exact w_L49 _ _ _ _ _ _ h hP hS (lv_sub hl [0, 1, 2, 3] rfl)
        · have h := br_0 h c4
          refine lv_aload_n hx hb dX2_settledValueOf_28 rfl (lv_at hl 0 rfl) ?_
          refine gt_2_1 X wm_64 hP (ms hk 11) dX2_settledValueOf_29 ?_
          refine lv_iload_n hx hb dX2_settledValueOf_32 rfl (lv_at hl 3 rfl) ?_
          obtain ⟨g16, h⟩ := gd_e h
          refine mw_ld X hP (ms hk 13) rfl (inb_vp g16) rfl dX2_settledValueOf_33 ?_
          refine lv_iconst (v := 4) hx hb dX2_settledValueOf_34 (by decide) ?_
          refine lv_icmp_ge (tgt := 49) hx hb dX2_settledValueOf_35 (by decide) (fun c17 => ?_) (fun c17 => ?_)
          · have h := br_1 h c17
            exact w_L49 _ _ _ _ _ _ h hP hS (lv_sub hl [0, 1, 2, 3] rfl)
          · have h := br_0 h c17
            refine lv_iconst (v := 1) hx hb dX2_settledValueOf_38 (by decide) ?_
            refine lv_aload_n hx hb dX2_settledValueOf_39 rfl (lv_at hl 0 rfl) ?_
            refine gt_2_1 X wm_64 hP (ms hk 11) dX2_settledValueOf_40 ?_
            refine lv_iload_n hx hb dX2_settledValueOf_43 rfl (lv_at hl 3 rfl) ?_
            obtain ⟨g18, h⟩ := gd_e h
            refine mw_ld X hP (ms hk 13) rfl (inb_vp g18) rfl dX2_settledValueOf_44 ?_
            refine lv_ishl hx hb dX2_settledValueOf_45 ?_
            refine lv_goto (tgt := 50) hx hb dX2_settledValueOf_46 (by decide) ?_
            exact w_L50 _ _ _ _ _ _ _ h hP hS (lv_sub hl [0, 1, 2, 3] rfl)
  unfold f_X2_settledValueOf at h
  refine lv_iconst (v := 0) hx hb dX2_settledValueOf_0 (by decide) ?_
  refine lv_istore_n (lv' := [(2, .int (0 : Int32)), (0, .ref (E.2.2 k 11)), (1, .int a1)]) hx hb dX2_settledValueOf_1 rfl hl (by decide) rfl (fun ls hl => ?_)
  refine lv_aload_n hx hb dX2_settledValueOf_2 rfl (lv_at hl 1 rfl) ?_
  refine gt_2_8 X wm_116 hP (ms hk 11) dX2_settledValueOf_3 ?_
  refine lv_sipush (v := 128) hx hb dX2_settledValueOf_6 (by decide) ?_
  refine mw_min X hl.1 ⟨Nat.le_of_ble_eq_true rfl, Nat.le_of_ble_eq_true rfl⟩ ⟨Nat.zero_le _, Nat.zero_le _⟩ (Nat.le_of_ble_eq_true rfl) wm_117 wm_smin wm_iMath wm_cmin dX2_settledValueOf_9 ?_
  refine lv_iconst (v := 1) hx hb dX2_settledValueOf_12 (by decide) ?_
  refine lv_isub hx hb dX2_settledValueOf_13 ?_
  refine lv_topi (fun x1 ex1 => ?_)
  have h := bd_e h ex1
  refine lv_istore_n (lv' := [(3, .int x1), (2, .int (0 : Int32)), (0, .ref (E.2.2 k 11)), (1, .int a1)]) hx hb dX2_settledValueOf_14 rfl hl (by decide) rfl (fun ls hl => ?_)
  exact w_L15 FU _ _ _ _ _ _ h hP hS (lv_sub hl [2, 3, 1, 0] rfl)
/-! SealedGroups$Journal.tell -/
noncomputable def f_X2_tell_L36 (k : Nat) (M : Mem) (y1 y2 y3 z0 : Int32) : Option Int32 :=
(if y2 = (0 : Int32) then
some y3
else if y2 = (1 : Int32) then
bO (f_X2_at k 13 M y1) (fun v7 =>
some v7)
else if y2 = (2 : Int32) then
bO (f_X2_at k 14 M y1) (fun v9 =>
some v9)
else if y2 = (3 : Int32) then
(if z0 = 0 then
some (-1000004 : Int32)
else
bO (f_X2_at k 15 M y1) (fun v12 =>
some v12))
else if y2 = (4 : Int32) then
(if z0 = 0 then
some (-1000004 : Int32)
else
bO (f_X2_at k 16 M y1) (fun v15 =>
some v15))
else if y2 = (5 : Int32) then
(if (M k 11 9) < y1 then
some (0 : Int32)
else
some (1 : Int32))
else if y2 = (6 : Int32) then
(if y3 = (5 : Int32) then
bO (f_X2_at k 15 M y1) (fun v20 =>
some v20)
else
some (-1000004 : Int32))
else if y2 = (7 : Int32) then
(if y3 = (5 : Int32) then
bO (f_X2_at k 16 M y1) (fun v23 =>
some v23)
else
some (-1000004 : Int32))
else 
(if y3 = (3 : Int32) then
bO (f_X2_at k 17 M y1) (fun v25 =>
some v25)
else
some (-1000004 : Int32)))
noncomputable def f_X2_tell_L31 (k : Nat) (M : Mem) (y1 y2 y3 : Int32) : Option Int32 :=
f_X2_tell_L36 k M y1 y2 y3 (1 : Int32)
noncomputable def f_X2_tell (k : Nat) (M : Mem) (a1 a2 : Int32) : Option Int32 :=
bO (f_X2_has k M a1) (fun v1 =>
(if v1 = 0 then
some (-1000004 : Int32)
else
bO (f_X2_at k 12 M a1) (fun v3 =>
(if v3 = (1 : Int32) then
f_X2_tell_L31 k M a1 a2 v3
else
(if v3 = (3 : Int32) then
f_X2_tell_L31 k M a1 a2 v3
else
f_X2_tell_L36 k M a1 a2 v3 (0 : Int32))))))
theorem pk_X2_tell : Pk "SealedGroups$Journal" yX2_tell cX2_tell 5 (some .int) 2 := ⟨wm_185, wm_44, rfl, by decide +kernel⟩
theorem pv_X2_tell : Cond.instanceMethod yX2_tell ∈ wsL_law ∧ Cond.selects "SealedGroups$Journal" yX2_tell yX2_tell ∈ wsL_law := ⟨wm_183, wm_184⟩
set_option maxHeartbeats 4000000 in
set_option maxRecDepth 100000 in
theorem c_X2_tell (l : Launch) (E : En) (hA : AdOK E) {k : Nat} {M : Mem} {a1 a2 : Int32} {r0 : Int32} (hk : k < 7) (h : f_X2_tell k M a1 a2 = some r0) : Met l yX2_tell (Wm yX2_tell cX2_tell 5 (some .int)) ({ frames := 1, cells := 0, slots := 0, locals := 23 } : Room) (va_Pc [Value.ref (E.2.2 k 11), Value.int a1, Value.int a2] (Wd E M)) (QI E r0 M) 0 0 (AA E) := by
  refine Met.ofW (cc := cX2_tell) (maxL := 5) (ret := (some .int)) (by decide +kernel) rfl ?_
  intro p e s m args below meth c s₁ B hml hv
  obtain ⟨rfl, hP, hK⟩ := hv
  have X : Cx E (AA E) p s m c _ cX2_tell 5 RX2 := ⟨⟨B.exec, B.bytes, hml, findClass_of_methodNamed B.named, fun w hw => atoms_spec (ws := Wm yX2_tell cX2_tell 5 (some .int)) B.pre w (List.mem_cons_of_mem _ hw)⟩, hK, hA, fun _ h => h⟩
  have hx := B.exec
  have hb := B.bytes
  have hr := B.returns
  have hlocks := B.notSynchronized
  clear B hml
  have hS : va_S (AA E) s.heap s.heap [] := va_S.rf
  have hl := lv_entry ([Value.ref (E.2.2 k 11), Value.int a1, Value.int a2]) (n := 5) (Nat.le_of_ble_eq_true rfl)
  rw [lg_entry_eq]
  generalize (lg_sl ([Value.ref (E.2.2 k 11), Value.int a1, Value.int a2]) ++ List.replicate (5 - (lg_sl ([Value.ref (E.2.2 k 11), Value.int a1, Value.int a2])).length) Slot.unset).toArray = ls at hl ⊢
  have hl : lv_has ls 5 [(0, .ref (E.2.2 k 11)), (1, .int a1), (2, .int a2)] := hl
  have w_L36 : ∀  (y1 y2 y3 z0 : Int32) (H : Heap) (locs : List Loc) (ls : Array Slot), f_X2_tell_L36 k M y1 y2 y3 z0 = some r0 → va_P E.1 vwCl (wl E M) H → va_S (AA E) s.heap H locs → lv_has ls 5 [(0, .ref (E.2.2 k 11)), (1, .int y1), (2, .int y2), (3, .int y3)] → W p l e (headSpec (Wm yX2_tell cX2_tell 5 (some .int)) ({ frames := 1, cells := 0, slots := 0, locals := 23 } : Room)).room s m ([Value.ref (E.2.2 k 11), Value.int a1, Value.int a2] : List Value).toArray below meth c H locs 0 0 (MQ below (QI E r0 M) ([Value.ref (E.2.2 k 11), Value.int a1, Value.int a2] : List Value).toArray s 0 0 (AA E)) (F0 m 36 ls [.int z0]) := by
    intro y1 y2 y3 z0 H locs ls h hP hS hl
    unfold f_X2_tell_L36 at h
    refine lv_istore (lv' := [(4, .int z0), (0, .ref (E.2.2 k 11)), (1, .int y1), (2, .int y2), (3, .int y3)]) hx hb dX2_tell_36 hl (by decide) rfl (fun ls hl => ?_)
    refine lv_iload_n hx hb dX2_tell_38 rfl (lv_at hl 3 rfl) ?_
    by_cases c5 : y2 = (0 : Int32)
    · have h := br_1 h c5
      refine lv_tableIn (tgt := 84) hx hb dX2_tell_39 (by rw [c5] <;> decide) (by rw [c5] <;> decide) (by rw [c5] <;> rfl) (by decide) ?_
      refine lv_iload_n hx hb dX2_tell_84 rfl (lv_at hl 4 rfl) ?_
      exact mw_iret X hr hlocks hP hS (Option.some.inj h) rfl dX2_tell_85
    have h := br_0 h c5
    by_cases c6 : y2 = (1 : Int32)
    · have h := br_1 h c6
      refine lv_tableIn (tgt := 86) hx hb dX2_tell_39 (by rw [c6] <;> decide) (by rw [c6] <;> decide) (by rw [c6] <;> rfl) (by decide) ?_
      refine lv_aload_n hx hb dX2_tell_86 rfl (lv_at hl 1 rfl) ?_
      refine lv_aload_n hx hb dX2_tell_87 rfl (lv_at hl 1 rfl) ?_
      refine gt_2_1 X wm_64 hP (ms hk 11) dX2_tell_88 ?_
      refine lv_iload_n hx hb dX2_tell_91 rfl (lv_at hl 2 rfl) ?_
      obtain ⟨v7, hv7, h⟩ := bO_e h
      refine mw_callVi X (c_X2_at l E hA hk (by decide) hv7) pk_X2_at pv_X2_at wm_191 ⟨Nat.le_of_ble_eq_true rfl, Nat.le_of_ble_eq_true rfl⟩ ⟨rfl, rfl⟩ hP hS (ms hk 11) rfl rfl rfl rfl hl.1 (Nat.le_of_ble_eq_true rfl) ⟨Nat.zero_le _, Nat.zero_le _⟩ rfl dX2_tell_92 (fun H locs hP hS => ?_)
      exact mw_iret X hr hlocks hP hS (Option.some.inj h) rfl dX2_tell_95
    have h := br_0 h c6
    by_cases c8 : y2 = (2 : Int32)
    · have h := br_1 h c8
      refine lv_tableIn (tgt := 96) hx hb dX2_tell_39 (by rw [c8] <;> decide) (by rw [c8] <;> decide) (by rw [c8] <;> rfl) (by decide) ?_
      refine lv_aload_n hx hb dX2_tell_96 rfl (lv_at hl 1 rfl) ?_
      refine lv_aload_n hx hb dX2_tell_97 rfl (lv_at hl 1 rfl) ?_
      refine gt_2_2 X wm_65 hP (ms hk 11) dX2_tell_98 ?_
      refine lv_iload_n hx hb dX2_tell_101 rfl (lv_at hl 2 rfl) ?_
      obtain ⟨v9, hv9, h⟩ := bO_e h
      refine mw_callVi X (c_X2_at l E hA hk (by decide) hv9) pk_X2_at pv_X2_at wm_191 ⟨Nat.le_of_ble_eq_true rfl, Nat.le_of_ble_eq_true rfl⟩ ⟨rfl, rfl⟩ hP hS (ms hk 11) rfl rfl rfl rfl hl.1 (Nat.le_of_ble_eq_true rfl) ⟨Nat.zero_le _, Nat.zero_le _⟩ rfl dX2_tell_102 (fun H locs hP hS => ?_)
      exact mw_iret X hr hlocks hP hS (Option.some.inj h) rfl dX2_tell_105
    have h := br_0 h c8
    by_cases c10 : y2 = (3 : Int32)
    · have h := br_1 h c10
      refine lv_tableIn (tgt := 106) hx hb dX2_tell_39 (by rw [c10] <;> decide) (by rw [c10] <;> decide) (by rw [c10] <;> rfl) (by decide) ?_
      refine lv_iload hx hb dX2_tell_106 (lv_at hl 0 rfl) ?_
      refine lv_if_eq (tgt := 123) hx hb dX2_tell_108 (by decide) (fun c11 => ?_) (fun c11 => ?_)
      · have h := br_1 h c11
        refine lv_ldc hx hb X.1.2.2.2.1 (X.1.2.2.2.2 _ wm_121) dX2_tell_123 ?_
        exact mw_iret X hr hlocks hP hS (Option.some.inj h) rfl dX2_tell_125
      · have h := br_0 h c11
        refine lv_aload_n hx hb dX2_tell_111 rfl (lv_at hl 1 rfl) ?_
        refine lv_aload_n hx hb dX2_tell_112 rfl (lv_at hl 1 rfl) ?_
        refine gt_2_3 X wm_66 hP (ms hk 11) dX2_tell_113 ?_
        refine lv_iload_n hx hb dX2_tell_116 rfl (lv_at hl 2 rfl) ?_
        obtain ⟨v12, hv12, h⟩ := bO_e h
        refine mw_callVi X (c_X2_at l E hA hk (by decide) hv12) pk_X2_at pv_X2_at wm_191 ⟨Nat.le_of_ble_eq_true rfl, Nat.le_of_ble_eq_true rfl⟩ ⟨rfl, rfl⟩ hP hS (ms hk 11) rfl rfl rfl rfl hl.1 (Nat.le_of_ble_eq_true rfl) ⟨Nat.zero_le _, Nat.zero_le _⟩ rfl dX2_tell_117 (fun H locs hP hS => ?_)
        refine lv_goto (tgt := 125) hx hb dX2_tell_120 (by decide) ?_
        exact mw_iret X hr hlocks hP hS (Option.some.inj h) rfl dX2_tell_125
    have h := br_0 h c10
    by_cases c13 : y2 = (4 : Int32)
    · have h := br_1 h c13
      refine lv_tableIn (tgt := 126) hx hb dX2_tell_39 (by rw [c13] <;> decide) (by rw [c13] <;> decide) (by rw [c13] <;> rfl) (by decide) ?_
      refine lv_iload hx hb dX2_tell_126 (lv_at hl 0 rfl) ?_
      refine lv_if_eq (tgt := 143) hx hb dX2_tell_128 (by decide) (fun c14 => ?_) (fun c14 => ?_)
      · have h := br_1 h c14
        refine lv_ldc hx hb X.1.2.2.2.1 (X.1.2.2.2.2 _ wm_121) dX2_tell_143 ?_
        exact mw_iret X hr hlocks hP hS (Option.some.inj h) rfl dX2_tell_145
      · have h := br_0 h c14
        refine lv_aload_n hx hb dX2_tell_131 rfl (lv_at hl 1 rfl) ?_
        refine lv_aload_n hx hb dX2_tell_132 rfl (lv_at hl 1 rfl) ?_
        refine gt_2_4 X wm_67 hP (ms hk 11) dX2_tell_133 ?_
        refine lv_iload_n hx hb dX2_tell_136 rfl (lv_at hl 2 rfl) ?_
        obtain ⟨v15, hv15, h⟩ := bO_e h
        refine mw_callVi X (c_X2_at l E hA hk (by decide) hv15) pk_X2_at pv_X2_at wm_191 ⟨Nat.le_of_ble_eq_true rfl, Nat.le_of_ble_eq_true rfl⟩ ⟨rfl, rfl⟩ hP hS (ms hk 11) rfl rfl rfl rfl hl.1 (Nat.le_of_ble_eq_true rfl) ⟨Nat.zero_le _, Nat.zero_le _⟩ rfl dX2_tell_137 (fun H locs hP hS => ?_)
        refine lv_goto (tgt := 145) hx hb dX2_tell_140 (by decide) ?_
        exact mw_iret X hr hlocks hP hS (Option.some.inj h) rfl dX2_tell_145
    have h := br_0 h c13
    by_cases c16 : y2 = (5 : Int32)
    · have h := br_1 h c16
      refine lv_tableIn (tgt := 146) hx hb dX2_tell_39 (by rw [c16] <;> decide) (by rw [c16] <;> decide) (by rw [c16] <;> rfl) (by decide) ?_
      refine lv_iload_n hx hb dX2_tell_146 rfl (lv_at hl 2 rfl) ?_
      refine lv_aload_n hx hb dX2_tell_147 rfl (lv_at hl 1 rfl) ?_
      refine gt_2_9 X wm_186 hP (ms hk 11) dX2_tell_148 ?_
      refine lv_icmp_gt (tgt := 158) hx hb dX2_tell_151 (by decide) (fun c17 => ?_) (fun c17 => ?_)
      · have h := br_1 h c17
        refine lv_iconst (v := 0) hx hb dX2_tell_158 (by decide) ?_
        exact mw_iret X hr hlocks hP hS (Option.some.inj h) rfl dX2_tell_159
      · have h := br_0 h c17
        refine lv_iconst (v := 1) hx hb dX2_tell_154 (by decide) ?_
        refine lv_goto (tgt := 159) hx hb dX2_tell_155 (by decide) ?_
        exact mw_iret X hr hlocks hP hS (Option.some.inj h) rfl dX2_tell_159
    have h := br_0 h c16
    by_cases c18 : y2 = (6 : Int32)
    · have h := br_1 h c18
      refine lv_tableIn (tgt := 160) hx hb dX2_tell_39 (by rw [c18] <;> decide) (by rw [c18] <;> decide) (by rw [c18] <;> rfl) (by decide) ?_
      refine lv_iload_n hx hb dX2_tell_160 rfl (lv_at hl 4 rfl) ?_
      refine lv_iconst (v := 5) hx hb dX2_tell_161 (by decide) ?_
      refine lv_icmp_ne (tgt := 177) hx hb dX2_tell_162 (by decide) (fun c19 => ?_) (fun c19 => ?_)
      · have h := br_0 h c19
        refine lv_ldc hx hb X.1.2.2.2.1 (X.1.2.2.2.2 _ wm_121) dX2_tell_177 ?_
        exact mw_iret X hr hlocks hP hS (Option.some.inj h) rfl dX2_tell_179
      · have h := br_1 h c19
        refine lv_aload_n hx hb dX2_tell_165 rfl (lv_at hl 1 rfl) ?_
        refine lv_aload_n hx hb dX2_tell_166 rfl (lv_at hl 1 rfl) ?_
        refine gt_2_3 X wm_66 hP (ms hk 11) dX2_tell_167 ?_
        refine lv_iload_n hx hb dX2_tell_170 rfl (lv_at hl 2 rfl) ?_
        obtain ⟨v20, hv20, h⟩ := bO_e h
        refine mw_callVi X (c_X2_at l E hA hk (by decide) hv20) pk_X2_at pv_X2_at wm_191 ⟨Nat.le_of_ble_eq_true rfl, Nat.le_of_ble_eq_true rfl⟩ ⟨rfl, rfl⟩ hP hS (ms hk 11) rfl rfl rfl rfl hl.1 (Nat.le_of_ble_eq_true rfl) ⟨Nat.zero_le _, Nat.zero_le _⟩ rfl dX2_tell_171 (fun H locs hP hS => ?_)
        refine lv_goto (tgt := 179) hx hb dX2_tell_174 (by decide) ?_
        exact mw_iret X hr hlocks hP hS (Option.some.inj h) rfl dX2_tell_179
    have h := br_0 h c18
    by_cases c21 : y2 = (7 : Int32)
    · have h := br_1 h c21
      refine lv_tableIn (tgt := 180) hx hb dX2_tell_39 (by rw [c21] <;> decide) (by rw [c21] <;> decide) (by rw [c21] <;> rfl) (by decide) ?_
      refine lv_iload_n hx hb dX2_tell_180 rfl (lv_at hl 4 rfl) ?_
      refine lv_iconst (v := 5) hx hb dX2_tell_181 (by decide) ?_
      refine lv_icmp_ne (tgt := 197) hx hb dX2_tell_182 (by decide) (fun c22 => ?_) (fun c22 => ?_)
      · have h := br_0 h c22
        refine lv_ldc hx hb X.1.2.2.2.1 (X.1.2.2.2.2 _ wm_121) dX2_tell_197 ?_
        exact mw_iret X hr hlocks hP hS (Option.some.inj h) rfl dX2_tell_199
      · have h := br_1 h c22
        refine lv_aload_n hx hb dX2_tell_185 rfl (lv_at hl 1 rfl) ?_
        refine lv_aload_n hx hb dX2_tell_186 rfl (lv_at hl 1 rfl) ?_
        refine gt_2_4 X wm_67 hP (ms hk 11) dX2_tell_187 ?_
        refine lv_iload_n hx hb dX2_tell_190 rfl (lv_at hl 2 rfl) ?_
        obtain ⟨v23, hv23, h⟩ := bO_e h
        refine mw_callVi X (c_X2_at l E hA hk (by decide) hv23) pk_X2_at pv_X2_at wm_191 ⟨Nat.le_of_ble_eq_true rfl, Nat.le_of_ble_eq_true rfl⟩ ⟨rfl, rfl⟩ hP hS (ms hk 11) rfl rfl rfl rfl hl.1 (Nat.le_of_ble_eq_true rfl) ⟨Nat.zero_le _, Nat.zero_le _⟩ rfl dX2_tell_191 (fun H locs hP hS => ?_)
        refine lv_goto (tgt := 199) hx hb dX2_tell_194 (by decide) ?_
        exact mw_iret X hr hlocks hP hS (Option.some.inj h) rfl dX2_tell_199
    have h := br_0 h c21
    have qc5 := sw_ne c5 (v := 0) rfl
    have qc6 := sw_ne c6 (v := 1) rfl
    have qc8 := sw_ne c8 (v := 2) rfl
    have qc10 := sw_ne c10 (v := 3) rfl
    have qc13 := sw_ne c13 (v := 4) rfl
    have qc16 := sw_ne c16 (v := 5) rfl
    have qc18 := sw_ne c18 (v := 6) rfl
    have qc21 := sw_ne c21 (v := 7) rfl
    refine lv_tableOut (tgt := 200) hx hb dX2_tell_39 (by omega) (by decide) ?_
    refine lv_iload_n hx hb dX2_tell_200 rfl (lv_at hl 4 rfl) ?_
    refine lv_iconst (v := 3) hx hb dX2_tell_201 (by decide) ?_
    refine lv_icmp_ne (tgt := 217) hx hb dX2_tell_202 (by decide) (fun c24 => ?_) (fun c24 => ?_)
    · have h := br_0 h c24
      refine lv_ldc hx hb X.1.2.2.2.1 (X.1.2.2.2.2 _ wm_121) dX2_tell_217 ?_
      exact mw_iret X hr hlocks hP hS (Option.some.inj h) rfl dX2_tell_219
    · have h := br_1 h c24
      refine lv_aload_n hx hb dX2_tell_205 rfl (lv_at hl 1 rfl) ?_
      refine lv_aload_n hx hb dX2_tell_206 rfl (lv_at hl 1 rfl) ?_
      refine gt_2_5 X wm_68 hP (ms hk 11) dX2_tell_207 ?_
      refine lv_iload_n hx hb dX2_tell_210 rfl (lv_at hl 2 rfl) ?_
      obtain ⟨v25, hv25, h⟩ := bO_e h
      refine mw_callVi X (c_X2_at l E hA hk (by decide) hv25) pk_X2_at pv_X2_at wm_191 ⟨Nat.le_of_ble_eq_true rfl, Nat.le_of_ble_eq_true rfl⟩ ⟨rfl, rfl⟩ hP hS (ms hk 11) rfl rfl rfl rfl hl.1 (Nat.le_of_ble_eq_true rfl) ⟨Nat.zero_le _, Nat.zero_le _⟩ rfl dX2_tell_211 (fun H locs hP hS => ?_)
      refine lv_goto (tgt := 219) hx hb dX2_tell_214 (by decide) ?_
      exact mw_iret X hr hlocks hP hS (Option.some.inj h) rfl dX2_tell_219
  have w_L31 : ∀  (y1 y2 y3 : Int32) (H : Heap) (locs : List Loc) (ls : Array Slot), f_X2_tell_L31 k M y1 y2 y3 = some r0 → va_P E.1 vwCl (wl E M) H → va_S (AA E) s.heap H locs → lv_has ls 5 [(0, .ref (E.2.2 k 11)), (1, .int y1), (2, .int y2), (3, .int y3)] → W p l e (headSpec (Wm yX2_tell cX2_tell 5 (some .int)) ({ frames := 1, cells := 0, slots := 0, locals := 23 } : Room)).room s m ([Value.ref (E.2.2 k 11), Value.int a1, Value.int a2] : List Value).toArray below meth c H locs 0 0 (MQ below (QI E r0 M) ([Value.ref (E.2.2 k 11), Value.int a1, Value.int a2] : List Value).toArray s 0 0 (AA E)) (F0 m 31 ls []) := by
    intro y1 y2 y3 H locs ls h hP hS hl
    unfold f_X2_tell_L31 at h
    refine lv_iconst (v := 1) hx hb dX2_tell_31 (by decide) ?_
    refine lv_goto (tgt := 36) hx hb dX2_tell_32 (by decide) ?_
    exact w_L36 _ _ _ _ _ _ _ h hP hS (lv_sub hl [0, 1, 2, 3] rfl)
  unfold f_X2_tell at h
  refine lv_aload_n hx hb dX2_tell_0 rfl (lv_at hl 0 rfl) ?_
  refine lv_iload_n hx hb dX2_tell_1 rfl (lv_at hl 1 rfl) ?_
  obtain ⟨v1, hv1, h⟩ := bO_e h
  refine mw_callVi X (c_X2_has l E hA hk hv1) pk_X2_has pv_X2_has wm_187 ⟨Nat.le_of_ble_eq_true rfl, Nat.le_of_ble_eq_true rfl⟩ ⟨rfl, rfl⟩ hP hS (ms hk 11) rfl rfl rfl rfl hl.1 (Nat.le_of_ble_eq_true rfl) ⟨Nat.zero_le _, Nat.zero_le _⟩ rfl dX2_tell_2 (fun H locs hP hS => ?_)
  refine lv_if_ne (tgt := 11) hx hb dX2_tell_5 (by decide) (fun c2 => ?_) (fun c2 => ?_)
  · have h := br_0 h c2
    refine lv_aload_n hx hb dX2_tell_11 rfl (lv_at hl 0 rfl) ?_
    refine lv_aload_n hx hb dX2_tell_12 rfl (lv_at hl 0 rfl) ?_
    refine gt_2_0 X wm_63 hP (ms hk 11) dX2_tell_13 ?_
    refine lv_iload_n hx hb dX2_tell_16 rfl (lv_at hl 1 rfl) ?_
    obtain ⟨v3, hv3, h⟩ := bO_e h
    refine mw_callVi X (c_X2_at l E hA hk (by decide) hv3) pk_X2_at pv_X2_at wm_191 ⟨Nat.le_of_ble_eq_true rfl, Nat.le_of_ble_eq_true rfl⟩ ⟨rfl, rfl⟩ hP hS (ms hk 11) rfl rfl rfl rfl hl.1 (Nat.le_of_ble_eq_true rfl) ⟨Nat.zero_le _, Nat.zero_le _⟩ rfl dX2_tell_17 (fun H locs hP hS => ?_)
    refine lv_istore_n (lv' := [(3, .int v3), (0, .ref (E.2.2 k 11)), (1, .int a1), (2, .int a2)]) hx hb dX2_tell_20 rfl hl (by decide) rfl (fun ls hl => ?_)
    refine lv_iload_n hx hb dX2_tell_21 rfl (lv_at hl 0 rfl) ?_
    refine lv_iconst (v := 1) hx hb dX2_tell_22 (by decide) ?_
    refine lv_icmp_eq (tgt := 31) hx hb dX2_tell_23 (by decide) (fun c4 => ?_) (fun c4 => ?_)
    · have h := br_1 h c4
      exact w_L31 _ _ _ _ _ _ h hP hS (lv_sub hl [1, 2, 3, 0] rfl)
    · have h := br_0 h c4
      refine lv_iload_n hx hb dX2_tell_26 rfl (lv_at hl 0 rfl) ?_
      refine lv_iconst (v := 3) hx hb dX2_tell_27 (by decide) ?_
      refine lv_icmp_ne (tgt := 35) hx hb dX2_tell_28 (by decide) (fun c26 => ?_) (fun c26 => ?_)
      · have h := br_0 h c26
        refine lv_iconst (v := 0) hx hb dX2_tell_35 (by decide) ?_
        exact w_L36 _ _ _ _ _ _ _ h hP hS (lv_sub hl [1, 2, 3, 0] rfl)
      · have h := br_1 h c26
        exact w_L31 _ _ _ _ _ _ h hP hS (lv_sub hl [1, 2, 3, 0] rfl)
  · have h := br_1 h c2
    refine lv_ldc hx hb X.1.2.2.2.1 (X.1.2.2.2.2 _ wm_121) dX2_tell_8 ?_
    exact mw_iret X hr hlocks hP hS (Option.some.inj h) rfl dX2_tell_10
/-! SealedGroups$Journal.tellNumber -/
noncomputable def f_X2_tellNumber (k : Nat) (M : Mem) (a1 : Int32) : Option Int32 :=
(if a1 = (0 : Int32) then
some (M k 11 8)
else if a1 = (1 : Int32) then
(if (M k 11 8) = 0 then
some (0 : Int32)
else
some (M k 11 7))
else if a1 = (2 : Int32) then
bO (f_X2_last k M) (fun v5 =>
some v5)
else if a1 = (3 : Int32) then
(if (M k 11 8) = 0 then
some (0 : Int32)
else
some (if (0 : Int32) < (((M k 11 9) - (M k 11 7)) + (1 : Int32)) then (((M k 11 9) - (M k 11 7)) + (1 : Int32)) else (0 : Int32)))
else if a1 = (4 : Int32) then
some (-1000001 : Int32)
else if a1 = (5 : Int32) then
some (-1000001 : Int32)
else if a1 = (6 : Int32) then
some (-1000001 : Int32)
else if a1 = (7 : Int32) then
some (-1000001 : Int32)
else if a1 = (8 : Int32) then
some (M k 11 10)
else if a1 = (9 : Int32) then
bO (f_X2_droppable k M) (fun v14 =>
some v14)
else 
some (-1000001 : Int32))
theorem pk_X2_tellNumber : Pk "SealedGroups$Journal" yX2_tellNumber cX2_tellNumber 2 (some .int) 1 := ⟨wm_202, wm_44, rfl, by decide +kernel⟩
theorem pv_X2_tellNumber : Cond.instanceMethod yX2_tellNumber ∈ wsL_law ∧ Cond.selects "SealedGroups$Journal" yX2_tellNumber yX2_tellNumber ∈ wsL_law := ⟨wm_200, wm_201⟩
set_option maxHeartbeats 4000000 in
set_option maxRecDepth 100000 in
theorem c_X2_tellNumber (l : Launch) (E : En) (hA : AdOK E) {k : Nat} {M : Mem} {a1 : Int32} {r0 : Int32} (hk : k < 7) (h : f_X2_tellNumber k M a1 = some r0) : Met l yX2_tellNumber (Wm yX2_tellNumber cX2_tellNumber 2 (some .int)) ({ frames := 2, cells := 0, slots := 0, locals := 41 } : Room) (va_Pc [Value.ref (E.2.2 k 11), Value.int a1] (Wd E M)) (QI E r0 M) 0 0 (AA E) := by
  refine Met.ofW (cc := cX2_tellNumber) (maxL := 2) (ret := (some .int)) (by decide +kernel) rfl ?_
  intro p e s m args below meth c s₁ B hml hv
  obtain ⟨rfl, hP, hK⟩ := hv
  have X : Cx E (AA E) p s m c _ cX2_tellNumber 2 RX2 := ⟨⟨B.exec, B.bytes, hml, findClass_of_methodNamed B.named, fun w hw => atoms_spec (ws := Wm yX2_tellNumber cX2_tellNumber 2 (some .int)) B.pre w (List.mem_cons_of_mem _ hw)⟩, hK, hA, fun _ h => h⟩
  have hx := B.exec
  have hb := B.bytes
  have hr := B.returns
  have hlocks := B.notSynchronized
  clear B hml
  have hS : va_S (AA E) s.heap s.heap [] := va_S.rf
  have hl := lv_entry ([Value.ref (E.2.2 k 11), Value.int a1]) (n := 2) (Nat.le_of_ble_eq_true rfl)
  rw [lg_entry_eq]
  generalize (lg_sl ([Value.ref (E.2.2 k 11), Value.int a1]) ++ List.replicate (2 - (lg_sl ([Value.ref (E.2.2 k 11), Value.int a1])).length) Slot.unset).toArray = ls at hl ⊢
  have hl : lv_has ls 2 [(0, .ref (E.2.2 k 11)), (1, .int a1)] := hl
  unfold f_X2_tellNumber at h
  refine lv_iload_n hx hb dX2_tellNumber_0 rfl (lv_at hl 1 rfl) ?_
  by_cases c1 : a1 = (0 : Int32)
  · have h := br_1 h c1
    refine lv_tableIn (tgt := 56) hx hb dX2_tellNumber_1 (by rw [c1] <;> decide) (by rw [c1] <;> decide) (by rw [c1] <;> rfl) (by decide) ?_
    refine lv_aload_n hx hb dX2_tellNumber_56 rfl (lv_at hl 0 rfl) ?_
    refine gt_2_8 X wm_116 hP (ms hk 11) dX2_tellNumber_57 ?_
    exact mw_iret X hr hlocks hP hS (Option.some.inj h) rfl dX2_tellNumber_60
  have h := br_0 h c1
  by_cases c2 : a1 = (1 : Int32)
  · have h := br_1 h c2
    refine lv_tableIn (tgt := 61) hx hb dX2_tellNumber_1 (by rw [c2] <;> decide) (by rw [c2] <;> decide) (by rw [c2] <;> rfl) (by decide) ?_
    refine lv_aload_n hx hb dX2_tellNumber_61 rfl (lv_at hl 0 rfl) ?_
    refine gt_2_8 X wm_116 hP (ms hk 11) dX2_tellNumber_62 ?_
    refine lv_if_ne (tgt := 72) hx hb dX2_tellNumber_65 (by decide) (fun c3 => ?_) (fun c3 => ?_)
    · have h := br_0 h c3
      refine lv_aload_n hx hb dX2_tellNumber_72 rfl (lv_at hl 0 rfl) ?_
      refine gt_2_7 X wm_70 hP (ms hk 11) dX2_tellNumber_73 ?_
      exact mw_iret X hr hlocks hP hS (Option.some.inj h) rfl dX2_tellNumber_76
    · have h := br_1 h c3
      refine lv_iconst (v := 0) hx hb dX2_tellNumber_68 (by decide) ?_
      refine lv_goto (tgt := 76) hx hb dX2_tellNumber_69 (by decide) ?_
      exact mw_iret X hr hlocks hP hS (Option.some.inj h) rfl dX2_tellNumber_76
  have h := br_0 h c2
  by_cases c4 : a1 = (2 : Int32)
  · have h := br_1 h c4
    refine lv_tableIn (tgt := 77) hx hb dX2_tellNumber_1 (by rw [c4] <;> decide) (by rw [c4] <;> decide) (by rw [c4] <;> rfl) (by decide) ?_
    refine lv_aload_n hx hb dX2_tellNumber_77 rfl (lv_at hl 0 rfl) ?_
    obtain ⟨v5, hv5, h⟩ := bO_e h
    refine mw_callVi X (c_X2_last l E hA hk hv5) pk_X2_last pv_X2_last wm_208 ⟨Nat.le_of_ble_eq_true rfl, Nat.le_of_ble_eq_true rfl⟩ ⟨rfl, rfl⟩ hP hS (ms hk 11) rfl rfl rfl rfl hl.1 (Nat.le_of_ble_eq_true rfl) ⟨Nat.zero_le _, Nat.zero_le _⟩ rfl dX2_tellNumber_78 (fun H locs hP hS => ?_)
    exact mw_iret X hr hlocks hP hS (Option.some.inj h) rfl dX2_tellNumber_81
  have h := br_0 h c4
  by_cases c6 : a1 = (3 : Int32)
  · have h := br_1 h c6
    refine lv_tableIn (tgt := 82) hx hb dX2_tellNumber_1 (by rw [c6] <;> decide) (by rw [c6] <;> decide) (by rw [c6] <;> rfl) (by decide) ?_
    refine lv_aload_n hx hb dX2_tellNumber_82 rfl (lv_at hl 0 rfl) ?_
    refine gt_2_8 X wm_116 hP (ms hk 11) dX2_tellNumber_83 ?_
    refine lv_if_ne (tgt := 93) hx hb dX2_tellNumber_86 (by decide) (fun c7 => ?_) (fun c7 => ?_)
    · have h := br_0 h c7
      refine lv_iconst (v := 0) hx hb dX2_tellNumber_93 (by decide) ?_
      refine lv_aload_n hx hb dX2_tellNumber_94 rfl (lv_at hl 0 rfl) ?_
      refine gt_2_9 X wm_186 hP (ms hk 11) dX2_tellNumber_95 ?_
      refine lv_aload_n hx hb dX2_tellNumber_98 rfl (lv_at hl 0 rfl) ?_
      refine gt_2_7 X wm_70 hP (ms hk 11) dX2_tellNumber_99 ?_
      refine lv_isub hx hb dX2_tellNumber_102 ?_
      refine lv_iconst (v := 1) hx hb dX2_tellNumber_103 (by decide) ?_
      refine lv_iadd hx hb dX2_tellNumber_104 ?_
      refine mw_max X hl.1 ⟨Nat.le_of_ble_eq_true rfl, Nat.le_of_ble_eq_true rfl⟩ ⟨Nat.zero_le _, Nat.zero_le _⟩ (Nat.le_of_ble_eq_true rfl) wm_203 wm_smax wm_iMath wm_cmax dX2_tellNumber_105 ?_
      exact mw_iret X hr hlocks hP hS (Option.some.inj h) rfl dX2_tellNumber_108
    · have h := br_1 h c7
      refine lv_iconst (v := 0) hx hb dX2_tellNumber_89 (by decide) ?_
      refine lv_goto (tgt := 108) hx hb dX2_tellNumber_90 (by decide) ?_
      exact mw_iret X hr hlocks hP hS (Option.some.inj h) rfl dX2_tellNumber_108
  have h := br_0 h c6
  by_cases c8 : a1 = (4 : Int32)
  · have h := br_1 h c8
    refine lv_tableIn (tgt := 119) hx hb dX2_tellNumber_1 (by rw [c8] <;> decide) (by rw [c8] <;> decide) (by rw [c8] <;> rfl) (by decide) ?_
    refine lv_ldc hx hb X.1.2.2.2.1 (X.1.2.2.2.2 _ wm_207) dX2_tellNumber_119 ?_
    exact mw_iret X hr hlocks hP hS (Option.some.inj h) rfl dX2_tellNumber_121
  have h := br_0 h c8
  by_cases c9 : a1 = (5 : Int32)
  · have h := br_1 h c9
    refine lv_tableIn (tgt := 119) hx hb dX2_tellNumber_1 (by rw [c9] <;> decide) (by rw [c9] <;> decide) (by rw [c9] <;> rfl) (by decide) ?_
    refine lv_ldc hx hb X.1.2.2.2.1 (X.1.2.2.2.2 _ wm_207) dX2_tellNumber_119 ?_
    exact mw_iret X hr hlocks hP hS (Option.some.inj h) rfl dX2_tellNumber_121
  have h := br_0 h c9
  by_cases c10 : a1 = (6 : Int32)
  · have h := br_1 h c10
    refine lv_tableIn (tgt := 119) hx hb dX2_tellNumber_1 (by rw [c10] <;> decide) (by rw [c10] <;> decide) (by rw [c10] <;> rfl) (by decide) ?_
    refine lv_ldc hx hb X.1.2.2.2.1 (X.1.2.2.2.2 _ wm_207) dX2_tellNumber_119 ?_
    exact mw_iret X hr hlocks hP hS (Option.some.inj h) rfl dX2_tellNumber_121
  have h := br_0 h c10
  by_cases c11 : a1 = (7 : Int32)
  · have h := br_1 h c11
    refine lv_tableIn (tgt := 119) hx hb dX2_tellNumber_1 (by rw [c11] <;> decide) (by rw [c11] <;> decide) (by rw [c11] <;> rfl) (by decide) ?_
    refine lv_ldc hx hb X.1.2.2.2.1 (X.1.2.2.2.2 _ wm_207) dX2_tellNumber_119 ?_
    exact mw_iret X hr hlocks hP hS (Option.some.inj h) rfl dX2_tellNumber_121
  have h := br_0 h c11
  by_cases c12 : a1 = (8 : Int32)
  · have h := br_1 h c12
    refine lv_tableIn (tgt := 109) hx hb dX2_tellNumber_1 (by rw [c12] <;> decide) (by rw [c12] <;> decide) (by rw [c12] <;> rfl) (by decide) ?_
    refine lv_aload_n hx hb dX2_tellNumber_109 rfl (lv_at hl 0 rfl) ?_
    refine gt_2_10 X wm_206 hP (ms hk 11) dX2_tellNumber_110 ?_
    exact mw_iret X hr hlocks hP hS (Option.some.inj h) rfl dX2_tellNumber_113
  have h := br_0 h c12
  by_cases c13 : a1 = (9 : Int32)
  · have h := br_1 h c13
    refine lv_tableIn (tgt := 114) hx hb dX2_tellNumber_1 (by rw [c13] <;> decide) (by rw [c13] <;> decide) (by rw [c13] <;> rfl) (by decide) ?_
    refine lv_aload_n hx hb dX2_tellNumber_114 rfl (lv_at hl 0 rfl) ?_
    obtain ⟨v14, hv14, h⟩ := bO_e h
    refine mw_callVi X (c_X2_droppable l E hA hk hv14) pk_X2_droppable pv_X2_droppable wm_212 ⟨Nat.le_of_ble_eq_true rfl, Nat.le_of_ble_eq_true rfl⟩ ⟨rfl, rfl⟩ hP hS (ms hk 11) rfl rfl rfl rfl hl.1 (Nat.le_of_ble_eq_true rfl) ⟨Nat.zero_le _, Nat.zero_le _⟩ rfl dX2_tellNumber_115 (fun H locs hP hS => ?_)
    exact mw_iret X hr hlocks hP hS (Option.some.inj h) rfl dX2_tellNumber_118
  have h := br_0 h c13
  have qc1 := sw_ne c1 (v := 0) rfl
  have qc2 := sw_ne c2 (v := 1) rfl
  have qc4 := sw_ne c4 (v := 2) rfl
  have qc6 := sw_ne c6 (v := 3) rfl
  have qc8 := sw_ne c8 (v := 4) rfl
  have qc9 := sw_ne c9 (v := 5) rfl
  have qc10 := sw_ne c10 (v := 6) rfl
  have qc11 := sw_ne c11 (v := 7) rfl
  have qc12 := sw_ne c12 (v := 8) rfl
  have qc13 := sw_ne c13 (v := 9) rfl
  refine lv_tableOut (tgt := 119) hx hb dX2_tellNumber_1 (by omega) (by decide) ?_
  refine lv_ldc hx hb X.1.2.2.2.1 (X.1.2.2.2.2 _ wm_207) dX2_tellNumber_119 ?_
  exact mw_iret X hr hlocks hP hS (Option.some.inj h) rfl dX2_tellNumber_121
