/-! SealedGroups$Groups.copyFrom -/
noncomputable def f_X0_copyFrom (k : Nat) (j : Nat) (M : Mem) : Option Mem :=
bd (sr M k 8 (va_cpy (M j 8) (M k 8) 0 0 4)) (fun M1 =>
bd (sr M1 k 9 (va_cpy (M1 j 9) (M1 k 9) 0 0 4)) (fun M2 =>
bd (sr M2 k 10 (va_cpy (M2 j 10) (M2 k 10) 0 0 4)) (fun M3 =>
bd (st M3 k 7 3 (M3 j 7 3)) (fun M4 =>
some M4))))
theorem pk_X0_copyFrom : Pk "SealedGroups$Groups" yX0_copyFrom cX0_copyFrom 2 none 1 := ⟨wm_264, wm_40, rfl, by decide +kernel⟩
theorem pv_X0_copyFrom : Cond.instanceMethod yX0_copyFrom ∈ wsL_law ∧ Cond.selects "SealedGroups$Groups" yX0_copyFrom yX0_copyFrom ∈ wsL_law := ⟨wm_262, wm_263⟩
set_option maxHeartbeats 4000000 in
set_option maxRecDepth 100000 in
theorem c_X0_copyFrom (l : Launch) (E : En) (hA : AdOK E) {k j : Nat} {M : Mem} {M0 : Mem} (hk : k < 7) (hj : j < 7) (h : f_X0_copyFrom k j M = some M0) : Met l yX0_copyFrom (Wm yX0_copyFrom cX0_copyFrom 2 none) ({ frames := 1, cells := 0, slots := 0, locals := 26 } : Room) (va_Pc [Value.ref (E.2.2 k 7), Value.ref (E.2.2 j 7)] (Wd E M)) (QV E M0) 0 0 (AA E) := by
  refine Met.ofW (cc := cX0_copyFrom) (maxL := 2) (ret := none) (by decide +kernel) rfl ?_
  intro p e s m args below meth c s₁ B hml hv
  obtain ⟨rfl, hP, hK⟩ := hv
  have X : Cx E (AA E) p s m c _ cX0_copyFrom 2 RX0 := ⟨⟨B.exec, B.bytes, hml, findClass_of_methodNamed B.named, fun w hw => atoms_spec (ws := Wm yX0_copyFrom cX0_copyFrom 2 none) B.pre w (List.mem_cons_of_mem _ hw)⟩, hK, hA, fun _ h => h⟩
  have hx := B.exec
  have hb := B.bytes
  have hr := B.returns
  have hlocks := B.notSynchronized
  clear B hml
  have hS : va_S (AA E) s.heap s.heap [] := va_S.rf
  have hl := lv_entry ([Value.ref (E.2.2 k 7), Value.ref (E.2.2 j 7)]) (n := 2) (Nat.le_of_ble_eq_true rfl)
  rw [lg_entry_eq]
  generalize (lg_sl ([Value.ref (E.2.2 k 7), Value.ref (E.2.2 j 7)]) ++ List.replicate (2 - (lg_sl ([Value.ref (E.2.2 k 7), Value.ref (E.2.2 j 7)])).length) Slot.unset).toArray = ls at hl ⊢
  have hl : lv_has ls 2 [(0, .ref (E.2.2 k 7)), (1, .ref (E.2.2 j 7))] := hl
  unfold f_X0_copyFrom at h
  refine lv_aload_n hx hb dX0_copyFrom_0 rfl (lv_at hl 1 rfl) ?_
  refine gt_0_0 X wm_57 hP (ms hj 7) dX0_copyFrom_1 ?_
  refine lv_iconst (v := 0) hx hb dX0_copyFrom_4 (by decide) ?_
  refine lv_aload_n hx hb dX0_copyFrom_5 rfl (lv_at hl 0 rfl) ?_
  refine gt_0_0 X wm_57 hP (ms hk 7) dX0_copyFrom_6 ?_
  refine lv_iconst (v := 0) hx hb dX0_copyFrom_9 (by decide) ?_
  refine lv_iconst (v := 4) hx hb dX0_copyFrom_10 (by decide) ?_
  refine mw_cpy X hP hS hl.1 (ms hj 8) rfl (ms hk 8) (fun _ => rfl) (by decide) (by decide) (by decide) (by decide) (by decide) ⟨Nat.le_of_ble_eq_true rfl, Nat.le_of_ble_eq_true rfl⟩ (Nat.le_of_ble_eq_true rfl) wm_265 wm_ncpy wm_scpy wm_iSys dX0_copyFrom_11 (fun H locs M1 eM1 hP hS => ?_)
  have h := bd_e h (eM1.trans rfl)
  refine lv_aload_n hx hb dX0_copyFrom_14 rfl (lv_at hl 1 rfl) ?_
  refine gt_0_1 X wm_58 hP (ms hj 7) dX0_copyFrom_15 ?_
  refine lv_iconst (v := 0) hx hb dX0_copyFrom_18 (by decide) ?_
  refine lv_aload_n hx hb dX0_copyFrom_19 rfl (lv_at hl 0 rfl) ?_
  refine gt_0_1 X wm_58 hP (ms hk 7) dX0_copyFrom_20 ?_
  refine lv_iconst (v := 0) hx hb dX0_copyFrom_23 (by decide) ?_
  refine lv_iconst (v := 4) hx hb dX0_copyFrom_24 (by decide) ?_
  refine mw_cpy X hP hS hl.1 (ms hj 9) rfl (ms hk 9) (fun _ => rfl) (by decide) (by decide) (by decide) (by decide) (by decide) ⟨Nat.le_of_ble_eq_true rfl, Nat.le_of_ble_eq_true rfl⟩ (Nat.le_of_ble_eq_true rfl) wm_265 wm_ncpy wm_scpy wm_iSys dX0_copyFrom_25 (fun H locs M2 eM2 hP hS => ?_)
  have h := bd_e h (eM2.trans rfl)
  refine lv_aload_n hx hb dX0_copyFrom_28 rfl (lv_at hl 1 rfl) ?_
  refine gt_0_2 X wm_59 hP (ms hj 7) dX0_copyFrom_29 ?_
  refine lv_iconst (v := 0) hx hb dX0_copyFrom_32 (by decide) ?_
  refine lv_aload_n hx hb dX0_copyFrom_33 rfl (lv_at hl 0 rfl) ?_
  refine gt_0_2 X wm_59 hP (ms hk 7) dX0_copyFrom_34 ?_
  refine lv_iconst (v := 0) hx hb dX0_copyFrom_37 (by decide) ?_
  refine lv_iconst (v := 4) hx hb dX0_copyFrom_38 (by decide) ?_
  refine mw_cpy X hP hS hl.1 (ms hj 10) rfl (ms hk 10) (fun _ => rfl) (by decide) (by decide) (by decide) (by decide) (by decide) ⟨Nat.le_of_ble_eq_true rfl, Nat.le_of_ble_eq_true rfl⟩ (Nat.le_of_ble_eq_true rfl) wm_265 wm_ncpy wm_scpy wm_iSys dX0_copyFrom_39 (fun H locs M3 eM3 hP hS => ?_)
  have h := bd_e h (eM3.trans rfl)
  refine lv_aload_n hx hb dX0_copyFrom_42 rfl (lv_at hl 0 rfl) ?_
  refine lv_aload_n hx hb dX0_copyFrom_43 rfl (lv_at hl 1 rfl) ?_
  refine gt_0_3 X wm_110 hP (ms hj 7) dX0_copyFrom_44 ?_
  refine pt_0_3 X wm_110 hP hS (ms hk 7) dX0_copyFrom_47 (fun H locs M4 eM4 hP hS => ?_)
  have h := bd_e h eM4
  exact mw_vret X hr hlocks hP hS (Option.some.inj h) dX0_copyFrom_50
/-! SealedGroups$Groups.isOpen -/
noncomputable def f_X0_isOpen (k : Nat) (M : Mem) (a1 : Int32) : Option Int32 :=
(if a1 < 0 then
some (0 : Int32)
else
(if (4 : Int32) ≤ a1 then
some (0 : Int32)
else
(if (((M k 7 3) >>> (a1 &&& 31)) &&& (1 : Int32)) = (1 : Int32) then
some (1 : Int32)
else
some (0 : Int32))))
theorem pk_X0_isOpen : Pk "SealedGroups$Groups" yX0_isOpen cX0_isOpen 2 (some .boolean) 1 := ⟨wm_156, wm_40, rfl, by decide +kernel⟩
theorem pv_X0_isOpen : Cond.instanceMethod yX0_isOpen ∈ wsL_law ∧ Cond.selects "SealedGroups$Groups" yX0_isOpen yX0_isOpen ∈ wsL_law := ⟨wm_154, wm_155⟩
set_option maxHeartbeats 4000000 in
set_option maxRecDepth 100000 in
theorem c_X0_isOpen (l : Launch) (E : En) (hA : AdOK E) {k : Nat} {M : Mem} {a1 : Int32} {r0 : Int32} (hk : k < 7) (h : f_X0_isOpen k M a1 = some r0) : Met l yX0_isOpen (Wm yX0_isOpen cX0_isOpen 2 (some .boolean)) ({ frames := 0, cells := 0, slots := 0, locals := 0 } : Room) (va_Pc [Value.ref (E.2.2 k 7), Value.int a1] (Wd E M)) (QI E r0 M) 0 0 (AA E) := by
  refine Met.ofW (cc := cX0_isOpen) (maxL := 2) (ret := (some .boolean)) (by decide +kernel) rfl ?_
  intro p e s m args below meth c s₁ B hml hv
  obtain ⟨rfl, hP, hK⟩ := hv
  have X : Cx E (AA E) p s m c _ cX0_isOpen 2 RX0 := ⟨⟨B.exec, B.bytes, hml, findClass_of_methodNamed B.named, fun w hw => atoms_spec (ws := Wm yX0_isOpen cX0_isOpen 2 (some .boolean)) B.pre w (List.mem_cons_of_mem _ hw)⟩, hK, hA, fun _ h => h⟩
  have hx := B.exec
  have hb := B.bytes
  have hr := B.returns
  have hlocks := B.notSynchronized
  clear B hml
  have hS : va_S (AA E) s.heap s.heap [] := va_S.rf
  have hl := lv_entry ([Value.ref (E.2.2 k 7), Value.int a1]) (n := 2) (Nat.le_of_ble_eq_true rfl)
  rw [lg_entry_eq]
  generalize (lg_sl ([Value.ref (E.2.2 k 7), Value.int a1]) ++ List.replicate (2 - (lg_sl ([Value.ref (E.2.2 k 7), Value.int a1])).length) Slot.unset).toArray = ls at hl ⊢
  have hl : lv_has ls 2 [(0, .ref (E.2.2 k 7)), (1, .int a1)] := hl
  unfold f_X0_isOpen at h
  refine lv_iload_n hx hb dX0_isOpen_0 rfl (lv_at hl 1 rfl) ?_
  refine lv_if_lt (tgt := 25) hx hb dX0_isOpen_1 (by decide) (fun c1 => ?_) (fun c1 => ?_)
  · have h := br_1 h c1
    refine lv_iconst (v := 0) hx hb dX0_isOpen_25 (by decide) ?_
    exact mw_zret X hr hlocks hP hS (by decide) (Option.some.inj h) rfl dX0_isOpen_26
  · have h := br_0 h c1
    refine lv_iload_n hx hb dX0_isOpen_4 rfl (lv_at hl 1 rfl) ?_
    refine lv_iconst (v := 4) hx hb dX0_isOpen_5 (by decide) ?_
    refine lv_icmp_ge (tgt := 25) hx hb dX0_isOpen_6 (by decide) (fun c2 => ?_) (fun c2 => ?_)
    · have h := br_1 h c2
      refine lv_iconst (v := 0) hx hb dX0_isOpen_25 (by decide) ?_
      exact mw_zret X hr hlocks hP hS (by decide) (Option.some.inj h) rfl dX0_isOpen_26
    · have h := br_0 h c2
      refine lv_aload_n hx hb dX0_isOpen_9 rfl (lv_at hl 0 rfl) ?_
      refine gt_0_3 X wm_110 hP (ms hk 7) dX0_isOpen_10 ?_
      refine lv_iload_n hx hb dX0_isOpen_13 rfl (lv_at hl 1 rfl) ?_
      refine lv_ishr hx hb dX0_isOpen_14 ?_
      refine lv_iconst (v := 1) hx hb dX0_isOpen_15 (by decide) ?_
      refine lv_iand hx hb dX0_isOpen_16 ?_
      refine lv_iconst (v := 1) hx hb dX0_isOpen_17 (by decide) ?_
      refine lv_icmp_ne (tgt := 25) hx hb dX0_isOpen_18 (by decide) (fun c3 => ?_) (fun c3 => ?_)
      · have h := br_0 h c3
        refine lv_iconst (v := 0) hx hb dX0_isOpen_25 (by decide) ?_
        exact mw_zret X hr hlocks hP hS (by decide) (Option.some.inj h) rfl dX0_isOpen_26
      · have h := br_1 h c3
        refine lv_iconst (v := 1) hx hb dX0_isOpen_21 (by decide) ?_
        refine lv_goto (tgt := 26) hx hb dX0_isOpen_22 (by decide) ?_
        exact mw_zret X hr hlocks hP hS (by decide) (Option.some.inj h) rfl dX0_isOpen_26
/-! SealedGroups$Groups.enter -/
noncomputable def f_X0_enter (k : Nat) (M : Mem) (a1 a2 : Int32) : Option Mem :=
(if a1 < 0 then
some M
else
(if a1 < (4 : Int32) then
gd (inb a1 4) (
bd (st M k 8 (a1).toNatClampNeg a2) (fun M3 =>
gd (inb a1 4) (
bd (st M3 k 9 (a1).toNatClampNeg (0 : Int32)) (fun M5 =>
gd (inb a1 4) (
bd (st M5 k 10 (a1).toNatClampNeg (0 : Int32)) (fun M7 =>
bd (st M7 k 7 3 ((M7 k 7 3) ||| ((1 : Int32) <<< (a1 &&& 31)))) (fun M9 =>
some M9)))))))
else
some M))
theorem pk_X0_enter : Pk "SealedGroups$Groups" yX0_enter cX0_enter 3 none 2 := ⟨wm_391, wm_40, rfl, by decide +kernel⟩
theorem pv_X0_enter : Cond.instanceMethod yX0_enter ∈ wsL_law ∧ Cond.selects "SealedGroups$Groups" yX0_enter yX0_enter ∈ wsL_law := ⟨wm_389, wm_390⟩
set_option maxHeartbeats 4000000 in
set_option maxRecDepth 100000 in
theorem c_X0_enter (l : Launch) (E : En) (hA : AdOK E) {k : Nat} {M : Mem} {a1 a2 : Int32} {M0 : Mem} (hk : k < 7) (h : f_X0_enter k M a1 a2 = some M0) : Met l yX0_enter (Wm yX0_enter cX0_enter 3 none) ({ frames := 0, cells := 0, slots := 0, locals := 0 } : Room) (va_Pc [Value.ref (E.2.2 k 7), Value.int a1, Value.int a2] (Wd E M)) (QV E M0) 0 0 (AA E) := by
  refine Met.ofW (cc := cX0_enter) (maxL := 3) (ret := none) (by decide +kernel) rfl ?_
  intro p e s m args below meth c s₁ B hml hv
  obtain ⟨rfl, hP, hK⟩ := hv
  have X : Cx E (AA E) p s m c _ cX0_enter 3 RX0 := ⟨⟨B.exec, B.bytes, hml, findClass_of_methodNamed B.named, fun w hw => atoms_spec (ws := Wm yX0_enter cX0_enter 3 none) B.pre w (List.mem_cons_of_mem _ hw)⟩, hK, hA, fun _ h => h⟩
  have hx := B.exec
  have hb := B.bytes
  have hr := B.returns
  have hlocks := B.notSynchronized
  clear B hml
  have hS : va_S (AA E) s.heap s.heap [] := va_S.rf
  have hl := lv_entry ([Value.ref (E.2.2 k 7), Value.int a1, Value.int a2]) (n := 3) (Nat.le_of_ble_eq_true rfl)
  rw [lg_entry_eq]
  generalize (lg_sl ([Value.ref (E.2.2 k 7), Value.int a1, Value.int a2]) ++ List.replicate (3 - (lg_sl ([Value.ref (E.2.2 k 7), Value.int a1, Value.int a2])).length) Slot.unset).toArray = ls at hl ⊢
  have hl : lv_has ls 3 [(0, .ref (E.2.2 k 7)), (1, .int a1), (2, .int a2)] := hl
  unfold f_X0_enter at h
  refine lv_iload_n hx hb dX0_enter_0 rfl (lv_at hl 1 rfl) ?_
  refine lv_if_lt (tgt := 9) hx hb dX0_enter_1 (by decide) (fun c1 => ?_) (fun c1 => ?_)
  · have h := br_1 h c1
    exact mw_vret X hr hlocks hP hS (Option.some.inj h) dX0_enter_9
  · have h := br_0 h c1
    refine lv_iload_n hx hb dX0_enter_4 rfl (lv_at hl 1 rfl) ?_
    refine lv_iconst (v := 4) hx hb dX0_enter_5 (by decide) ?_
    refine lv_icmp_lt (tgt := 10) hx hb dX0_enter_6 (by decide) (fun c2 => ?_) (fun c2 => ?_)
    · have h := br_1 h c2
      refine lv_aload_n hx hb dX0_enter_10 rfl (lv_at hl 0 rfl) ?_
      refine gt_0_0 X wm_57 hP (ms hk 7) dX0_enter_11 ?_
      refine lv_iload_n hx hb dX0_enter_14 rfl (lv_at hl 1 rfl) ?_
      refine lv_iload_n hx hb dX0_enter_15 rfl (lv_at hl 2 rfl) ?_
      obtain ⟨g4, h⟩ := gd_e h
      refine mw_st X hP hS (ms hk 8) (fun _ => rfl) (inb_vp g4) rfl dX0_enter_16 (fun H locs M3 eM3 hP hS => ?_)
      have h := bd_e h eM3
      refine lv_aload_n hx hb dX0_enter_17 rfl (lv_at hl 0 rfl) ?_
      refine gt_0_1 X wm_58 hP (ms hk 7) dX0_enter_18 ?_
      refine lv_iload_n hx hb dX0_enter_21 rfl (lv_at hl 1 rfl) ?_
      refine lv_iconst (v := 0) hx hb dX0_enter_22 (by decide) ?_
      obtain ⟨g6, h⟩ := gd_e h
      refine mw_st X hP hS (ms hk 9) (fun _ => rfl) (inb_vp g6) rfl dX0_enter_23 (fun H locs M5 eM5 hP hS => ?_)
      have h := bd_e h eM5
      refine lv_aload_n hx hb dX0_enter_24 rfl (lv_at hl 0 rfl) ?_
      refine gt_0_2 X wm_59 hP (ms hk 7) dX0_enter_25 ?_
      refine lv_iload_n hx hb dX0_enter_28 rfl (lv_at hl 1 rfl) ?_
      refine lv_iconst (v := 0) hx hb dX0_enter_29 (by decide) ?_
      obtain ⟨g8, h⟩ := gd_e h
      refine mw_st X hP hS (ms hk 10) (fun _ => rfl) (inb_vp g8) rfl dX0_enter_30 (fun H locs M7 eM7 hP hS => ?_)
      have h := bd_e h eM7
      refine lv_aload_n hx hb dX0_enter_31 rfl (lv_at hl 0 rfl) ?_
      refine lv_dup hx hb dX0_enter_32 rfl ?_
      refine gt_0_3 X wm_110 hP (ms hk 7) dX0_enter_33 ?_
      refine lv_iconst (v := 1) hx hb dX0_enter_36 (by decide) ?_
      refine lv_iload_n hx hb dX0_enter_37 rfl (lv_at hl 1 rfl) ?_
      refine lv_ishl hx hb dX0_enter_38 ?_
      refine lv_ior hx hb dX0_enter_39 ?_
      refine pt_0_3 X wm_110 hP hS (ms hk 7) dX0_enter_40 (fun H locs M9 eM9 hP hS => ?_)
      have h := bd_e h eM9
      exact mw_vret X hr hlocks hP hS (Option.some.inj h) dX0_enter_43
    · have h := br_0 h c2
      exact mw_vret X hr hlocks hP hS (Option.some.inj h) dX0_enter_9
/-! SealedGroups$Groups.hold -/
noncomputable def f_X0_hold (k : Nat) (M : Mem) (a1 a2 : Int32) : Option Mem :=
(if a1 < 0 then
some M
else
(if a1 < (4 : Int32) then
gd (inb a1 4) (
gd (inb a1 4) (
bd (st M k 9 (a1).toNatClampNeg ((M k 9 (a1).toNatClampNeg) + (1 : Int32))) (fun M4 =>
gd (inb a1 4) (
gd (inb a1 4) (
bd (st M4 k 10 (a1).toNatClampNeg ((M4 k 10 (a1).toNatClampNeg) ||| ((1 : Int32) <<< (a2 &&& 31)))) (fun M7 =>
some M7))))))
else
some M))
theorem pk_X0_hold : Pk "SealedGroups$Groups" yX0_hold cX0_hold 3 none 2 := ⟨wm_404, wm_40, rfl, by decide +kernel⟩
theorem pv_X0_hold : Cond.instanceMethod yX0_hold ∈ wsL_law ∧ Cond.selects "SealedGroups$Groups" yX0_hold yX0_hold ∈ wsL_law := ⟨wm_402, wm_403⟩
set_option maxHeartbeats 4000000 in
set_option maxRecDepth 100000 in
theorem c_X0_hold (l : Launch) (E : En) (hA : AdOK E) {k : Nat} {M : Mem} {a1 a2 : Int32} {M0 : Mem} (hk : k < 7) (h : f_X0_hold k M a1 a2 = some M0) : Met l yX0_hold (Wm yX0_hold cX0_hold 3 none) ({ frames := 0, cells := 0, slots := 0, locals := 0 } : Room) (va_Pc [Value.ref (E.2.2 k 7), Value.int a1, Value.int a2] (Wd E M)) (QV E M0) 0 0 (AA E) := by
  refine Met.ofW (cc := cX0_hold) (maxL := 3) (ret := none) (by decide +kernel) rfl ?_
  intro p e s m args below meth c s₁ B hml hv
  obtain ⟨rfl, hP, hK⟩ := hv
  have X : Cx E (AA E) p s m c _ cX0_hold 3 RX0 := ⟨⟨B.exec, B.bytes, hml, findClass_of_methodNamed B.named, fun w hw => atoms_spec (ws := Wm yX0_hold cX0_hold 3 none) B.pre w (List.mem_cons_of_mem _ hw)⟩, hK, hA, fun _ h => h⟩
  have hx := B.exec
  have hb := B.bytes
  have hr := B.returns
  have hlocks := B.notSynchronized
  clear B hml
  have hS : va_S (AA E) s.heap s.heap [] := va_S.rf
  have hl := lv_entry ([Value.ref (E.2.2 k 7), Value.int a1, Value.int a2]) (n := 3) (Nat.le_of_ble_eq_true rfl)
  rw [lg_entry_eq]
  generalize (lg_sl ([Value.ref (E.2.2 k 7), Value.int a1, Value.int a2]) ++ List.replicate (3 - (lg_sl ([Value.ref (E.2.2 k 7), Value.int a1, Value.int a2])).length) Slot.unset).toArray = ls at hl ⊢
  have hl : lv_has ls 3 [(0, .ref (E.2.2 k 7)), (1, .int a1), (2, .int a2)] := hl
  unfold f_X0_hold at h
  refine lv_iload_n hx hb dX0_hold_0 rfl (lv_at hl 1 rfl) ?_
  refine lv_if_lt (tgt := 9) hx hb dX0_hold_1 (by decide) (fun c1 => ?_) (fun c1 => ?_)
  · have h := br_1 h c1
    exact mw_vret X hr hlocks hP hS (Option.some.inj h) dX0_hold_9
  · have h := br_0 h c1
    refine lv_iload_n hx hb dX0_hold_4 rfl (lv_at hl 1 rfl) ?_
    refine lv_iconst (v := 4) hx hb dX0_hold_5 (by decide) ?_
    refine lv_icmp_lt (tgt := 10) hx hb dX0_hold_6 (by decide) (fun c2 => ?_) (fun c2 => ?_)
    · have h := br_1 h c2
      refine lv_aload_n hx hb dX0_hold_10 rfl (lv_at hl 0 rfl) ?_
      refine gt_0_1 X wm_58 hP (ms hk 7) dX0_hold_11 ?_
      refine lv_iload_n hx hb dX0_hold_14 rfl (lv_at hl 1 rfl) ?_
      refine lv_dup2_11 hx hb dX0_hold_15 rfl rfl ?_
      obtain ⟨g3, h⟩ := gd_e h
      refine mw_ld X hP (ms hk 9) rfl (inb_vp g3) rfl dX0_hold_16 ?_
      refine lv_iconst (v := 1) hx hb dX0_hold_17 (by decide) ?_
      refine lv_iadd hx hb dX0_hold_18 ?_
      obtain ⟨g5, h⟩ := gd_e h
      refine mw_st X hP hS (ms hk 9) (fun _ => rfl) (inb_vp g5) rfl dX0_hold_19 (fun H locs M4 eM4 hP hS => ?_)
      have h := bd_e h eM4
      refine lv_aload_n hx hb dX0_hold_20 rfl (lv_at hl 0 rfl) ?_
      refine gt_0_2 X wm_59 hP (ms hk 7) dX0_hold_21 ?_
      refine lv_iload_n hx hb dX0_hold_24 rfl (lv_at hl 1 rfl) ?_
      refine lv_dup2_11 hx hb dX0_hold_25 rfl rfl ?_
      obtain ⟨g6, h⟩ := gd_e h
      refine mw_ld X hP (ms hk 10) rfl (inb_vp g6) rfl dX0_hold_26 ?_
      refine lv_iconst (v := 1) hx hb dX0_hold_27 (by decide) ?_
      refine lv_iload_n hx hb dX0_hold_28 rfl (lv_at hl 2 rfl) ?_
      refine lv_ishl hx hb dX0_hold_29 ?_
      refine lv_ior hx hb dX0_hold_30 ?_
      obtain ⟨g8, h⟩ := gd_e h
      refine mw_st X hP hS (ms hk 10) (fun _ => rfl) (inb_vp g8) rfl dX0_hold_31 (fun H locs M7 eM7 hP hS => ?_)
      have h := bd_e h eM7
      exact mw_vret X hr hlocks hP hS (Option.some.inj h) dX0_hold_32
    · have h := br_0 h c2
      exact mw_vret X hr hlocks hP hS (Option.some.inj h) dX0_hold_9
/-! SealedGroups$Groups.leave -/
noncomputable def f_X0_leave (k : Nat) (M : Mem) (a1 : Int32) : Option Mem :=
(if a1 < 0 then
some M
else
(if (4 : Int32) ≤ a1 then
some M
else
bd (st M k 7 3 ((M k 7 3) &&& (((1 : Int32) <<< (a1 &&& 31)) ^^^ (-1 : Int32)))) (fun M3 =>
some M3)))
theorem pk_X0_leave : Pk "SealedGroups$Groups" yX0_leave cX0_leave 2 none 1 := ⟨wm_329, wm_40, rfl, by decide +kernel⟩
theorem pv_X0_leave : Cond.instanceMethod yX0_leave ∈ wsL_law ∧ Cond.selects "SealedGroups$Groups" yX0_leave yX0_leave ∈ wsL_law := ⟨wm_327, wm_328⟩
set_option maxHeartbeats 4000000 in
set_option maxRecDepth 100000 in
theorem c_X0_leave (l : Launch) (E : En) (hA : AdOK E) {k : Nat} {M : Mem} {a1 : Int32} {M0 : Mem} (hk : k < 7) (h : f_X0_leave k M a1 = some M0) : Met l yX0_leave (Wm yX0_leave cX0_leave 2 none) ({ frames := 0, cells := 0, slots := 0, locals := 0 } : Room) (va_Pc [Value.ref (E.2.2 k 7), Value.int a1] (Wd E M)) (QV E M0) 0 0 (AA E) := by
  refine Met.ofW (cc := cX0_leave) (maxL := 2) (ret := none) (by decide +kernel) rfl ?_
  intro p e s m args below meth c s₁ B hml hv
  obtain ⟨rfl, hP, hK⟩ := hv
  have X : Cx E (AA E) p s m c _ cX0_leave 2 RX0 := ⟨⟨B.exec, B.bytes, hml, findClass_of_methodNamed B.named, fun w hw => atoms_spec (ws := Wm yX0_leave cX0_leave 2 none) B.pre w (List.mem_cons_of_mem _ hw)⟩, hK, hA, fun _ h => h⟩
  have hx := B.exec
  have hb := B.bytes
  have hr := B.returns
  have hlocks := B.notSynchronized
  clear B hml
  have hS : va_S (AA E) s.heap s.heap [] := va_S.rf
  have hl := lv_entry ([Value.ref (E.2.2 k 7), Value.int a1]) (n := 2) (Nat.le_of_ble_eq_true rfl)
  rw [lg_entry_eq]
  generalize (lg_sl ([Value.ref (E.2.2 k 7), Value.int a1]) ++ List.replicate (2 - (lg_sl ([Value.ref (E.2.2 k 7), Value.int a1])).length) Slot.unset).toArray = ls at hl ⊢
  have hl : lv_has ls 2 [(0, .ref (E.2.2 k 7)), (1, .int a1)] := hl
  unfold f_X0_leave at h
  refine lv_iload_n hx hb dX0_leave_0 rfl (lv_at hl 1 rfl) ?_
  refine lv_if_lt (tgt := 23) hx hb dX0_leave_1 (by decide) (fun c1 => ?_) (fun c1 => ?_)
  · have h := br_1 h c1
    exact mw_vret X hr hlocks hP hS (Option.some.inj h) dX0_leave_23
  · have h := br_0 h c1
    refine lv_iload_n hx hb dX0_leave_4 rfl (lv_at hl 1 rfl) ?_
    refine lv_iconst (v := 4) hx hb dX0_leave_5 (by decide) ?_
    refine lv_icmp_ge (tgt := 23) hx hb dX0_leave_6 (by decide) (fun c2 => ?_) (fun c2 => ?_)
    · have h := br_1 h c2
      exact mw_vret X hr hlocks hP hS (Option.some.inj h) dX0_leave_23
    · have h := br_0 h c2
      refine lv_aload_n hx hb dX0_leave_9 rfl (lv_at hl 0 rfl) ?_
      refine lv_dup hx hb dX0_leave_10 rfl ?_
      refine gt_0_3 X wm_110 hP (ms hk 7) dX0_leave_11 ?_
      refine lv_iconst (v := 1) hx hb dX0_leave_14 (by decide) ?_
      refine lv_iload_n hx hb dX0_leave_15 rfl (lv_at hl 1 rfl) ?_
      refine lv_ishl hx hb dX0_leave_16 ?_
      refine lv_iconst (v := -1) hx hb dX0_leave_17 (by decide) ?_
      refine lv_ixor hx hb dX0_leave_18 ?_
      refine lv_iand hx hb dX0_leave_19 ?_
      refine pt_0_3 X wm_110 hP hS (ms hk 7) dX0_leave_20 (fun H locs M3 eM3 hP hS => ?_)
      have h := bd_e h eM3
      exact mw_vret X hr hlocks hP hS (Option.some.inj h) dX0_leave_23
/-! SealedGroups$Groups.holderOf -/
noncomputable def f_X0_holderOf_L35 (k : Nat) (M : Mem) (K2 : Int32 → Int32 → Option Int32) (y1 y2 : Int32) : Option Int32 :=
bd (y2 + (1 : Int32)) (fun x3 =>
K2 y1 x3)
noncomputable def f_X0_holderOf_L2 (k : Nat) (M : Mem) (K2 : Int32 → Int32 → Option Int32) (y1 y2 : Int32) : Option Int32 :=
(if (4 : Int32) ≤ y2 then
some (-1000004 : Int32)
else
(if (((M k 7 3) >>> (y2 &&& 31)) &&& (1 : Int32)) = (1 : Int32) then
gd (inb y2 4) (
(if (((M k 10 (y2).toNatClampNeg) >>> (y1 &&& 31)) &&& (1 : Int32)) = (1 : Int32) then
some y2
else
f_X0_holderOf_L35 k M K2 y1 y2))
else
f_X0_holderOf_L35 k M K2 y1 y2))
noncomputable def f_X0_holderOf (k : Nat) (M : Mem) (a1 : Int32) : Option Int32 :=
itr (f_X0_holderOf_L2 k M) (fun _ _ => none) FU a1 (0 : Int32)
theorem pk_X0_holderOf : Pk "SealedGroups$Groups" yX0_holderOf cX0_holderOf 3 (some .int) 1 := ⟨wm_109, wm_40, rfl, by decide +kernel⟩
theorem pv_X0_holderOf : Cond.instanceMethod yX0_holderOf ∈ wsL_law ∧ Cond.selects "SealedGroups$Groups" yX0_holderOf yX0_holderOf ∈ wsL_law := ⟨wm_107, wm_108⟩
set_option maxHeartbeats 4000000 in
set_option maxRecDepth 100000 in
theorem c_X0_holderOf (l : Launch) (E : En) (hA : AdOK E) {k : Nat} {M : Mem} {a1 : Int32} {r0 : Int32} (hk : k < 7) (h : f_X0_holderOf k M a1 = some r0) : Met l yX0_holderOf (Wm yX0_holderOf cX0_holderOf 3 (some .int)) ({ frames := 0, cells := 0, slots := 0, locals := 0 } : Room) (va_Pc [Value.ref (E.2.2 k 7), Value.int a1] (Wd E M)) (QI E r0 M) 0 0 (AA E) := by
  refine Met.ofW (cc := cX0_holderOf) (maxL := 3) (ret := (some .int)) (by decide +kernel) rfl ?_
  intro p e s m args below meth c s₁ B hml hv
  obtain ⟨rfl, hP, hK⟩ := hv
  have X : Cx E (AA E) p s m c _ cX0_holderOf 3 RX0 := ⟨⟨B.exec, B.bytes, hml, findClass_of_methodNamed B.named, fun w hw => atoms_spec (ws := Wm yX0_holderOf cX0_holderOf 3 (some .int)) B.pre w (List.mem_cons_of_mem _ hw)⟩, hK, hA, fun _ h => h⟩
  have hx := B.exec
  have hb := B.bytes
  have hr := B.returns
  have hlocks := B.notSynchronized
  clear B hml
  have hS : va_S (AA E) s.heap s.heap [] := va_S.rf
  have hl := lv_entry ([Value.ref (E.2.2 k 7), Value.int a1]) (n := 3) (Nat.le_of_ble_eq_true rfl)
  rw [lg_entry_eq]
  generalize (lg_sl ([Value.ref (E.2.2 k 7), Value.int a1]) ++ List.replicate (3 - (lg_sl ([Value.ref (E.2.2 k 7), Value.int a1])).length) Slot.unset).toArray = ls at hl ⊢
  have hl : lv_has ls 3 [(0, .ref (E.2.2 k 7)), (1, .int a1)] := hl
  have w_L2 : ∀ (n2 : Nat)  (y1 y2 : Int32) (H : Heap) (locs : List Loc) (ls : Array Slot), itr (f_X0_holderOf_L2 k M) (fun _ _ => none) n2 y1 y2 = some r0 → va_P E.1 vwCl (wl E M) H → va_S (AA E) s.heap H locs → lv_has ls 3 [(0, .ref (E.2.2 k 7)), (1, .int y1), (2, .int y2)] → W p l e (headSpec (Wm yX0_holderOf cX0_holderOf 3 (some .int)) ({ frames := 0, cells := 0, slots := 0, locals := 0 } : Room)).room s m ([Value.ref (E.2.2 k 7), Value.int a1] : List Value).toArray below meth c H locs 0 0 (MQ below (QI E r0 M) ([Value.ref (E.2.2 k 7), Value.int a1] : List Value).toArray s 0 0 (AA E)) (F0 m 2 ls []) := by
    intro n2
    induction n2 with
    | zero => intro y1 y2 H locs ls h; exact (nomatch (show (none : Option Int32) = some _ from h))
    | succ n2 ih2 =>
      intro y1 y2 H locs ls h hP hS hl
      have h : f_X0_holderOf_L2 k M (itr (f_X0_holderOf_L2 k M) (fun _ _ => none) n2) y1 y2 = some r0 := h
      have w_L35 : ∀  (y1 y2 : Int32) (H : Heap) (locs : List Loc) (ls : Array Slot), f_X0_holderOf_L35 k M (itr (f_X0_holderOf_L2 k M) (fun _ _ => none) n2) y1 y2 = some r0 → va_P E.1 vwCl (wl E M) H → va_S (AA E) s.heap H locs → lv_has ls 3 [(0, .ref (E.2.2 k 7)), (1, .int y1), (2, .int y2)] → W p l e (headSpec (Wm yX0_holderOf cX0_holderOf 3 (some .int)) ({ frames := 0, cells := 0, slots := 0, locals := 0 } : Room)).room s m ([Value.ref (E.2.2 k 7), Value.int a1] : List Value).toArray below meth c H locs 0 0 (MQ below (QI E r0 M) ([Value.ref (E.2.2 k 7), Value.int a1] : List Value).toArray s 0 0 (AA E)) (F0 m 35 ls []) := by
        intro y1 y2 H locs ls h hP hS hl
        unfold f_X0_holderOf_L35 at h
        obtain ⟨x3, ex3⟩ : ∃ y : Int32, y = y2 + (1 : Int32) := ⟨_, rfl⟩
        have h := bd_e h ex3
        refine lv_iinc (v := x3) (lv' := [(2, .int x3), (0, .ref (E.2.2 k 7)), (1, .int y1)]) hx hb dX0_holderOf_35 hl (k := 2) rfl (by rw [ex3]; rfl) (by decide) rfl (fun ls hl => ?_)
        refine lv_goto (tgt := 2) hx hb dX0_holderOf_38 (by decide) ?_
        exact ih2 _ _ _ _ _ h hP hS (lv_sub hl [1, 2, 0] rfl)
      unfold f_X0_holderOf_L2 at h
      refine lv_iload_n hx hb dX0_holderOf_2 rfl (lv_at hl 2 rfl) ?_
      refine lv_iconst (v := 4) hx hb dX0_holderOf_3 (by decide) ?_
      refine lv_icmp_ge (tgt := 41) hx hb dX0_holderOf_4 (by decide) (fun c1 => ?_) (fun c1 => ?_)
      · have h := br_1 h c1
        refine lv_ldc hx hb X.1.2.2.2.1 (X.1.2.2.2.2 _ wm_111) dX0_holderOf_41 ?_
        exact mw_iret X hr hlocks hP hS (Option.some.inj h) rfl dX0_holderOf_43
      · have h := br_0 h c1
        refine lv_aload_n hx hb dX0_holderOf_7 rfl (lv_at hl 0 rfl) ?_
        refine gt_0_3 X wm_110 hP (ms hk 7) dX0_holderOf_8 ?_
        refine lv_iload_n hx hb dX0_holderOf_11 rfl (lv_at hl 2 rfl) ?_
        refine lv_ishr hx hb dX0_holderOf_12 ?_
        refine lv_iconst (v := 1) hx hb dX0_holderOf_13 (by decide) ?_
        refine lv_iand hx hb dX0_holderOf_14 ?_
        refine lv_iconst (v := 1) hx hb dX0_holderOf_15 (by decide) ?_
        refine lv_icmp_ne (tgt := 35) hx hb dX0_holderOf_16 (by decide) (fun c2 => ?_) (fun c2 => ?_)
        · have h := br_0 h c2
          exact w_L35 _ _ _ _ _ h hP hS (lv_sub hl [0, 1, 2] rfl)
        · have h := br_1 h c2
          refine lv_aload_n hx hb dX0_holderOf_19 rfl (lv_at hl 0 rfl) ?_
          refine gt_0_2 X wm_59 hP (ms hk 7) dX0_holderOf_20 ?_
          refine lv_iload_n hx hb dX0_holderOf_23 rfl (lv_at hl 2 rfl) ?_
          obtain ⟨g4, h⟩ := gd_e h
          refine mw_ld X hP (ms hk 10) rfl (inb_vp g4) rfl dX0_holderOf_24 ?_
          refine lv_iload_n hx hb dX0_holderOf_25 rfl (lv_at hl 1 rfl) ?_
          refine lv_ishr hx hb dX0_holderOf_26 ?_
          refine lv_iconst (v := 1) hx hb dX0_holderOf_27 (by decide) ?_
          refine lv_iand hx hb dX0_holderOf_28 ?_
          refine lv_iconst (v := 1) hx hb dX0_holderOf_29 (by decide) ?_
          refine lv_icmp_ne (tgt := 35) hx hb dX0_holderOf_30 (by decide) (fun c5 => ?_) (fun c5 => ?_)
          · have h := br_0 h c5
            exact w_L35 _ _ _ _ _ h hP hS (lv_sub hl [0, 1, 2] rfl)
          · have h := br_1 h c5
            refine lv_iload_n hx hb dX0_holderOf_33 rfl (lv_at hl 2 rfl) ?_
            exact mw_iret X hr hlocks hP hS (Option.some.inj h) rfl dX0_holderOf_34
  unfold f_X0_holderOf at h
  refine lv_iconst (v := 0) hx hb dX0_holderOf_0 (by decide) ?_
  refine lv_istore_n (lv' := [(2, .int (0 : Int32)), (0, .ref (E.2.2 k 7)), (1, .int a1)]) hx hb dX0_holderOf_1 rfl hl (by decide) rfl (fun ls hl => ?_)
  exact w_L2 FU _ _ _ _ _ h hP hS (lv_sub hl [1, 2, 0] rfl)
/-! SealedGroups$Groups.beginOf -/
noncomputable def f_X0_beginOf (k : Nat) (M : Mem) (a1 : Int32) : Option Int32 :=
(if a1 < 0 then
some (0 : Int32)
else
(if (4 : Int32) ≤ a1 then
some (0 : Int32)
else
gd (inb a1 4) (
some (M k 8 (a1).toNatClampNeg))))
theorem pk_X0_beginOf : Pk "SealedGroups$Groups" yX0_beginOf cX0_beginOf 2 (some .int) 1 := ⟨wm_160, wm_40, rfl, by decide +kernel⟩
theorem pv_X0_beginOf : Cond.instanceMethod yX0_beginOf ∈ wsL_law ∧ Cond.selects "SealedGroups$Groups" yX0_beginOf yX0_beginOf ∈ wsL_law := ⟨wm_158, wm_159⟩
set_option maxHeartbeats 4000000 in
set_option maxRecDepth 100000 in
theorem c_X0_beginOf (l : Launch) (E : En) (hA : AdOK E) {k : Nat} {M : Mem} {a1 : Int32} {r0 : Int32} (hk : k < 7) (h : f_X0_beginOf k M a1 = some r0) : Met l yX0_beginOf (Wm yX0_beginOf cX0_beginOf 2 (some .int)) ({ frames := 0, cells := 0, slots := 0, locals := 0 } : Room) (va_Pc [Value.ref (E.2.2 k 7), Value.int a1] (Wd E M)) (QI E r0 M) 0 0 (AA E) := by
  refine Met.ofW (cc := cX0_beginOf) (maxL := 2) (ret := (some .int)) (by decide +kernel) rfl ?_
  intro p e s m args below meth c s₁ B hml hv
  obtain ⟨rfl, hP, hK⟩ := hv
  have X : Cx E (AA E) p s m c _ cX0_beginOf 2 RX0 := ⟨⟨B.exec, B.bytes, hml, findClass_of_methodNamed B.named, fun w hw => atoms_spec (ws := Wm yX0_beginOf cX0_beginOf 2 (some .int)) B.pre w (List.mem_cons_of_mem _ hw)⟩, hK, hA, fun _ h => h⟩
  have hx := B.exec
  have hb := B.bytes
  have hr := B.returns
  have hlocks := B.notSynchronized
  clear B hml
  have hS : va_S (AA E) s.heap s.heap [] := va_S.rf
  have hl := lv_entry ([Value.ref (E.2.2 k 7), Value.int a1]) (n := 2) (Nat.le_of_ble_eq_true rfl)
  rw [lg_entry_eq]
  generalize (lg_sl ([Value.ref (E.2.2 k 7), Value.int a1]) ++ List.replicate (2 - (lg_sl ([Value.ref (E.2.2 k 7), Value.int a1])).length) Slot.unset).toArray = ls at hl ⊢
  have hl : lv_has ls 2 [(0, .ref (E.2.2 k 7)), (1, .int a1)] := hl
  unfold f_X0_beginOf at h
  refine lv_iload_n hx hb dX0_beginOf_0 rfl (lv_at hl 1 rfl) ?_
  refine lv_if_lt (tgt := 18) hx hb dX0_beginOf_1 (by decide) (fun c1 => ?_) (fun c1 => ?_)
  · have h := br_1 h c1
    refine lv_iconst (v := 0) hx hb dX0_beginOf_18 (by decide) ?_
    exact mw_iret X hr hlocks hP hS (Option.some.inj h) rfl dX0_beginOf_19
  · have h := br_0 h c1
    refine lv_iload_n hx hb dX0_beginOf_4 rfl (lv_at hl 1 rfl) ?_
    refine lv_iconst (v := 4) hx hb dX0_beginOf_5 (by decide) ?_
    refine lv_icmp_ge (tgt := 18) hx hb dX0_beginOf_6 (by decide) (fun c2 => ?_) (fun c2 => ?_)
    · have h := br_1 h c2
      refine lv_iconst (v := 0) hx hb dX0_beginOf_18 (by decide) ?_
      exact mw_iret X hr hlocks hP hS (Option.some.inj h) rfl dX0_beginOf_19
    · have h := br_0 h c2
      refine lv_aload_n hx hb dX0_beginOf_9 rfl (lv_at hl 0 rfl) ?_
      refine gt_0_0 X wm_57 hP (ms hk 7) dX0_beginOf_10 ?_
      refine lv_iload_n hx hb dX0_beginOf_13 rfl (lv_at hl 1 rfl) ?_
      obtain ⟨g3, h⟩ := gd_e h
      refine mw_ld X hP (ms hk 8) rfl (inb_vp g3) rfl dX0_beginOf_14 ?_
      refine lv_goto (tgt := 19) hx hb dX0_beginOf_15 (by decide) ?_
      exact mw_iret X hr hlocks hP hS (Option.some.inj h) rfl dX0_beginOf_19
/-! SealedGroups$Groups.writesOf -/
noncomputable def f_X0_writesOf (k : Nat) (M : Mem) (a1 : Int32) : Option Int32 :=
(if a1 < 0 then
some (0 : Int32)
else
(if (4 : Int32) ≤ a1 then
some (0 : Int32)
else
gd (inb a1 4) (
some (M k 9 (a1).toNatClampNeg))))
theorem pk_X0_writesOf : Pk "SealedGroups$Groups" yX0_writesOf cX0_writesOf 2 (some .int) 1 := ⟨wm_164, wm_40, rfl, by decide +kernel⟩
theorem pv_X0_writesOf : Cond.instanceMethod yX0_writesOf ∈ wsL_law ∧ Cond.selects "SealedGroups$Groups" yX0_writesOf yX0_writesOf ∈ wsL_law := ⟨wm_162, wm_163⟩
set_option maxHeartbeats 4000000 in
set_option maxRecDepth 100000 in
theorem c_X0_writesOf (l : Launch) (E : En) (hA : AdOK E) {k : Nat} {M : Mem} {a1 : Int32} {r0 : Int32} (hk : k < 7) (h : f_X0_writesOf k M a1 = some r0) : Met l yX0_writesOf (Wm yX0_writesOf cX0_writesOf 2 (some .int)) ({ frames := 0, cells := 0, slots := 0, locals := 0 } : Room) (va_Pc [Value.ref (E.2.2 k 7), Value.int a1] (Wd E M)) (QI E r0 M) 0 0 (AA E) := by
  refine Met.ofW (cc := cX0_writesOf) (maxL := 2) (ret := (some .int)) (by decide +kernel) rfl ?_
  intro p e s m args below meth c s₁ B hml hv
  obtain ⟨rfl, hP, hK⟩ := hv
  have X : Cx E (AA E) p s m c _ cX0_writesOf 2 RX0 := ⟨⟨B.exec, B.bytes, hml, findClass_of_methodNamed B.named, fun w hw => atoms_spec (ws := Wm yX0_writesOf cX0_writesOf 2 (some .int)) B.pre w (List.mem_cons_of_mem _ hw)⟩, hK, hA, fun _ h => h⟩
  have hx := B.exec
  have hb := B.bytes
  have hr := B.returns
  have hlocks := B.notSynchronized
  clear B hml
  have hS : va_S (AA E) s.heap s.heap [] := va_S.rf
  have hl := lv_entry ([Value.ref (E.2.2 k 7), Value.int a1]) (n := 2) (Nat.le_of_ble_eq_true rfl)
  rw [lg_entry_eq]
  generalize (lg_sl ([Value.ref (E.2.2 k 7), Value.int a1]) ++ List.replicate (2 - (lg_sl ([Value.ref (E.2.2 k 7), Value.int a1])).length) Slot.unset).toArray = ls at hl ⊢
  have hl : lv_has ls 2 [(0, .ref (E.2.2 k 7)), (1, .int a1)] := hl
  unfold f_X0_writesOf at h
  refine lv_iload_n hx hb dX0_writesOf_0 rfl (lv_at hl 1 rfl) ?_
  refine lv_if_lt (tgt := 18) hx hb dX0_writesOf_1 (by decide) (fun c1 => ?_) (fun c1 => ?_)
  · have h := br_1 h c1
    refine lv_iconst (v := 0) hx hb dX0_writesOf_18 (by decide) ?_
    exact mw_iret X hr hlocks hP hS (Option.some.inj h) rfl dX0_writesOf_19
  · have h := br_0 h c1
    refine lv_iload_n hx hb dX0_writesOf_4 rfl (lv_at hl 1 rfl) ?_
    refine lv_iconst (v := 4) hx hb dX0_writesOf_5 (by decide) ?_
    refine lv_icmp_ge (tgt := 18) hx hb dX0_writesOf_6 (by decide) (fun c2 => ?_) (fun c2 => ?_)
    · have h := br_1 h c2
      refine lv_iconst (v := 0) hx hb dX0_writesOf_18 (by decide) ?_
      exact mw_iret X hr hlocks hP hS (Option.some.inj h) rfl dX0_writesOf_19
    · have h := br_0 h c2
      refine lv_aload_n hx hb dX0_writesOf_9 rfl (lv_at hl 0 rfl) ?_
      refine gt_0_1 X wm_58 hP (ms hk 7) dX0_writesOf_10 ?_
      refine lv_iload_n hx hb dX0_writesOf_13 rfl (lv_at hl 1 rfl) ?_
      obtain ⟨g3, h⟩ := gd_e h
      refine mw_ld X hP (ms hk 9) rfl (inb_vp g3) rfl dX0_writesOf_14 ?_
      refine lv_goto (tgt := 19) hx hb dX0_writesOf_15 (by decide) ?_
      exact mw_iret X hr hlocks hP hS (Option.some.inj h) rfl dX0_writesOf_19
/-! SealedGroups$Groups.heldBy -/
noncomputable def f_X0_heldBy (k : Nat) (M : Mem) (a1 : Int32) : Option Int32 :=
(if a1 < 0 then
some (0 : Int32)
else
(if (4 : Int32) ≤ a1 then
some (0 : Int32)
else
gd (inb a1 4) (
some (M k 10 (a1).toNatClampNeg))))
theorem pk_X0_heldBy : Pk "SealedGroups$Groups" yX0_heldBy cX0_heldBy 2 (some .int) 1 := ⟨wm_168, wm_40, rfl, by decide +kernel⟩
theorem pv_X0_heldBy : Cond.instanceMethod yX0_heldBy ∈ wsL_law ∧ Cond.selects "SealedGroups$Groups" yX0_heldBy yX0_heldBy ∈ wsL_law := ⟨wm_166, wm_167⟩
set_option maxHeartbeats 4000000 in
set_option maxRecDepth 100000 in
theorem c_X0_heldBy (l : Launch) (E : En) (hA : AdOK E) {k : Nat} {M : Mem} {a1 : Int32} {r0 : Int32} (hk : k < 7) (h : f_X0_heldBy k M a1 = some r0) : Met l yX0_heldBy (Wm yX0_heldBy cX0_heldBy 2 (some .int)) ({ frames := 0, cells := 0, slots := 0, locals := 0 } : Room) (va_Pc [Value.ref (E.2.2 k 7), Value.int a1] (Wd E M)) (QI E r0 M) 0 0 (AA E) := by
  refine Met.ofW (cc := cX0_heldBy) (maxL := 2) (ret := (some .int)) (by decide +kernel) rfl ?_
  intro p e s m args below meth c s₁ B hml hv
  obtain ⟨rfl, hP, hK⟩ := hv
  have X : Cx E (AA E) p s m c _ cX0_heldBy 2 RX0 := ⟨⟨B.exec, B.bytes, hml, findClass_of_methodNamed B.named, fun w hw => atoms_spec (ws := Wm yX0_heldBy cX0_heldBy 2 (some .int)) B.pre w (List.mem_cons_of_mem _ hw)⟩, hK, hA, fun _ h => h⟩
  have hx := B.exec
  have hb := B.bytes
  have hr := B.returns
  have hlocks := B.notSynchronized
  clear B hml
  have hS : va_S (AA E) s.heap s.heap [] := va_S.rf
  have hl := lv_entry ([Value.ref (E.2.2 k 7), Value.int a1]) (n := 2) (Nat.le_of_ble_eq_true rfl)
  rw [lg_entry_eq]
  generalize (lg_sl ([Value.ref (E.2.2 k 7), Value.int a1]) ++ List.replicate (2 - (lg_sl ([Value.ref (E.2.2 k 7), Value.int a1])).length) Slot.unset).toArray = ls at hl ⊢
  have hl : lv_has ls 2 [(0, .ref (E.2.2 k 7)), (1, .int a1)] := hl
  unfold f_X0_heldBy at h
  refine lv_iload_n hx hb dX0_heldBy_0 rfl (lv_at hl 1 rfl) ?_
  refine lv_if_lt (tgt := 18) hx hb dX0_heldBy_1 (by decide) (fun c1 => ?_) (fun c1 => ?_)
  · have h := br_1 h c1
    refine lv_iconst (v := 0) hx hb dX0_heldBy_18 (by decide) ?_
    exact mw_iret X hr hlocks hP hS (Option.some.inj h) rfl dX0_heldBy_19
  · have h := br_0 h c1
    refine lv_iload_n hx hb dX0_heldBy_4 rfl (lv_at hl 1 rfl) ?_
    refine lv_iconst (v := 4) hx hb dX0_heldBy_5 (by decide) ?_
    refine lv_icmp_ge (tgt := 18) hx hb dX0_heldBy_6 (by decide) (fun c2 => ?_) (fun c2 => ?_)
    · have h := br_1 h c2
      refine lv_iconst (v := 0) hx hb dX0_heldBy_18 (by decide) ?_
      exact mw_iret X hr hlocks hP hS (Option.some.inj h) rfl dX0_heldBy_19
    · have h := br_0 h c2
      refine lv_aload_n hx hb dX0_heldBy_9 rfl (lv_at hl 0 rfl) ?_
      refine gt_0_2 X wm_59 hP (ms hk 7) dX0_heldBy_10 ?_
      refine lv_iload_n hx hb dX0_heldBy_13 rfl (lv_at hl 1 rfl) ?_
      obtain ⟨g3, h⟩ := gd_e h
      refine mw_ld X hP (ms hk 10) rfl (inb_vp g3) rfl dX0_heldBy_14 ?_
      refine lv_goto (tgt := 19) hx hb dX0_heldBy_15 (by decide) ?_
      exact mw_iret X hr hlocks hP hS (Option.some.inj h) rfl dX0_heldBy_19
/-! SealedGroups$Groups.tell -/
noncomputable def f_X0_tell (k : Nat) (M : Mem) (a1 a2 : Int32) : Option Int32 :=
(if a2 = 0 then
bO (f_X0_isOpen k M a1) (fun v9 =>
(if v9 = 0 then
some (0 : Int32)
else
some (1 : Int32)))
else
bO (f_X0_isOpen k M a1) (fun v2 =>
(if v2 = 0 then
some (-1000004 : Int32)
else
(if a2 = (1 : Int32) then
bO (f_X0_beginOf k M a1) (fun v5 =>
some v5)
else if a2 = (2 : Int32) then
bO (f_X0_writesOf k M a1) (fun v7 =>
some v7)
else 
bO (f_X0_heldBy k M a1) (fun v8 =>
some v8)))))
theorem pk_X0_tell : Pk "SealedGroups$Groups" yX0_tell cX0_tell 3 (some .int) 2 := ⟨wm_152, wm_40, rfl, by decide +kernel⟩
theorem pv_X0_tell : Cond.instanceMethod yX0_tell ∈ wsL_law ∧ Cond.selects "SealedGroups$Groups" yX0_tell yX0_tell ∈ wsL_law := ⟨wm_150, wm_151⟩
set_option maxHeartbeats 4000000 in
set_option maxRecDepth 100000 in
theorem c_X0_tell (l : Launch) (E : En) (hA : AdOK E) {k : Nat} {M : Mem} {a1 a2 : Int32} {r0 : Int32} (hk : k < 7) (h : f_X0_tell k M a1 a2 = some r0) : Met l yX0_tell (Wm yX0_tell cX0_tell 3 (some .int)) ({ frames := 1, cells := 0, slots := 0, locals := 21 } : Room) (va_Pc [Value.ref (E.2.2 k 7), Value.int a1, Value.int a2] (Wd E M)) (QI E r0 M) 0 0 (AA E) := by
  refine Met.ofW (cc := cX0_tell) (maxL := 3) (ret := (some .int)) (by decide +kernel) rfl ?_
  intro p e s m args below meth c s₁ B hml hv
  obtain ⟨rfl, hP, hK⟩ := hv
  have X : Cx E (AA E) p s m c _ cX0_tell 3 RX0 := ⟨⟨B.exec, B.bytes, hml, findClass_of_methodNamed B.named, fun w hw => atoms_spec (ws := Wm yX0_tell cX0_tell 3 (some .int)) B.pre w (List.mem_cons_of_mem _ hw)⟩, hK, hA, fun _ h => h⟩
  have hx := B.exec
  have hb := B.bytes
  have hr := B.returns
  have hlocks := B.notSynchronized
  clear B hml
  have hS : va_S (AA E) s.heap s.heap [] := va_S.rf
  have hl := lv_entry ([Value.ref (E.2.2 k 7), Value.int a1, Value.int a2]) (n := 3) (Nat.le_of_ble_eq_true rfl)
  rw [lg_entry_eq]
  generalize (lg_sl ([Value.ref (E.2.2 k 7), Value.int a1, Value.int a2]) ++ List.replicate (3 - (lg_sl ([Value.ref (E.2.2 k 7), Value.int a1, Value.int a2])).length) Slot.unset).toArray = ls at hl ⊢
  have hl : lv_has ls 3 [(0, .ref (E.2.2 k 7)), (1, .int a1), (2, .int a2)] := hl
  unfold f_X0_tell at h
  refine lv_iload_n hx hb dX0_tell_0 rfl (lv_at hl 2 rfl) ?_
  refine lv_if_ne (tgt := 18) hx hb dX0_tell_1 (by decide) (fun c1 => ?_) (fun c1 => ?_)
  · have h := br_0 h c1
    refine lv_aload_n hx hb dX0_tell_18 rfl (lv_at hl 0 rfl) ?_
    refine lv_iload_n hx hb dX0_tell_19 rfl (lv_at hl 1 rfl) ?_
    obtain ⟨v2, hv2, h⟩ := bO_e h
    refine mw_callVi X (c_X0_isOpen l E hA hk hv2) pk_X0_isOpen pv_X0_isOpen wm_153 ⟨Nat.le_of_ble_eq_true rfl, Nat.le_of_ble_eq_true rfl⟩ ⟨rfl, rfl⟩ hP hS (ms hk 7) rfl rfl rfl rfl hl.1 (Nat.le_of_ble_eq_true rfl) ⟨Nat.zero_le _, Nat.zero_le _⟩ rfl dX0_tell_20 (fun H locs hP hS => ?_)
    refine lv_if_ne (tgt := 29) hx hb dX0_tell_23 (by decide) (fun c3 => ?_) (fun c3 => ?_)
    · have h := br_0 h c3
      refine lv_iload_n hx hb dX0_tell_29 rfl (lv_at hl 2 rfl) ?_
      by_cases c4 : a2 = (1 : Int32)
      · have h := br_1 h c4
        refine lv_lookup (tgt := 56) hx hb dX0_tell_30 (by decide) (by rw [c4] <;> rfl) (by decide) ?_
        refine lv_aload_n hx hb dX0_tell_56 rfl (lv_at hl 0 rfl) ?_
        refine lv_iload_n hx hb dX0_tell_57 rfl (lv_at hl 1 rfl) ?_
        obtain ⟨v5, hv5, h⟩ := bO_e h
        refine mw_callVi X (c_X0_beginOf l E hA hk hv5) pk_X0_beginOf pv_X0_beginOf wm_157 ⟨Nat.le_of_ble_eq_true rfl, Nat.le_of_ble_eq_true rfl⟩ ⟨rfl, rfl⟩ hP hS (ms hk 7) rfl rfl rfl rfl hl.1 (Nat.le_of_ble_eq_true rfl) ⟨Nat.zero_le _, Nat.zero_le _⟩ rfl dX0_tell_58 (fun H locs hP hS => ?_)
        exact mw_iret X hr hlocks hP hS (Option.some.inj h) rfl dX0_tell_61
      have h := br_0 h c4
      by_cases c6 : a2 = (2 : Int32)
      · have h := br_1 h c6
        refine lv_lookup (tgt := 62) hx hb dX0_tell_30 (by decide) (by rw [c6] <;> rfl) (by decide) ?_
        refine lv_aload_n hx hb dX0_tell_62 rfl (lv_at hl 0 rfl) ?_
        refine lv_iload_n hx hb dX0_tell_63 rfl (lv_at hl 1 rfl) ?_
        obtain ⟨v7, hv7, h⟩ := bO_e h
        refine mw_callVi X (c_X0_writesOf l E hA hk hv7) pk_X0_writesOf pv_X0_writesOf wm_161 ⟨Nat.le_of_ble_eq_true rfl, Nat.le_of_ble_eq_true rfl⟩ ⟨rfl, rfl⟩ hP hS (ms hk 7) rfl rfl rfl rfl hl.1 (Nat.le_of_ble_eq_true rfl) ⟨Nat.zero_le _, Nat.zero_le _⟩ rfl dX0_tell_64 (fun H locs hP hS => ?_)
        exact mw_iret X hr hlocks hP hS (Option.some.inj h) rfl dX0_tell_67
      have h := br_0 h c6
      have qc4 := sw_ne c4 (v := 1) rfl
      have qc6 := sw_ne c6 (v := 2) rfl
      refine lv_lookup (tgt := 68) hx hb dX0_tell_30 (by decide) (by simp only [Op.lookupswitch.offset_cons, Op.lookupswitch.offset_nil, if_neg (Ne.symm qc4), if_neg (Ne.symm qc6)]; rfl) (by decide) ?_
      refine lv_aload_n hx hb dX0_tell_68 rfl (lv_at hl 0 rfl) ?_
      refine lv_iload_n hx hb dX0_tell_69 rfl (lv_at hl 1 rfl) ?_
      obtain ⟨v8, hv8, h⟩ := bO_e h
      refine mw_callVi X (c_X0_heldBy l E hA hk hv8) pk_X0_heldBy pv_X0_heldBy wm_165 ⟨Nat.le_of_ble_eq_true rfl, Nat.le_of_ble_eq_true rfl⟩ ⟨rfl, rfl⟩ hP hS (ms hk 7) rfl rfl rfl rfl hl.1 (Nat.le_of_ble_eq_true rfl) ⟨Nat.zero_le _, Nat.zero_le _⟩ rfl dX0_tell_70 (fun H locs hP hS => ?_)
      exact mw_iret X hr hlocks hP hS (Option.some.inj h) rfl dX0_tell_73
    · have h := br_1 h c3
      refine lv_ldc hx hb X.1.2.2.2.1 (X.1.2.2.2.2 _ wm_111) dX0_tell_26 ?_
      exact mw_iret X hr hlocks hP hS (Option.some.inj h) rfl dX0_tell_28
  · have h := br_1 h c1
    refine lv_aload_n hx hb dX0_tell_4 rfl (lv_at hl 0 rfl) ?_
    refine lv_iload_n hx hb dX0_tell_5 rfl (lv_at hl 1 rfl) ?_
    obtain ⟨v9, hv9, h⟩ := bO_e h
    refine mw_callVi X (c_X0_isOpen l E hA hk hv9) pk_X0_isOpen pv_X0_isOpen wm_153 ⟨Nat.le_of_ble_eq_true rfl, Nat.le_of_ble_eq_true rfl⟩ ⟨rfl, rfl⟩ hP hS (ms hk 7) rfl rfl rfl rfl hl.1 (Nat.le_of_ble_eq_true rfl) ⟨Nat.zero_le _, Nat.zero_le _⟩ rfl dX0_tell_6 (fun H locs hP hS => ?_)
    refine lv_if_eq (tgt := 16) hx hb dX0_tell_9 (by decide) (fun c10 => ?_) (fun c10 => ?_)
    · have h := br_1 h c10
      refine lv_iconst (v := 0) hx hb dX0_tell_16 (by decide) ?_
      exact mw_iret X hr hlocks hP hS (Option.some.inj h) rfl dX0_tell_17
    · have h := br_0 h c10
      refine lv_iconst (v := 1) hx hb dX0_tell_12 (by decide) ?_
      refine lv_goto (tgt := 17) hx hb dX0_tell_13 (by decide) ?_
      exact mw_iret X hr hlocks hP hS (Option.some.inj h) rfl dX0_tell_17
