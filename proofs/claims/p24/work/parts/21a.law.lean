/-! SealedGroupsLaw.cell -/
noncomputable def f_L_cell (xs : Nat → Int32) (L : Nat) (M : Mem) (a1 : Int32) : Option Int32 :=
(if (Int32.ofNat L) ≤ a1 then
some ((40503 : Int32) * (a1 + (3 : Int32)))
else
gd (inb a1 L) (
some (xs (a1).toNatClampNeg)))
theorem pk_L_cell : Pk "SealedGroupsLaw" yL_cell cL_cell 2 (some .int) 2 := ⟨wm_364, wm_89, rfl, by decide +kernel⟩
set_option maxHeartbeats 4000000 in
set_option maxRecDepth 100000 in
theorem c_L_cell (l : Launch) (E : En) (hA : AdOK E) {b L : Nat} {xs : Nat → Int32} {M : Mem} {a1 : Int32} {r0 : Int32}  (h : f_L_cell xs L M a1 = some r0) : Met l yL_cell (Wm yL_cell cL_cell 2 (some .int)) ({ frames := 0, cells := 0, slots := 0, locals := 0 } : Room) (va_Pc [Value.ref b, Value.int a1] (WdX E M b L xs)) (QI E r0 M) 0 0 (AA E) := by
  refine Met.ofW (cc := cL_cell) (maxL := 2) (ret := (some .int)) (by decide +kernel) rfl ?_
  intro p e s m args below meth c s₁ B hml hv
  obtain ⟨rfl, hX, hbl, hbA, hP, hK⟩ := hv
  have X : Cx E (AA E) p s m c _ cL_cell 2 RL := ⟨⟨B.exec, B.bytes, hml, findClass_of_methodNamed B.named, fun w hw => atoms_spec (ws := Wm yL_cell cL_cell 2 (some .int)) B.pre w (List.mem_cons_of_mem _ hw)⟩, hK, hA, fun _ h => h⟩
  have hx := B.exec
  have hb := B.bytes
  have hr := B.returns
  have hlocks := B.notSynchronized
  clear B hml
  have hS : va_S (AA E) s.heap s.heap [] := va_S.rf
  have hl := lv_entry ([Value.ref b, Value.int a1]) (n := 2) (Nat.le_of_ble_eq_true rfl)
  rw [lg_entry_eq]
  generalize (lg_sl ([Value.ref b, Value.int a1]) ++ List.replicate (2 - (lg_sl ([Value.ref b, Value.int a1])).length) Slot.unset).toArray = ls at hl ⊢
  have hl : lv_has ls 2 [(0, .ref b), (1, .int a1)] := hl
  unfold f_L_cell at h
  refine lv_iload_n hx hb dL_cell_0 rfl (lv_at hl 1 rfl) ?_
  refine lv_aload_n hx hb dL_cell_1 rfl (lv_at hl 0 rfl) ?_
  refine va_slen hx hb hX hbl hbA hS dL_cell_2 ?_
  refine lv_icmp_ge (tgt := 12) hx hb dL_cell_3 (by decide) (fun c1 => ?_) (fun c1 => ?_)
  · have h := br_1 h c1
    refine lv_ldc hx hb X.1.2.2.2.1 (X.1.2.2.2.2 _ wm_365) dL_cell_12 ?_
    refine lv_iload_n hx hb dL_cell_14 rfl (lv_at hl 1 rfl) ?_
    refine lv_iconst (v := 3) hx hb dL_cell_15 (by decide) ?_
    refine lv_iadd hx hb dL_cell_16 ?_
    refine lv_imul hx hb dL_cell_17 ?_
    exact mw_iret X hr hlocks hP hS (Option.some.inj h) rfl dL_cell_18
  · have h := br_0 h c1
    refine lv_aload_n hx hb dL_cell_6 rfl (lv_at hl 0 rfl) ?_
    refine lv_iload_n hx hb dL_cell_7 rfl (lv_at hl 1 rfl) ?_
    obtain ⟨g2, h⟩ := gd_e h
    refine va_sld hx hb hX hbl hbA hS (inb_vp g2) dL_cell_8 ?_
    refine lv_goto (tgt := 18) hx hb dL_cell_9 (by decide) ?_
    exact mw_iret X hr hlocks hP hS (Option.some.inj h) rfl dL_cell_18
/-! SealedGroupsLaw.low -/
noncomputable def f_L_low  (M : Mem) (a1 a2 : Int32) : Option Int32 :=
gd (¬ a2 = 0) (
some ((a1 &&& (2147483647 : Int32)) - (a1 &&& (2147483647 : Int32)) / a2 * a2))
theorem pk_L_low : Pk "SealedGroupsLaw" yL_low cL_low 2 (some .int) 2 := ⟨wm_368, wm_89, rfl, by decide +kernel⟩
set_option maxHeartbeats 4000000 in
set_option maxRecDepth 100000 in
theorem c_L_low (l : Launch) (E : En) (hA : AdOK E) {M : Mem} {a1 a2 : Int32} {r0 : Int32}  (h : f_L_low M a1 a2 = some r0) : Met l yL_low (Wm yL_low cL_low 2 (some .int)) ({ frames := 0, cells := 0, slots := 0, locals := 0 } : Room) (va_Pc [Value.int a1, Value.int a2] (Wd E M)) (QI E r0 M) 0 0 (AA E) := by
  refine Met.ofW (cc := cL_low) (maxL := 2) (ret := (some .int)) (by decide +kernel) rfl ?_
  intro p e s m args below meth c s₁ B hml hv
  obtain ⟨rfl, hP, hK⟩ := hv
  have X : Cx E (AA E) p s m c _ cL_low 2 RL := ⟨⟨B.exec, B.bytes, hml, findClass_of_methodNamed B.named, fun w hw => atoms_spec (ws := Wm yL_low cL_low 2 (some .int)) B.pre w (List.mem_cons_of_mem _ hw)⟩, hK, hA, fun _ h => h⟩
  have hx := B.exec
  have hb := B.bytes
  have hr := B.returns
  have hlocks := B.notSynchronized
  clear B hml
  have hS : va_S (AA E) s.heap s.heap [] := va_S.rf
  have hl := lv_entry ([Value.int a1, Value.int a2]) (n := 2) (Nat.le_of_ble_eq_true rfl)
  rw [lg_entry_eq]
  generalize (lg_sl ([Value.int a1, Value.int a2]) ++ List.replicate (2 - (lg_sl ([Value.int a1, Value.int a2])).length) Slot.unset).toArray = ls at hl ⊢
  have hl : lv_has ls 2 [(0, .int a1), (1, .int a2)] := hl
  unfold f_L_low at h
  refine lv_iload_n hx hb dL_low_0 rfl (lv_at hl 0 rfl) ?_
  refine lv_ldc hx hb X.1.2.2.2.1 (X.1.2.2.2.2 _ wm_369) dL_low_1 ?_
  refine lv_iand hx hb dL_low_3 ?_
  refine lv_iload_n hx hb dL_low_4 rfl (lv_at hl 1 rfl) ?_
  obtain ⟨g1, h⟩ := gd_e h
  refine lv_irem hx hb dL_low_5 g1 ?_
  exact mw_iret X hr hlocks hP hS (Option.some.inj h) rfl dL_low_6
/-! SealedGroupsLaw.of -/
noncomputable def f_L_of_L106  (M : Mem) (y2 y4 z0 : Int32) : Option Int32 :=
gd (inb (y2 - (M 11 28 0)) 64) (
some ((((ldl M ((y2 - (M 11 28 0))).toNatClampNeg) >>> ((y4 : Int32).toInt64 &&& 63))).toInt32 &&& z0))
noncomputable def f_L_of_L70  (M : Mem) (y2 y3 z0 : Int32) : Option Int32 :=
(if (3 : Int32) ≤ y3 then
(if (5 : Int32) ≤ y3 then
(if y3 = (6 : Int32) then
f_L_of_L106 M y2 z0 (15 : Int32)
else
f_L_of_L106 M y2 z0 (255 : Int32))
else
f_L_of_L106 M y2 z0 (127 : Int32))
else
f_L_of_L106 M y2 z0 (7 : Int32))
noncomputable def f_L_of  (M : Mem) (a1 a2 : Int32) : Option Int32 :=
(if a2 = 0 then
f_L_of_L70 M a1 a2 (0 : Int32)
else
(if a2 = (1 : Int32) then
f_L_of_L70 M a1 a2 (3 : Int32)
else
(if a2 = (2 : Int32) then
f_L_of_L70 M a1 a2 (6 : Int32)
else
(if a2 = (3 : Int32) then
f_L_of_L70 M a1 a2 (9 : Int32)
else
(if a2 = (4 : Int32) then
f_L_of_L70 M a1 a2 (16 : Int32)
else
(if a2 = (5 : Int32) then
f_L_of_L70 M a1 a2 (23 : Int32)
else
(if a2 = (6 : Int32) then
f_L_of_L70 M a1 a2 (31 : Int32)
else
f_L_of_L70 M a1 a2 (35 : Int32))))))))
theorem pk_L_of : Pk "SealedGroupsLaw" yL_of cL_of 6 (some .int) 4 := ⟨wm_177, wm_89, rfl, by decide +kernel⟩
set_option maxHeartbeats 4000000 in
set_option maxRecDepth 100000 in
theorem c_L_of (l : Launch) (E : En) (hA : AdOK E) {M : Mem} {a1 a2 : Int32} {r0 : Int32}  (h : f_L_of M a1 a2 = some r0) : Met l yL_of (Wm yL_of cL_of 6 (some .int)) ({ frames := 0, cells := 0, slots := 0, locals := 0 } : Room) (va_Pc [Value.ref (E.2.2 11 31), Value.ref (E.2.2 11 28), Value.int a1, Value.int a2] (Wd E M)) (QI E r0 M) 0 0 (AA E) := by
  refine Met.ofW (cc := cL_of) (maxL := 6) (ret := (some .int)) (by decide +kernel) rfl ?_
  intro p e s m args below meth c s₁ B hml hv
  obtain ⟨rfl, hP, hK⟩ := hv
  have X : Cx E (AA E) p s m c _ cL_of 6 RL := ⟨⟨B.exec, B.bytes, hml, findClass_of_methodNamed B.named, fun w hw => atoms_spec (ws := Wm yL_of cL_of 6 (some .int)) B.pre w (List.mem_cons_of_mem _ hw)⟩, hK, hA, fun _ h => h⟩
  have hx := B.exec
  have hb := B.bytes
  have hr := B.returns
  have hlocks := B.notSynchronized
  clear B hml
  have hS : va_S (AA E) s.heap s.heap [] := va_S.rf
  have hl := lv_entry ([Value.ref (E.2.2 11 31), Value.ref (E.2.2 11 28), Value.int a1, Value.int a2]) (n := 6) (Nat.le_of_ble_eq_true rfl)
  rw [lg_entry_eq]
  generalize (lg_sl ([Value.ref (E.2.2 11 31), Value.ref (E.2.2 11 28), Value.int a1, Value.int a2]) ++ List.replicate (6 - (lg_sl ([Value.ref (E.2.2 11 31), Value.ref (E.2.2 11 28), Value.int a1, Value.int a2])).length) Slot.unset).toArray = ls at hl ⊢
  have hl : lv_has ls 6 [(0, .ref (E.2.2 11 31)), (1, .ref (E.2.2 11 28)), (2, .int a1), (3, .int a2)] := hl
  have w_L106 : ∀  (y2 y4 z0 : Int32) (H : Heap) (locs : List Loc) (ls : Array Slot), f_L_of_L106 M y2 y4 z0 = some r0 → va_P E.1 vwCl (wl E M) H → va_S (AA E) s.heap H locs → lv_has ls 6 [(0, .ref (E.2.2 11 31)), (1, .ref (E.2.2 11 28)), (2, .int y2), (4, .int y4)] → W p l e (headSpec (Wm yL_of cL_of 6 (some .int)) ({ frames := 0, cells := 0, slots := 0, locals := 0 } : Room)).room s m ([Value.ref (E.2.2 11 31), Value.ref (E.2.2 11 28), Value.int a1, Value.int a2] : List Value).toArray below meth c H locs 0 0 (MQ below (QI E r0 M) ([Value.ref (E.2.2 11 31), Value.ref (E.2.2 11 28), Value.int a1, Value.int a2] : List Value).toArray s 0 0 (AA E)) (F0 m 106 ls [.int z0]) := by
    intro y2 y4 z0 H locs ls h hP hS hl
    unfold f_L_of_L106 at h
    refine lv_istore (lv' := [(5, .int z0), (0, .ref (E.2.2 11 31)), (1, .ref (E.2.2 11 28)), (2, .int y2), (4, .int y4)]) hx hb dL_of_106 hl (by decide) rfl (fun ls hl => ?_)
    refine lv_aload_n hx hb dL_of_108 rfl (lv_at hl 1 rfl) ?_
    refine lv_iload_n hx hb dL_of_109 rfl (lv_at hl 3 rfl) ?_
    refine lv_aload_n hx hb dL_of_110 rfl (lv_at hl 2 rfl) ?_
    refine lv_iconst (v := 0) hx hb dL_of_111 (by decide) ?_
    refine mw_ld X hP ix_28 rfl (v := (M 11 28 0)) (inb_vp (by decide)) rfl dL_of_112 ?_
    refine lv_isub hx hb dL_of_113 ?_
    obtain ⟨g11, h⟩ := gd_e h
    refine mw_lld X hP (inb_vp g11) dL_of_114 ?_
    refine lv_iload hx hb dL_of_115 (lv_at hl 4 rfl) ?_
    refine lv_lshr hx hb dL_of_117 rfl ?_
    refine lv_l2i hx hb dL_of_118 rfl ?_
    refine lv_iload hx hb dL_of_119 (lv_at hl 0 rfl) ?_
    refine lv_iand hx hb dL_of_121 ?_
    exact mw_iret X hr hlocks hP hS (Option.some.inj h) rfl dL_of_122
  have w_L70 : ∀  (y2 y3 z0 : Int32) (H : Heap) (locs : List Loc) (ls : Array Slot), f_L_of_L70 M y2 y3 z0 = some r0 → va_P E.1 vwCl (wl E M) H → va_S (AA E) s.heap H locs → lv_has ls 6 [(0, .ref (E.2.2 11 31)), (1, .ref (E.2.2 11 28)), (2, .int y2), (3, .int y3)] → W p l e (headSpec (Wm yL_of cL_of 6 (some .int)) ({ frames := 0, cells := 0, slots := 0, locals := 0 } : Room)).room s m ([Value.ref (E.2.2 11 31), Value.ref (E.2.2 11 28), Value.int a1, Value.int a2] : List Value).toArray below meth c H locs 0 0 (MQ below (QI E r0 M) ([Value.ref (E.2.2 11 31), Value.ref (E.2.2 11 28), Value.int a1, Value.int a2] : List Value).toArray s 0 0 (AA E)) (F0 m 70 ls [.int z0]) := by
    intro y2 y3 z0 H locs ls h hP hS hl
    unfold f_L_of_L70 at h
    refine lv_istore (lv' := [(4, .int z0), (0, .ref (E.2.2 11 31)), (1, .ref (E.2.2 11 28)), (2, .int y2), (3, .int y3)]) hx hb dL_of_70 hl (by decide) rfl (fun ls hl => ?_)
    refine lv_iload_n hx hb dL_of_72 rfl (lv_at hl 4 rfl) ?_
    refine lv_iconst (v := 3) hx hb dL_of_73 (by decide) ?_
    refine lv_icmp_ge (tgt := 82) hx hb dL_of_74 (by decide) (fun c8 => ?_) (fun c8 => ?_)
    · have h := br_1 h c8
      refine lv_iload_n hx hb dL_of_82 rfl (lv_at hl 4 rfl) ?_
      refine lv_iconst (v := 5) hx hb dL_of_83 (by decide) ?_
      refine lv_icmp_ge (tgt := 92) hx hb dL_of_84 (by decide) (fun c9 => ?_) (fun c9 => ?_)
      · have h := br_1 h c9
        refine lv_iload_n hx hb dL_of_92 rfl (lv_at hl 4 rfl) ?_
        refine lv_bipush (v := 6) hx hb dL_of_93 (by decide) ?_
        refine lv_icmp_ne (tgt := 103) hx hb dL_of_95 (by decide) (fun c10 => ?_) (fun c10 => ?_)
        · have h := br_0 h c10
          refine lv_sipush (v := 255) hx hb dL_of_103 (by decide) ?_
          exact w_L106 _ _ _ _ _ _ h hP hS (lv_sub hl [1, 2, 3, 0] rfl)
        · have h := br_1 h c10
          refine lv_bipush (v := 15) hx hb dL_of_98 (by decide) ?_
          refine lv_goto (tgt := 106) hx hb dL_of_100 (by decide) ?_
          exact w_L106 _ _ _ _ _ _ h hP hS (lv_sub hl [1, 2, 3, 0] rfl)
      · have h := br_0 h c9
        refine lv_bipush (v := 127) hx hb dL_of_87 (by decide) ?_
        refine lv_goto (tgt := 106) hx hb dL_of_89 (by decide) ?_
        exact w_L106 _ _ _ _ _ _ h hP hS (lv_sub hl [1, 2, 3, 0] rfl)
    · have h := br_0 h c8
      refine lv_bipush (v := 7) hx hb dL_of_77 (by decide) ?_
      refine lv_goto (tgt := 106) hx hb dL_of_79 (by decide) ?_
      exact w_L106 _ _ _ _ _ _ h hP hS (lv_sub hl [1, 2, 3, 0] rfl)
  unfold f_L_of at h
  refine lv_iload_n hx hb dL_of_0 rfl (lv_at hl 3 rfl) ?_
  refine lv_if_ne (tgt := 8) hx hb dL_of_1 (by decide) (fun c1 => ?_) (fun c1 => ?_)
  · have h := br_0 h c1
    refine lv_iload_n hx hb dL_of_8 rfl (lv_at hl 3 rfl) ?_
    refine lv_iconst (v := 1) hx hb dL_of_9 (by decide) ?_
    refine lv_icmp_ne (tgt := 17) hx hb dL_of_10 (by decide) (fun c2 => ?_) (fun c2 => ?_)
    · have h := br_0 h c2
      refine lv_iload_n hx hb dL_of_17 rfl (lv_at hl 3 rfl) ?_
      refine lv_iconst (v := 2) hx hb dL_of_18 (by decide) ?_
      refine lv_icmp_ne (tgt := 27) hx hb dL_of_19 (by decide) (fun c3 => ?_) (fun c3 => ?_)
      · have h := br_0 h c3
        refine lv_iload_n hx hb dL_of_27 rfl (lv_at hl 3 rfl) ?_
        refine lv_iconst (v := 3) hx hb dL_of_28 (by decide) ?_
        refine lv_icmp_ne (tgt := 37) hx hb dL_of_29 (by decide) (fun c4 => ?_) (fun c4 => ?_)
        · have h := br_0 h c4
          refine lv_iload_n hx hb dL_of_37 rfl (lv_at hl 3 rfl) ?_
          refine lv_iconst (v := 4) hx hb dL_of_38 (by decide) ?_
          refine lv_icmp_ne (tgt := 47) hx hb dL_of_39 (by decide) (fun c5 => ?_) (fun c5 => ?_)
          · have h := br_0 h c5
            refine lv_iload_n hx hb dL_of_47 rfl (lv_at hl 3 rfl) ?_
            refine lv_iconst (v := 5) hx hb dL_of_48 (by decide) ?_
            refine lv_icmp_ne (tgt := 57) hx hb dL_of_49 (by decide) (fun c6 => ?_) (fun c6 => ?_)
            · have h := br_0 h c6
              refine lv_iload_n hx hb dL_of_57 rfl (lv_at hl 3 rfl) ?_
              refine lv_bipush (v := 6) hx hb dL_of_58 (by decide) ?_
              refine lv_icmp_ne (tgt := 68) hx hb dL_of_60 (by decide) (fun c7 => ?_) (fun c7 => ?_)
              · have h := br_0 h c7
                refine lv_bipush (v := 35) hx hb dL_of_68 (by decide) ?_
                exact w_L70 _ _ _ _ _ _ h hP hS (lv_sub hl [0, 1, 2, 3] rfl)
              · have h := br_1 h c7
                refine lv_bipush (v := 31) hx hb dL_of_63 (by decide) ?_
                refine lv_goto (tgt := 70) hx hb dL_of_65 (by decide) ?_
                exact w_L70 _ _ _ _ _ _ h hP hS (lv_sub hl [0, 1, 2, 3] rfl)
            · have h := br_1 h c6
              refine lv_bipush (v := 23) hx hb dL_of_52 (by decide) ?_
              refine lv_goto (tgt := 70) hx hb dL_of_54 (by decide) ?_
              exact w_L70 _ _ _ _ _ _ h hP hS (lv_sub hl [0, 1, 2, 3] rfl)
          · have h := br_1 h c5
            refine lv_bipush (v := 16) hx hb dL_of_42 (by decide) ?_
            refine lv_goto (tgt := 70) hx hb dL_of_44 (by decide) ?_
            exact w_L70 _ _ _ _ _ _ h hP hS (lv_sub hl [0, 1, 2, 3] rfl)
        · have h := br_1 h c4
          refine lv_bipush (v := 9) hx hb dL_of_32 (by decide) ?_
          refine lv_goto (tgt := 70) hx hb dL_of_34 (by decide) ?_
          exact w_L70 _ _ _ _ _ _ h hP hS (lv_sub hl [0, 1, 2, 3] rfl)
      · have h := br_1 h c3
        refine lv_bipush (v := 6) hx hb dL_of_22 (by decide) ?_
        refine lv_goto (tgt := 70) hx hb dL_of_24 (by decide) ?_
        exact w_L70 _ _ _ _ _ _ h hP hS (lv_sub hl [0, 1, 2, 3] rfl)
    · have h := br_1 h c2
      refine lv_iconst (v := 3) hx hb dL_of_13 (by decide) ?_
      refine lv_goto (tgt := 70) hx hb dL_of_14 (by decide) ?_
      exact w_L70 _ _ _ _ _ _ h hP hS (lv_sub hl [0, 1, 2, 3] rfl)
  · have h := br_1 h c1
    refine lv_iconst (v := 0) hx hb dL_of_4 (by decide) ?_
    refine lv_goto (tgt := 70) hx hb dL_of_5 (by decide) ?_
    exact w_L70 _ _ _ _ _ _ h hP hS (lv_sub hl [0, 1, 2, 3] rfl)
/-! SealedGroupsLaw.last -/
noncomputable def f_L_last  (M : Mem) : Option Int32 :=
some (((M 11 28 0) + (M 11 28 1)) - (1 : Int32))
theorem pk_L_last : Pk "SealedGroupsLaw" yL_last cL_last 1 (some .int) 1 := ⟨wm_171, wm_89, rfl, by decide +kernel⟩
set_option maxHeartbeats 4000000 in
set_option maxRecDepth 100000 in
theorem c_L_last (l : Launch) (E : En) (hA : AdOK E) {M : Mem} {r0 : Int32}  (h : f_L_last M = some r0) : Met l yL_last (Wm yL_last cL_last 1 (some .int)) ({ frames := 0, cells := 0, slots := 0, locals := 0 } : Room) (va_Pc [Value.ref (E.2.2 11 28)] (Wd E M)) (QI E r0 M) 0 0 (AA E) := by
  refine Met.ofW (cc := cL_last) (maxL := 1) (ret := (some .int)) (by decide +kernel) rfl ?_
  intro p e s m args below meth c s₁ B hml hv
  obtain ⟨rfl, hP, hK⟩ := hv
  have X : Cx E (AA E) p s m c _ cL_last 1 RL := ⟨⟨B.exec, B.bytes, hml, findClass_of_methodNamed B.named, fun w hw => atoms_spec (ws := Wm yL_last cL_last 1 (some .int)) B.pre w (List.mem_cons_of_mem _ hw)⟩, hK, hA, fun _ h => h⟩
  have hx := B.exec
  have hb := B.bytes
  have hr := B.returns
  have hlocks := B.notSynchronized
  clear B hml
  have hS : va_S (AA E) s.heap s.heap [] := va_S.rf
  have hl := lv_entry ([Value.ref (E.2.2 11 28)]) (n := 1) (Nat.le_of_ble_eq_true rfl)
  rw [lg_entry_eq]
  generalize (lg_sl ([Value.ref (E.2.2 11 28)]) ++ List.replicate (1 - (lg_sl ([Value.ref (E.2.2 11 28)])).length) Slot.unset).toArray = ls at hl ⊢
  have hl : lv_has ls 1 [(0, .ref (E.2.2 11 28))] := hl
  unfold f_L_last at h
  refine lv_aload_n hx hb dL_last_0 rfl (lv_at hl 0 rfl) ?_
  refine lv_iconst (v := 0) hx hb dL_last_1 (by decide) ?_
  refine mw_ld X hP ix_28 rfl (v := (M 11 28 0)) (inb_vp (by decide)) rfl dL_last_2 ?_
  refine lv_aload_n hx hb dL_last_3 rfl (lv_at hl 0 rfl) ?_
  refine lv_iconst (v := 1) hx hb dL_last_4 (by decide) ?_
  refine mw_ld X hP ix_28 rfl (v := (M 11 28 1)) (inb_vp (by decide)) rfl dL_last_5 ?_
  refine lv_iadd hx hb dL_last_6 ?_
  refine lv_iconst (v := 1) hx hb dL_last_7 (by decide) ?_
  refine lv_isub hx hb dL_last_8 ?_
  exact mw_iret X hr hlocks hP hS (Option.some.inj h) rfl dL_last_9
/-! SealedGroupsLaw.add -/
noncomputable def f_L_add  (M : Mem) (a1 a2 a3 a4 a5 a6 : Int32) : Option (Int32 × Mem) :=
gd (inb (M 11 28 1) 64) (
bd (stl M ((M 11 28 1)).toNatClampNeg ((((((a1 ||| (a2 <<< ((3 : Int32) &&& 31))) ||| (a3 <<< ((6 : Int32) &&& 31))) ||| (a4 <<< ((9 : Int32) &&& 31)))).toInt64 ||| ((a5).toInt64 <<< (((16 : Int32) : Int32).toInt64 &&& 63))) ||| ((a6).toInt64 <<< (((23 : Int32) : Int32).toInt64 &&& 63)))) (fun M2 =>
bd (st M2 11 28 1 ((M2 11 28 1) + (1 : Int32))) (fun M3 =>
bO (f_L_last M3) (fun v4 =>
some (v4, M3)))))
theorem pk_L_add : Pk "SealedGroupsLaw" yL_add cL_add 8 (some .int) 8 := ⟨wm_526, wm_89, rfl, by decide +kernel⟩
set_option maxHeartbeats 4000000 in
set_option maxRecDepth 100000 in
theorem c_L_add (l : Launch) (E : En) (hA : AdOK E) {M : Mem} {a1 a2 a3 a4 a5 a6 : Int32} {r0 : Int32} {M0 : Mem}  (h : f_L_add M a1 a2 a3 a4 a5 a6 = some (r0, M0)) : Met l yL_add (Wm yL_add cL_add 8 (some .int)) ({ frames := 1, cells := 0, slots := 0, locals := 28 } : Room) (va_Pc [Value.ref (E.2.2 11 31), Value.ref (E.2.2 11 28), Value.int a1, Value.int a2, Value.int a3, Value.int a4, Value.int a5, Value.int a6] (Wd E M)) (QI E r0 M0) 0 0 (AA E) := by
  refine Met.ofW (cc := cL_add) (maxL := 8) (ret := (some .int)) (by decide +kernel) rfl ?_
  intro p e s m args below meth c s₁ B hml hv
  obtain ⟨rfl, hP, hK⟩ := hv
  have X : Cx E (AA E) p s m c _ cL_add 8 RL := ⟨⟨B.exec, B.bytes, hml, findClass_of_methodNamed B.named, fun w hw => atoms_spec (ws := Wm yL_add cL_add 8 (some .int)) B.pre w (List.mem_cons_of_mem _ hw)⟩, hK, hA, fun _ h => h⟩
  have hx := B.exec
  have hb := B.bytes
  have hr := B.returns
  have hlocks := B.notSynchronized
  clear B hml
  have hS : va_S (AA E) s.heap s.heap [] := va_S.rf
  have hl := lv_entry ([Value.ref (E.2.2 11 31), Value.ref (E.2.2 11 28), Value.int a1, Value.int a2, Value.int a3, Value.int a4, Value.int a5, Value.int a6]) (n := 8) (Nat.le_of_ble_eq_true rfl)
  rw [lg_entry_eq]
  generalize (lg_sl ([Value.ref (E.2.2 11 31), Value.ref (E.2.2 11 28), Value.int a1, Value.int a2, Value.int a3, Value.int a4, Value.int a5, Value.int a6]) ++ List.replicate (8 - (lg_sl ([Value.ref (E.2.2 11 31), Value.ref (E.2.2 11 28), Value.int a1, Value.int a2, Value.int a3, Value.int a4, Value.int a5, Value.int a6])).length) Slot.unset).toArray = ls at hl ⊢
  have hl : lv_has ls 8 [(0, .ref (E.2.2 11 31)), (1, .ref (E.2.2 11 28)), (2, .int a1), (3, .int a2), (4, .int a3), (5, .int a4), (6, .int a5), (7, .int a6)] := hl
  unfold f_L_add at h
  refine lv_aload_n hx hb dL_add_0 rfl (lv_at hl 0 rfl) ?_
  refine lv_aload_n hx hb dL_add_1 rfl (lv_at hl 1 rfl) ?_
  refine lv_iconst (v := 1) hx hb dL_add_2 (by decide) ?_
  refine mw_ld X hP ix_28 rfl (v := (M 11 28 1)) (inb_vp (by decide)) rfl dL_add_3 ?_
  refine lv_iload_n hx hb dL_add_4 rfl (lv_at hl 2 rfl) ?_
  refine lv_iload_n hx hb dL_add_5 rfl (lv_at hl 3 rfl) ?_
  refine lv_iconst (v := 3) hx hb dL_add_6 (by decide) ?_
  refine lv_ishl hx hb dL_add_7 ?_
  refine lv_ior hx hb dL_add_8 ?_
  refine lv_iload hx hb dL_add_9 (lv_at hl 4 rfl) ?_
  refine lv_bipush (v := 6) hx hb dL_add_11 (by decide) ?_
  refine lv_ishl hx hb dL_add_13 ?_
  refine lv_ior hx hb dL_add_14 ?_
  refine lv_iload hx hb dL_add_15 (lv_at hl 5 rfl) ?_
  refine lv_bipush (v := 9) hx hb dL_add_17 (by decide) ?_
  refine lv_ishl hx hb dL_add_19 ?_
  refine lv_ior hx hb dL_add_20 ?_
  refine lv_i2l hx hb dL_add_21 rfl ?_
  refine lv_iload hx hb dL_add_22 (lv_at hl 6 rfl) ?_
  refine lv_i2l hx hb dL_add_24 rfl ?_
  refine lv_bipush (v := 16) hx hb dL_add_25 (by decide) ?_
  refine lv_lshl hx hb dL_add_27 rfl ?_
  refine lv_lor hx hb dL_add_28 ?_
  refine lv_iload hx hb dL_add_29 (lv_at hl 7 rfl) ?_
  refine lv_i2l hx hb dL_add_31 rfl ?_
  refine lv_bipush (v := 23) hx hb dL_add_32 (by decide) ?_
  refine lv_lshl hx hb dL_add_34 rfl ?_
  refine lv_lor hx hb dL_add_35 ?_
  obtain ⟨g1, h⟩ := gd_e h
  refine mw_lst X hP hS (inb_vp g1) rfl dL_add_36 (fun H locs M2 eM2 hP hS => ?_)
  have h := bd_e h eM2
  refine lv_aload_n hx hb dL_add_37 rfl (lv_at hl 1 rfl) ?_
  refine lv_iconst (v := 1) hx hb dL_add_38 (by decide) ?_
  refine lv_dup2_11 hx hb dL_add_39 rfl rfl ?_
  refine mw_ld X hP ix_28 rfl (v := (M2 11 28 1)) (inb_vp (by decide)) rfl dL_add_40 ?_
  refine lv_iconst (v := 1) hx hb dL_add_41 (by decide) ?_
  refine lv_iadd hx hb dL_add_42 ?_
  refine mw_st X hP hS ix_28 (fun _ => rfl) (j := 1) (inb_vp (by decide)) rfl dL_add_43 (fun H locs M3 eM3 hP hS => ?_)
  have h := bd_e h eM3
  refine lv_aload_n hx hb dL_add_44 rfl (lv_at hl 1 rfl) ?_
  obtain ⟨v4, hv4, h⟩ := bO_e h
  refine mw_callSi X (c_L_last l E hA hv4) pk_L_last wm_170 wm_169 ⟨Nat.le_of_ble_eq_true rfl, Nat.le_of_ble_eq_true rfl⟩ ⟨rfl, rfl⟩ hP hS rfl hl.1 (Nat.le_of_ble_eq_true rfl) ⟨Nat.zero_le _, Nat.zero_le _⟩ rfl dL_add_45 (fun H locs hP hS => ?_)
  have h := Option.some.inj h
  exact mw_iret X hr hlocks hP hS (congrArg Prod.fst h) (congrArg Prod.snd h) dL_add_48
/-! SealedGroupsLaw.value -/
noncomputable def f_L_value  (M : Mem) (a1 : Int32) : Option Int32 :=
gd (inb (((6 : Int32) * a1) + (2 : Int32)) 48) (
(if (M 11 30 ((((6 : Int32) * a1) + (2 : Int32))).toNatClampNeg) = (1 : Int32) then
gd (inb (((6 : Int32) * a1) + (3 : Int32)) 48) (
some (M 11 30 ((((6 : Int32) * a1) + (3 : Int32))).toNatClampNeg))
else
gd (inb ((6 : Int32) * a1) 48) (
some (M 11 30 (((6 : Int32) * a1)).toNatClampNeg))))
theorem pk_L_value : Pk "SealedGroupsLaw" yL_value cL_value 2 (some .int) 2 := ⟨wm_144, wm_89, rfl, by decide +kernel⟩
set_option maxHeartbeats 4000000 in
set_option maxRecDepth 100000 in
theorem c_L_value (l : Launch) (E : En) (hA : AdOK E) {M : Mem} {a1 : Int32} {r0 : Int32}  (h : f_L_value M a1 = some r0) : Met l yL_value (Wm yL_value cL_value 2 (some .int)) ({ frames := 0, cells := 0, slots := 0, locals := 0 } : Room) (va_Pc [Value.ref (E.2.2 11 30), Value.int a1] (Wd E M)) (QI E r0 M) 0 0 (AA E) := by
  refine Met.ofW (cc := cL_value) (maxL := 2) (ret := (some .int)) (by decide +kernel) rfl ?_
  intro p e s m args below meth c s₁ B hml hv
  obtain ⟨rfl, hP, hK⟩ := hv
  have X : Cx E (AA E) p s m c _ cL_value 2 RL := ⟨⟨B.exec, B.bytes, hml, findClass_of_methodNamed B.named, fun w hw => atoms_spec (ws := Wm yL_value cL_value 2 (some .int)) B.pre w (List.mem_cons_of_mem _ hw)⟩, hK, hA, fun _ h => h⟩
  have hx := B.exec
  have hb := B.bytes
  have hr := B.returns
  have hlocks := B.notSynchronized
  clear B hml
  have hS : va_S (AA E) s.heap s.heap [] := va_S.rf
  have hl := lv_entry ([Value.ref (E.2.2 11 30), Value.int a1]) (n := 2) (Nat.le_of_ble_eq_true rfl)
  rw [lg_entry_eq]
  generalize (lg_sl ([Value.ref (E.2.2 11 30), Value.int a1]) ++ List.replicate (2 - (lg_sl ([Value.ref (E.2.2 11 30), Value.int a1])).length) Slot.unset).toArray = ls at hl ⊢
  have hl : lv_has ls 2 [(0, .ref (E.2.2 11 30)), (1, .int a1)] := hl
  unfold f_L_value at h
  refine lv_aload_n hx hb dL_value_0 rfl (lv_at hl 0 rfl) ?_
  refine lv_bipush (v := 6) hx hb dL_value_1 (by decide) ?_
  refine lv_iload_n hx hb dL_value_3 rfl (lv_at hl 1 rfl) ?_
  refine lv_imul hx hb dL_value_4 ?_
  refine lv_iconst (v := 2) hx hb dL_value_5 (by decide) ?_
  refine lv_iadd hx hb dL_value_6 ?_
  obtain ⟨g1, h⟩ := gd_e h
  refine mw_ld X hP ix_30 rfl (inb_vp g1) rfl dL_value_7 ?_
  refine lv_iconst (v := 1) hx hb dL_value_8 (by decide) ?_
  refine lv_icmp_ne (tgt := 23) hx hb dL_value_9 (by decide) (fun c2 => ?_) (fun c2 => ?_)
  · have h := br_0 h c2
    refine lv_aload_n hx hb dL_value_23 rfl (lv_at hl 0 rfl) ?_
    refine lv_bipush (v := 6) hx hb dL_value_24 (by decide) ?_
    refine lv_iload_n hx hb dL_value_26 rfl (lv_at hl 1 rfl) ?_
    refine lv_imul hx hb dL_value_27 ?_
    obtain ⟨g3, h⟩ := gd_e h
    refine mw_ld X hP ix_30 rfl (inb_vp g3) rfl dL_value_28 ?_
    exact mw_iret X hr hlocks hP hS (Option.some.inj h) rfl dL_value_29
  · have h := br_1 h c2
    refine lv_aload_n hx hb dL_value_12 rfl (lv_at hl 0 rfl) ?_
    refine lv_bipush (v := 6) hx hb dL_value_13 (by decide) ?_
    refine lv_iload_n hx hb dL_value_15 rfl (lv_at hl 1 rfl) ?_
    refine lv_imul hx hb dL_value_16 ?_
    refine lv_iconst (v := 3) hx hb dL_value_17 (by decide) ?_
    refine lv_iadd hx hb dL_value_18 ?_
    obtain ⟨g4, h⟩ := gd_e h
    refine mw_ld X hP ix_30 rfl (inb_vp g4) rfl dL_value_19 ?_
    refine lv_goto (tgt := 29) hx hb dL_value_20 (by decide) ?_
    exact mw_iret X hr hlocks hP hS (Option.some.inj h) rfl dL_value_29
/-! SealedGroupsLaw.mark -/
noncomputable def f_L_mark  (M : Mem) (a1 : Int32) : Option Int32 :=
gd (inb (((6 : Int32) * a1) + (2 : Int32)) 48) (
(if (M 11 30 ((((6 : Int32) * a1) + (2 : Int32))).toNatClampNeg) = (1 : Int32) then
gd (inb (((6 : Int32) * a1) + (4 : Int32)) 48) (
some (M 11 30 ((((6 : Int32) * a1) + (4 : Int32))).toNatClampNeg))
else
gd (inb (((6 : Int32) * a1) + (1 : Int32)) 48) (
some (M 11 30 ((((6 : Int32) * a1) + (1 : Int32))).toNatClampNeg))))
theorem pk_L_mark : Pk "SealedGroupsLaw" yL_mark cL_mark 2 (some .int) 2 := ⟨wm_97, wm_89, rfl, by decide +kernel⟩
set_option maxHeartbeats 4000000 in
set_option maxRecDepth 100000 in
theorem c_L_mark (l : Launch) (E : En) (hA : AdOK E) {M : Mem} {a1 : Int32} {r0 : Int32}  (h : f_L_mark M a1 = some r0) : Met l yL_mark (Wm yL_mark cL_mark 2 (some .int)) ({ frames := 0, cells := 0, slots := 0, locals := 0 } : Room) (va_Pc [Value.ref (E.2.2 11 30), Value.int a1] (Wd E M)) (QI E r0 M) 0 0 (AA E) := by
  refine Met.ofW (cc := cL_mark) (maxL := 2) (ret := (some .int)) (by decide +kernel) rfl ?_
  intro p e s m args below meth c s₁ B hml hv
  obtain ⟨rfl, hP, hK⟩ := hv
  have X : Cx E (AA E) p s m c _ cL_mark 2 RL := ⟨⟨B.exec, B.bytes, hml, findClass_of_methodNamed B.named, fun w hw => atoms_spec (ws := Wm yL_mark cL_mark 2 (some .int)) B.pre w (List.mem_cons_of_mem _ hw)⟩, hK, hA, fun _ h => h⟩
  have hx := B.exec
  have hb := B.bytes
  have hr := B.returns
  have hlocks := B.notSynchronized
  clear B hml
  have hS : va_S (AA E) s.heap s.heap [] := va_S.rf
  have hl := lv_entry ([Value.ref (E.2.2 11 30), Value.int a1]) (n := 2) (Nat.le_of_ble_eq_true rfl)
  rw [lg_entry_eq]
  generalize (lg_sl ([Value.ref (E.2.2 11 30), Value.int a1]) ++ List.replicate (2 - (lg_sl ([Value.ref (E.2.2 11 30), Value.int a1])).length) Slot.unset).toArray = ls at hl ⊢
  have hl : lv_has ls 2 [(0, .ref (E.2.2 11 30)), (1, .int a1)] := hl
  unfold f_L_mark at h
  refine lv_aload_n hx hb dL_mark_0 rfl (lv_at hl 0 rfl) ?_
  refine lv_bipush (v := 6) hx hb dL_mark_1 (by decide) ?_
  refine lv_iload_n hx hb dL_mark_3 rfl (lv_at hl 1 rfl) ?_
  refine lv_imul hx hb dL_mark_4 ?_
  refine lv_iconst (v := 2) hx hb dL_mark_5 (by decide) ?_
  refine lv_iadd hx hb dL_mark_6 ?_
  obtain ⟨g1, h⟩ := gd_e h
  refine mw_ld X hP ix_30 rfl (inb_vp g1) rfl dL_mark_7 ?_
  refine lv_iconst (v := 1) hx hb dL_mark_8 (by decide) ?_
  refine lv_icmp_ne (tgt := 23) hx hb dL_mark_9 (by decide) (fun c2 => ?_) (fun c2 => ?_)
  · have h := br_0 h c2
    refine lv_aload_n hx hb dL_mark_23 rfl (lv_at hl 0 rfl) ?_
    refine lv_bipush (v := 6) hx hb dL_mark_24 (by decide) ?_
    refine lv_iload_n hx hb dL_mark_26 rfl (lv_at hl 1 rfl) ?_
    refine lv_imul hx hb dL_mark_27 ?_
    refine lv_iconst (v := 1) hx hb dL_mark_28 (by decide) ?_
    refine lv_iadd hx hb dL_mark_29 ?_
    obtain ⟨g3, h⟩ := gd_e h
    refine mw_ld X hP ix_30 rfl (inb_vp g3) rfl dL_mark_30 ?_
    exact mw_iret X hr hlocks hP hS (Option.some.inj h) rfl dL_mark_31
  · have h := br_1 h c2
    refine lv_aload_n hx hb dL_mark_12 rfl (lv_at hl 0 rfl) ?_
    refine lv_bipush (v := 6) hx hb dL_mark_13 (by decide) ?_
    refine lv_iload_n hx hb dL_mark_15 rfl (lv_at hl 1 rfl) ?_
    refine lv_imul hx hb dL_mark_16 ?_
    refine lv_iconst (v := 4) hx hb dL_mark_17 (by decide) ?_
    refine lv_iadd hx hb dL_mark_18 ?_
    obtain ⟨g4, h⟩ := gd_e h
    refine mw_ld X hP ix_30 rfl (inb_vp g4) rfl dL_mark_19 ?_
    refine lv_goto (tgt := 31) hx hb dL_mark_20 (by decide) ?_
    exact mw_iret X hr hlocks hP hS (Option.some.inj h) rfl dL_mark_31
/-! SealedGroupsLaw.come -/
noncomputable def f_L_come_L35  (M : Mem) (y1 y2 y3 z0 z1 : Int32) : Option Mem :=
gd (inb z1 48) (
bd (st M 11 30 (z1).toNatClampNeg z0) (fun M5 =>
gd (inb (((6 : Int32) * y1) + (2 : Int32)) 48) (
bd (st M5 11 30 ((((6 : Int32) * y1) + (2 : Int32))).toNatClampNeg (1 : Int32)) (fun M7 =>
gd (inb (((6 : Int32) * y1) + (3 : Int32)) 48) (
bd (st M7 11 30 ((((6 : Int32) * y1) + (3 : Int32))).toNatClampNeg y2) (fun M9 =>
gd (inb (((6 : Int32) * y1) + (4 : Int32)) 48) (
bd (st M9 11 30 ((((6 : Int32) * y1) + (4 : Int32))).toNatClampNeg y3) (fun M11 =>
some M11))))))))
noncomputable def f_L_come  (M : Mem) (a1 a2 a3 : Int32) : Option Mem :=
bO (f_L_mark M a1) (fun v1 =>
gd (inb (((6 : Int32) * a1) + (1 : Int32)) 48) (
(if v1 = (M 11 30 ((((6 : Int32) * a1) + (1 : Int32))).toNatClampNeg) then
f_L_come_L35 M a1 a2 a3 a3 (((6 : Int32) * a1) + (5 : Int32))
else
gd (inb (((6 : Int32) * a1) + (5 : Int32)) 48) (
f_L_come_L35 M a1 a2 a3 (M 11 30 ((((6 : Int32) * a1) + (5 : Int32))).toNatClampNeg) (((6 : Int32) * a1) + (5 : Int32))))))
theorem pk_L_come : Pk "SealedGroupsLaw" yL_come cL_come 4 none 4 := ⟨wm_520, wm_89, rfl, by decide +kernel⟩
set_option maxHeartbeats 4000000 in
set_option maxRecDepth 100000 in
theorem c_L_come (l : Launch) (E : En) (hA : AdOK E) {M : Mem} {a1 a2 a3 : Int32} {M0 : Mem}  (h : f_L_come M a1 a2 a3 = some M0) : Met l yL_come (Wm yL_come cL_come 4 none) ({ frames := 1, cells := 0, slots := 0, locals := 29 } : Room) (va_Pc [Value.ref (E.2.2 11 30), Value.int a1, Value.int a2, Value.int a3] (Wd E M)) (QV E M0) 0 0 (AA E) := by
  refine Met.ofW (cc := cL_come) (maxL := 4) (ret := none) (by decide +kernel) rfl ?_
  intro p e s m args below meth c s₁ B hml hv
  obtain ⟨rfl, hP, hK⟩ := hv
  have X : Cx E (AA E) p s m c _ cL_come 4 RL := ⟨⟨B.exec, B.bytes, hml, findClass_of_methodNamed B.named, fun w hw => atoms_spec (ws := Wm yL_come cL_come 4 none) B.pre w (List.mem_cons_of_mem _ hw)⟩, hK, hA, fun _ h => h⟩
  have hx := B.exec
  have hb := B.bytes
  have hr := B.returns
  have hlocks := B.notSynchronized
  clear B hml
  have hS : va_S (AA E) s.heap s.heap [] := va_S.rf
  have hl := lv_entry ([Value.ref (E.2.2 11 30), Value.int a1, Value.int a2, Value.int a3]) (n := 4) (Nat.le_of_ble_eq_true rfl)
  rw [lg_entry_eq]
  generalize (lg_sl ([Value.ref (E.2.2 11 30), Value.int a1, Value.int a2, Value.int a3]) ++ List.replicate (4 - (lg_sl ([Value.ref (E.2.2 11 30), Value.int a1, Value.int a2, Value.int a3])).length) Slot.unset).toArray = ls at hl ⊢
  have hl : lv_has ls 4 [(0, .ref (E.2.2 11 30)), (1, .int a1), (2, .int a2), (3, .int a3)] := hl
  have w_L35 : ∀ (M : Mem) (y1 y2 y3 z0 z1 : Int32) (H : Heap) (locs : List Loc) (ls : Array Slot), f_L_come_L35  M y1 y2 y3 z0 z1 = some M0 → va_P E.1 vwCl (wl E M) H → va_S (AA E) s.heap H locs → lv_has ls 4 [(0, .ref (E.2.2 11 30)), (1, .int y1), (2, .int y2), (3, .int y3)] → W p l e (headSpec (Wm yL_come cL_come 4 none) ({ frames := 1, cells := 0, slots := 0, locals := 29 } : Room)).room s m ([Value.ref (E.2.2 11 30), Value.int a1, Value.int a2, Value.int a3] : List Value).toArray below meth c H locs 0 0 (MQ below (QV E M0) ([Value.ref (E.2.2 11 30), Value.int a1, Value.int a2, Value.int a3] : List Value).toArray s 0 0 (AA E)) (F0 m 35 ls [.int z0, .int z1, .ref (E.2.2 11 30)]) := by
    intro M y1 y2 y3 z0 z1 H locs ls h hP hS hl
    unfold f_L_come_L35 at h
    obtain ⟨g6, h⟩ := gd_e h
    refine mw_st X hP hS ix_30 (fun _ => rfl) (inb_vp g6) rfl dL_come_35 (fun H locs M5 eM5 hP hS => ?_)
    have h := bd_e h eM5
    refine lv_aload_n hx hb dL_come_36 rfl (lv_at hl 0 rfl) ?_
    refine lv_bipush (v := 6) hx hb dL_come_37 (by decide) ?_
    refine lv_iload_n hx hb dL_come_39 rfl (lv_at hl 1 rfl) ?_
    refine lv_imul hx hb dL_come_40 ?_
    refine lv_iconst (v := 2) hx hb dL_come_41 (by decide) ?_
    refine lv_iadd hx hb dL_come_42 ?_
    refine lv_iconst (v := 1) hx hb dL_come_43 (by decide) ?_
    obtain ⟨g8, h⟩ := gd_e h
    refine mw_st X hP hS ix_30 (fun _ => rfl) (inb_vp g8) rfl dL_come_44 (fun H locs M7 eM7 hP hS => ?_)
    have h := bd_e h eM7
    refine lv_aload_n hx hb dL_come_45 rfl (lv_at hl 0 rfl) ?_
    refine lv_bipush (v := 6) hx hb dL_come_46 (by decide) ?_
    refine lv_iload_n hx hb dL_come_48 rfl (lv_at hl 1 rfl) ?_
    refine lv_imul hx hb dL_come_49 ?_
    refine lv_iconst (v := 3) hx hb dL_come_50 (by decide) ?_
    refine lv_iadd hx hb dL_come_51 ?_
    refine lv_iload_n hx hb dL_come_52 rfl (lv_at hl 2 rfl) ?_
    obtain ⟨g10, h⟩ := gd_e h
    refine mw_st X hP hS ix_30 (fun _ => rfl) (inb_vp g10) rfl dL_come_53 (fun H locs M9 eM9 hP hS => ?_)
    have h := bd_e h eM9
    refine lv_aload_n hx hb dL_come_54 rfl (lv_at hl 0 rfl) ?_
    refine lv_bipush (v := 6) hx hb dL_come_55 (by decide) ?_
    refine lv_iload_n hx hb dL_come_57 rfl (lv_at hl 1 rfl) ?_
    refine lv_imul hx hb dL_come_58 ?_
    refine lv_iconst (v := 4) hx hb dL_come_59 (by decide) ?_
    refine lv_iadd hx hb dL_come_60 ?_
    refine lv_iload_n hx hb dL_come_61 rfl (lv_at hl 3 rfl) ?_
    obtain ⟨g12, h⟩ := gd_e h
    refine mw_st X hP hS ix_30 (fun _ => rfl) (inb_vp g12) rfl dL_come_62 (fun H locs M11 eM11 hP hS => ?_)
    have h := bd_e h eM11
    exact mw_vret X hr hlocks hP hS (Option.some.inj h) dL_come_63
  unfold f_L_come at h
  refine lv_aload_n hx hb dL_come_0 rfl (lv_at hl 0 rfl) ?_
  refine lv_bipush (v := 6) hx hb dL_come_1 (by decide) ?_
  refine lv_iload_n hx hb dL_come_3 rfl (lv_at hl 1 rfl) ?_
  refine lv_imul hx hb dL_come_4 ?_
  refine lv_iconst (v := 5) hx hb dL_come_5 (by decide) ?_
  refine lv_iadd hx hb dL_come_6 ?_
  refine lv_aload_n hx hb dL_come_7 rfl (lv_at hl 0 rfl) ?_
  refine lv_iload_n hx hb dL_come_8 rfl (lv_at hl 1 rfl) ?_
  obtain ⟨v1, hv1, h⟩ := bO_e h
  refine mw_callSi X (c_L_mark l E hA hv1) pk_L_mark wm_96 wm_95 ⟨Nat.le_of_ble_eq_true rfl, Nat.le_of_ble_eq_true rfl⟩ ⟨rfl, rfl⟩ hP hS rfl hl.1 (Nat.le_of_ble_eq_true rfl) ⟨Nat.zero_le _, Nat.zero_le _⟩ rfl dL_come_9 (fun H locs hP hS => ?_)
  refine lv_aload_n hx hb dL_come_12 rfl (lv_at hl 0 rfl) ?_
  refine lv_bipush (v := 6) hx hb dL_come_13 (by decide) ?_
  refine lv_iload_n hx hb dL_come_15 rfl (lv_at hl 1 rfl) ?_
  refine lv_imul hx hb dL_come_16 ?_
  refine lv_iconst (v := 1) hx hb dL_come_17 (by decide) ?_
  refine lv_iadd hx hb dL_come_18 ?_
  obtain ⟨g2, h⟩ := gd_e h
  refine mw_ld X hP ix_30 rfl (inb_vp g2) rfl dL_come_19 ?_
  refine lv_icmp_ne (tgt := 27) hx hb dL_come_20 (by decide) (fun c3 => ?_) (fun c3 => ?_)
  · have h := br_0 h c3
    refine lv_aload_n hx hb dL_come_27 rfl (lv_at hl 0 rfl) ?_
    refine lv_bipush (v := 6) hx hb dL_come_28 (by decide) ?_
    refine lv_iload_n hx hb dL_come_30 rfl (lv_at hl 1 rfl) ?_
    refine lv_imul hx hb dL_come_31 ?_
    refine lv_iconst (v := 5) hx hb dL_come_32 (by decide) ?_
    refine lv_iadd hx hb dL_come_33 ?_
    obtain ⟨g4, h⟩ := gd_e h
    refine mw_ld X hP ix_30 rfl (inb_vp g4) rfl dL_come_34 ?_
    exact w_L35 _ _ _ _ _ _ _ _ _ h hP hS (lv_sub hl [0, 1, 2, 3] rfl)
  · have h := br_1 h c3
    refine lv_iload_n hx hb dL_come_23 rfl (lv_at hl 3 rfl) ?_
    refine lv_goto (tgt := 35) hx hb dL_come_24 (by decide) ?_
    exact w_L35 _ _ _ _ _ _ _ _ _ h hP hS (lv_sub hl [0, 1, 2, 3] rfl)
/-! SealedGroupsLaw.force -/
noncomputable def f_L_force_L16  (M : Mem) (z0 : Int32) : Option (Int32 × Mem) :=
bd (st M 11 28 2 ((M 11 28 2) + z0)) (fun M2 =>
some (z0, M2))
noncomputable def f_L_force  (M : Mem) (a1 : Int32) : Option (Int32 × Mem) :=
(if a1 ≤ (M 11 28 2) then
f_L_force_L16 M (0 : Int32)
else
f_L_force_L16 M (a1 - (M 11 28 2)))
theorem pk_L_force : Pk "SealedGroupsLaw" yL_force cL_force 3 (some .int) 2 := ⟨wm_529, wm_89, rfl, by decide +kernel⟩
set_option maxHeartbeats 4000000 in
set_option maxRecDepth 100000 in
theorem c_L_force (l : Launch) (E : En) (hA : AdOK E) {M : Mem} {a1 : Int32} {r0 : Int32} {M0 : Mem}  (h : f_L_force M a1 = some (r0, M0)) : Met l yL_force (Wm yL_force cL_force 3 (some .int)) ({ frames := 0, cells := 0, slots := 0, locals := 0 } : Room) (va_Pc [Value.ref (E.2.2 11 28), Value.int a1] (Wd E M)) (QI E r0 M0) 0 0 (AA E) := by
  refine Met.ofW (cc := cL_force) (maxL := 3) (ret := (some .int)) (by decide +kernel) rfl ?_
  intro p e s m args below meth c s₁ B hml hv
  obtain ⟨rfl, hP, hK⟩ := hv
  have X : Cx E (AA E) p s m c _ cL_force 3 RL := ⟨⟨B.exec, B.bytes, hml, findClass_of_methodNamed B.named, fun w hw => atoms_spec (ws := Wm yL_force cL_force 3 (some .int)) B.pre w (List.mem_cons_of_mem _ hw)⟩, hK, hA, fun _ h => h⟩
  have hx := B.exec
  have hb := B.bytes
  have hr := B.returns
  have hlocks := B.notSynchronized
  clear B hml
  have hS : va_S (AA E) s.heap s.heap [] := va_S.rf
  have hl := lv_entry ([Value.ref (E.2.2 11 28), Value.int a1]) (n := 3) (Nat.le_of_ble_eq_true rfl)
  rw [lg_entry_eq]
  generalize (lg_sl ([Value.ref (E.2.2 11 28), Value.int a1]) ++ List.replicate (3 - (lg_sl ([Value.ref (E.2.2 11 28), Value.int a1])).length) Slot.unset).toArray = ls at hl ⊢
  have hl : lv_has ls 3 [(0, .ref (E.2.2 11 28)), (1, .int a1)] := hl
  have w_L16 : ∀ (M : Mem) (z0 : Int32) (H : Heap) (locs : List Loc) (ls : Array Slot), f_L_force_L16  M z0 = some (r0, M0) → va_P E.1 vwCl (wl E M) H → va_S (AA E) s.heap H locs → lv_has ls 3 [(0, .ref (E.2.2 11 28))] → W p l e (headSpec (Wm yL_force cL_force 3 (some .int)) ({ frames := 0, cells := 0, slots := 0, locals := 0 } : Room)).room s m ([Value.ref (E.2.2 11 28), Value.int a1] : List Value).toArray below meth c H locs 0 0 (MQ below (QI E r0 M0) ([Value.ref (E.2.2 11 28), Value.int a1] : List Value).toArray s 0 0 (AA E)) (F0 m 16 ls [.int z0]) := by
    intro M z0 H locs ls h hP hS hl
    unfold f_L_force_L16 at h
    refine lv_istore_n (lv' := [(2, .int z0), (0, .ref (E.2.2 11 28))]) hx hb dL_force_16 rfl hl (by decide) rfl (fun ls hl => ?_)
    refine lv_aload_n hx hb dL_force_17 rfl (lv_at hl 1 rfl) ?_
    refine lv_iconst (v := 2) hx hb dL_force_18 (by decide) ?_
    refine lv_dup2_11 hx hb dL_force_19 rfl rfl ?_
    refine mw_ld X hP ix_28 rfl (v := (M 11 28 2)) (inb_vp (by decide)) rfl dL_force_20 ?_
    refine lv_iload_n hx hb dL_force_21 rfl (lv_at hl 0 rfl) ?_
    refine lv_iadd hx hb dL_force_22 ?_
    refine mw_st X hP hS ix_28 (fun _ => rfl) (j := 2) (inb_vp (by decide)) rfl dL_force_23 (fun H locs M2 eM2 hP hS => ?_)
    have h := bd_e h eM2
    refine lv_iload_n hx hb dL_force_24 rfl (lv_at hl 0 rfl) ?_
    have h := Option.some.inj h
    exact mw_iret X hr hlocks hP hS (congrArg Prod.fst h) (congrArg Prod.snd h) dL_force_25
  unfold f_L_force at h
  refine lv_iload_n hx hb dL_force_0 rfl (lv_at hl 1 rfl) ?_
  refine lv_aload_n hx hb dL_force_1 rfl (lv_at hl 0 rfl) ?_
  refine lv_iconst (v := 2) hx hb dL_force_2 (by decide) ?_
  refine mw_ld X hP ix_28 rfl (v := (M 11 28 2)) (inb_vp (by decide)) rfl dL_force_3 ?_
  refine lv_icmp_le (tgt := 15) hx hb dL_force_4 (by decide) (fun c1 => ?_) (fun c1 => ?_)
  · have h := br_1 h c1
    refine lv_iconst (v := 0) hx hb dL_force_15 (by decide) ?_
    exact w_L16 _ _ _ _ _ h hP hS (lv_sub hl [0] rfl)
  · have h := br_0 h c1
    refine lv_iload_n hx hb dL_force_7 rfl (lv_at hl 1 rfl) ?_
    refine lv_aload_n hx hb dL_force_8 rfl (lv_at hl 0 rfl) ?_
    refine lv_iconst (v := 2) hx hb dL_force_9 (by decide) ?_
    refine mw_ld X hP ix_28 rfl (v := (M 11 28 2)) (inb_vp (by decide)) rfl dL_force_10 ?_
    refine lv_isub hx hb dL_force_11 ?_
    refine lv_goto (tgt := 16) hx hb dL_force_12 (by decide) ?_
    exact w_L16 _ _ _ _ _ h hP hS (lv_sub hl [0] rfl)
/-! SealedGroupsLaw.holder -/
noncomputable def f_L_holder_L38  (M : Mem) (K4 : Int32 → Int32 → Int32 → Option Int32) (y1 y3 z0 : Int32) : Option Int32 :=
bd (y3 + (1 : Int32)) (fun x4 =>
K4 y1 z0 x4)
noncomputable def f_L_holder_L37  (M : Mem) (K4 : Int32 → Int32 → Int32 → Option Int32) (y1 y2 y3 : Int32) : Option Int32 :=
f_L_holder_L38 M K4 y1 y3 y2
noncomputable def f_L_holder_L4  (M : Mem) (K4 : Int32 → Int32 → Int32 → Option Int32) (y1 y2 y3 : Int32) : Option Int32 :=
(if (4 : Int32) ≤ y3 then
some y2
else
gd (inb ((4 : Int32) * y3) 16) (
(if (M 11 29 (((4 : Int32) * y3)).toNatClampNeg) = (1 : Int32) then
gd (inb (((4 : Int32) * y3) + (3 : Int32)) 16) (
(if (((M 11 29 ((((4 : Int32) * y3) + (3 : Int32))).toNatClampNeg) >>> (y1 &&& 31)) &&& (1 : Int32)) = (1 : Int32) then
f_L_holder_L38 M K4 y1 y3 y3
else
f_L_holder_L37 M K4 y1 y2 y3))
else
f_L_holder_L37 M K4 y1 y2 y3)))
noncomputable def f_L_holder  (M : Mem) (a1 : Int32) : Option Int32 :=
itr (f_L_holder_L4 M) (fun _ _ _ => none) FU a1 (-1 : Int32) (0 : Int32)
theorem pk_L_holder : Pk "SealedGroupsLaw" yL_holder cL_holder 4 (some .int) 2 := ⟨wm_100, wm_89, rfl, by decide +kernel⟩
set_option maxHeartbeats 4000000 in
set_option maxRecDepth 100000 in
theorem c_L_holder (l : Launch) (E : En) (hA : AdOK E) {M : Mem} {a1 : Int32} {r0 : Int32}  (h : f_L_holder M a1 = some r0) : Met l yL_holder (Wm yL_holder cL_holder 4 (some .int)) ({ frames := 0, cells := 0, slots := 0, locals := 0 } : Room) (va_Pc [Value.ref (E.2.2 11 29), Value.int a1] (Wd E M)) (QI E r0 M) 0 0 (AA E) := by
  refine Met.ofW (cc := cL_holder) (maxL := 4) (ret := (some .int)) (by decide +kernel) rfl ?_
  intro p e s m args below meth c s₁ B hml hv
  obtain ⟨rfl, hP, hK⟩ := hv
  have X : Cx E (AA E) p s m c _ cL_holder 4 RL := ⟨⟨B.exec, B.bytes, hml, findClass_of_methodNamed B.named, fun w hw => atoms_spec (ws := Wm yL_holder cL_holder 4 (some .int)) B.pre w (List.mem_cons_of_mem _ hw)⟩, hK, hA, fun _ h => h⟩
  have hx := B.exec
  have hb := B.bytes
  have hr := B.returns
  have hlocks := B.notSynchronized
  clear B hml
  have hS : va_S (AA E) s.heap s.heap [] := va_S.rf
  have hl := lv_entry ([Value.ref (E.2.2 11 29), Value.int a1]) (n := 4) (Nat.le_of_ble_eq_true rfl)
  rw [lg_entry_eq]
  generalize (lg_sl ([Value.ref (E.2.2 11 29), Value.int a1]) ++ List.replicate (4 - (lg_sl ([Value.ref (E.2.2 11 29), Value.int a1])).length) Slot.unset).toArray = ls at hl ⊢
  have hl : lv_has ls 4 [(0, .ref (E.2.2 11 29)), (1, .int a1)] := hl
  have w_L4 : ∀ (n4 : Nat)  (y1 y2 y3 : Int32) (H : Heap) (locs : List Loc) (ls : Array Slot), itr (f_L_holder_L4 M) (fun _ _ _ => none) n4 y1 y2 y3 = some r0 → va_P E.1 vwCl (wl E M) H → va_S (AA E) s.heap H locs → lv_has ls 4 [(0, .ref (E.2.2 11 29)), (1, .int y1), (2, .int y2), (3, .int y3)] → W p l e (headSpec (Wm yL_holder cL_holder 4 (some .int)) ({ frames := 0, cells := 0, slots := 0, locals := 0 } : Room)).room s m ([Value.ref (E.2.2 11 29), Value.int a1] : List Value).toArray below meth c H locs 0 0 (MQ below (QI E r0 M) ([Value.ref (E.2.2 11 29), Value.int a1] : List Value).toArray s 0 0 (AA E)) (F0 m 4 ls []) := by
    intro n4
    induction n4 with
    | zero => intro y1 y2 y3 H locs ls h; exact (nomatch (show (none : Option Int32) = some _ from h))
    | succ n4 ih4 =>
      intro y1 y2 y3 H locs ls h hP hS hl
      have h : f_L_holder_L4 M (itr (f_L_holder_L4 M) (fun _ _ _ => none) n4) y1 y2 y3 = some r0 := h
      have w_L38 : ∀  (y1 y3 z0 : Int32) (H : Heap) (locs : List Loc) (ls : Array Slot), f_L_holder_L38 M (itr (f_L_holder_L4 M) (fun _ _ _ => none) n4) y1 y3 z0 = some r0 → va_P E.1 vwCl (wl E M) H → va_S (AA E) s.heap H locs → lv_has ls 4 [(0, .ref (E.2.2 11 29)), (1, .int y1), (3, .int y3)] → W p l e (headSpec (Wm yL_holder cL_holder 4 (some .int)) ({ frames := 0, cells := 0, slots := 0, locals := 0 } : Room)).room s m ([Value.ref (E.2.2 11 29), Value.int a1] : List Value).toArray below meth c H locs 0 0 (MQ below (QI E r0 M) ([Value.ref (E.2.2 11 29), Value.int a1] : List Value).toArray s 0 0 (AA E)) (F0 m 38 ls [.int z0]) := by
        intro y1 y3 z0 H locs ls h hP hS hl
        unfold f_L_holder_L38 at h
        refine lv_istore_n (lv' := [(2, .int z0), (0, .ref (E.2.2 11 29)), (1, .int y1), (3, .int y3)]) hx hb dL_holder_38 rfl hl (by decide) rfl (fun ls hl => ?_)
        obtain ⟨x4, ex4⟩ : ∃ y : Int32, y = y3 + (1 : Int32) := ⟨_, rfl⟩
        have h := bd_e h ex4
        refine lv_iinc (v := x4) (lv' := [(3, .int x4), (2, .int z0), (0, .ref (E.2.2 11 29)), (1, .int y1)]) hx hb dL_holder_39 hl (k := 3) rfl (by rw [ex4]; rfl) (by decide) rfl (fun ls hl => ?_)
        refine lv_goto (tgt := 4) hx hb dL_holder_42 (by decide) ?_
        exact ih4 _ _ _ _ _ _ h hP hS (lv_sub hl [2, 3, 1, 0] rfl)
      have w_L37 : ∀  (y1 y2 y3 : Int32) (H : Heap) (locs : List Loc) (ls : Array Slot), f_L_holder_L37 M (itr (f_L_holder_L4 M) (fun _ _ _ => none) n4) y1 y2 y3 = some r0 → va_P E.1 vwCl (wl E M) H → va_S (AA E) s.heap H locs → lv_has ls 4 [(0, .ref (E.2.2 11 29)), (1, .int y1), (2, .int y2), (3, .int y3)] → W p l e (headSpec (Wm yL_holder cL_holder 4 (some .int)) ({ frames := 0, cells := 0, slots := 0, locals := 0 } : Room)).room s m ([Value.ref (E.2.2 11 29), Value.int a1] : List Value).toArray below meth c H locs 0 0 (MQ below (QI E r0 M) ([Value.ref (E.2.2 11 29), Value.int a1] : List Value).toArray s 0 0 (AA E)) (F0 m 37 ls []) := by
        intro y1 y2 y3 H locs ls h hP hS hl
        unfold f_L_holder_L37 at h
        refine lv_iload_n hx hb dL_holder_37 rfl (lv_at hl 2 rfl) ?_
        exact w_L38 _ _ _ _ _ _ h hP hS (lv_sub hl [0, 1, 3] rfl)
      unfold f_L_holder_L4 at h
      refine lv_iload_n hx hb dL_holder_4 rfl (lv_at hl 3 rfl) ?_
      refine lv_iconst (v := 4) hx hb dL_holder_5 (by decide) ?_
      refine lv_icmp_ge (tgt := 45) hx hb dL_holder_6 (by decide) (fun c1 => ?_) (fun c1 => ?_)
      · have h := br_1 h c1
        refine lv_iload_n hx hb dL_holder_45 rfl (lv_at hl 2 rfl) ?_
        exact mw_iret X hr hlocks hP hS (Option.some.inj h) rfl dL_holder_46
      · have h := br_0 h c1
        refine lv_aload_n hx hb dL_holder_9 rfl (lv_at hl 0 rfl) ?_
        refine lv_iconst (v := 4) hx hb dL_holder_10 (by decide) ?_
        refine lv_iload_n hx hb dL_holder_11 rfl (lv_at hl 3 rfl) ?_
        refine lv_imul hx hb dL_holder_12 ?_
        obtain ⟨g2, h⟩ := gd_e h
        refine mw_ld X hP ix_29 rfl (inb_vp g2) rfl dL_holder_13 ?_
        refine lv_iconst (v := 1) hx hb dL_holder_14 (by decide) ?_
        refine lv_icmp_ne (tgt := 37) hx hb dL_holder_15 (by decide) (fun c3 => ?_) (fun c3 => ?_)
        · have h := br_0 h c3
          exact w_L37 _ _ _ _ _ _ h hP hS (lv_sub hl [0, 1, 2, 3] rfl)
        · have h := br_1 h c3
          refine lv_aload_n hx hb dL_holder_18 rfl (lv_at hl 0 rfl) ?_
          refine lv_iconst (v := 4) hx hb dL_holder_19 (by decide) ?_
          refine lv_iload_n hx hb dL_holder_20 rfl (lv_at hl 3 rfl) ?_
          refine lv_imul hx hb dL_holder_21 ?_
          refine lv_iconst (v := 3) hx hb dL_holder_22 (by decide) ?_
          refine lv_iadd hx hb dL_holder_23 ?_
          obtain ⟨g5, h⟩ := gd_e h
          refine mw_ld X hP ix_29 rfl (inb_vp g5) rfl dL_holder_24 ?_
          refine lv_iload_n hx hb dL_holder_25 rfl (lv_at hl 1 rfl) ?_
          refine lv_ishr hx hb dL_holder_26 ?_
          refine lv_iconst (v := 1) hx hb dL_holder_27 (by decide) ?_
          refine lv_iand hx hb dL_holder_28 ?_
          refine lv_iconst (v := 1) hx hb dL_holder_29 (by decide) ?_
          refine lv_icmp_ne (tgt := 37) hx hb dL_holder_30 (by decide) (fun c6 => ?_) (fun c6 => ?_)
          · have h := br_0 h c6
            exact w_L37 _ _ _ _ _ _ h hP hS (lv_sub hl [0, 1, 2, 3] rfl)
          · have h := br_1 h c6
            refine lv_iload_n hx hb dL_holder_33 rfl (lv_at hl 3 rfl) ?_
            refine lv_goto (tgt := 38) hx hb dL_holder_34 (by decide) ?_
            exact w_L38 _ _ _ _ _ _ h hP hS (lv_sub hl [0, 1, 3] rfl)
  unfold f_L_holder at h
  refine lv_iconst (v := -1) hx hb dL_holder_0 (by decide) ?_
  refine lv_istore_n (lv' := [(2, .int (-1 : Int32)), (0, .ref (E.2.2 11 29)), (1, .int a1)]) hx hb dL_holder_1 rfl hl (by decide) rfl (fun ls hl => ?_)
  refine lv_iconst (v := 0) hx hb dL_holder_2 (by decide) ?_
  refine lv_istore_n (lv' := [(3, .int (0 : Int32)), (2, .int (-1 : Int32)), (0, .ref (E.2.2 11 29)), (1, .int a1)]) hx hb dL_holder_3 rfl hl (by decide) rfl (fun ls hl => ?_)
  exact w_L4 FU _ _ _ _ _ _ h hP hS (lv_sub hl [2, 3, 1, 0] rfl)
/-! SealedGroupsLaw.dirty -/
noncomputable def f_L_dirty_L34  (M : Mem) (K4 : Int32 → Int32 → Option Int32) (y2 z0 z1 : Int32) : Option Int32 :=
bd ((z1 + z0)) (fun x5 =>
bd (y2 + (1 : Int32)) (fun x6 =>
K4 x5 x6))
noncomputable def f_L_dirty_L4  (M : Mem) (K4 : Int32 → Int32 → Option Int32) (y1 y2 : Int32) : Option Int32 :=
(if (8 : Int32) ≤ y2 then
some y1
else
bO (f_L_mark M y2) (fun v2 =>
gd (inb (((6 : Int32) * y2) + (1 : Int32)) 48) (
(if v2 = (M 11 30 ((((6 : Int32) * y2) + (1 : Int32))).toNatClampNeg) then
f_L_dirty_L34 M K4 y2 (0 : Int32) y1
else
f_L_dirty_L34 M K4 y2 ((1 : Int32) <<< (y2 &&& 31)) y1))))
noncomputable def f_L_dirty  (M : Mem) : Option Int32 :=
itr (f_L_dirty_L4 M) (fun _ _ => none) FU (0 : Int32) (0 : Int32)
theorem pk_L_dirty : Pk "SealedGroupsLaw" yL_dirty cL_dirty 3 (some .int) 1 := ⟨wm_222, wm_89, rfl, by decide +kernel⟩
set_option maxHeartbeats 4000000 in
set_option maxRecDepth 100000 in
theorem c_L_dirty (l : Launch) (E : En) (hA : AdOK E) {M : Mem} {r0 : Int32}  (h : f_L_dirty M = some r0) : Met l yL_dirty (Wm yL_dirty cL_dirty 3 (some .int)) ({ frames := 1, cells := 0, slots := 0, locals := 29 } : Room) (va_Pc [Value.ref (E.2.2 11 30)] (Wd E M)) (QI E r0 M) 0 0 (AA E) := by
  refine Met.ofW (cc := cL_dirty) (maxL := 3) (ret := (some .int)) (by decide +kernel) rfl ?_
  intro p e s m args below meth c s₁ B hml hv
  obtain ⟨rfl, hP, hK⟩ := hv
  have X : Cx E (AA E) p s m c _ cL_dirty 3 RL := ⟨⟨B.exec, B.bytes, hml, findClass_of_methodNamed B.named, fun w hw => atoms_spec (ws := Wm yL_dirty cL_dirty 3 (some .int)) B.pre w (List.mem_cons_of_mem _ hw)⟩, hK, hA, fun _ h => h⟩
  have hx := B.exec
  have hb := B.bytes
  have hr := B.returns
  have hlocks := B.notSynchronized
  clear B hml
  have hS : va_S (AA E) s.heap s.heap [] := va_S.rf
  have hl := lv_entry ([Value.ref (E.2.2 11 30)]) (n := 3) (Nat.le_of_ble_eq_true rfl)
  rw [lg_entry_eq]
  generalize (lg_sl ([Value.ref (E.2.2 11 30)]) ++ List.replicate (3 - (lg_sl ([Value.ref (E.2.2 11 30)])).length) Slot.unset).toArray = ls at hl ⊢
  have hl : lv_has ls 3 [(0, .ref (E.2.2 11 30))] := hl
  have w_L4 : ∀ (n4 : Nat)  (y1 y2 : Int32) (H : Heap) (locs : List Loc) (ls : Array Slot), itr (f_L_dirty_L4 M) (fun _ _ => none) n4 y1 y2 = some r0 → va_P E.1 vwCl (wl E M) H → va_S (AA E) s.heap H locs → lv_has ls 3 [(0, .ref (E.2.2 11 30)), (1, .int y1), (2, .int y2)] → W p l e (headSpec (Wm yL_dirty cL_dirty 3 (some .int)) ({ frames := 1, cells := 0, slots := 0, locals := 29 } : Room)).room s m ([Value.ref (E.2.2 11 30)] : List Value).toArray below meth c H locs 0 0 (MQ below (QI E r0 M) ([Value.ref (E.2.2 11 30)] : List Value).toArray s 0 0 (AA E)) (F0 m 4 ls []) := by
    intro n4
    induction n4 with
    | zero => intro y1 y2 H locs ls h; exact (nomatch (show (none : Option Int32) = some _ from h))
    | succ n4 ih4 =>
      intro y1 y2 H locs ls h hP hS hl
      have h : f_L_dirty_L4 M (itr (f_L_dirty_L4 M) (fun _ _ => none) n4) y1 y2 = some r0 := h
      have w_L34 : ∀  (y2 z0 z1 : Int32) (H : Heap) (locs : List Loc) (ls : Array Slot), f_L_dirty_L34 M (itr (f_L_dirty_L4 M) (fun _ _ => none) n4) y2 z0 z1 = some r0 → va_P E.1 vwCl (wl E M) H → va_S (AA E) s.heap H locs → lv_has ls 3 [(0, .ref (E.2.2 11 30)), (2, .int y2)] → W p l e (headSpec (Wm yL_dirty cL_dirty 3 (some .int)) ({ frames := 1, cells := 0, slots := 0, locals := 29 } : Room)).room s m ([Value.ref (E.2.2 11 30)] : List Value).toArray below meth c H locs 0 0 (MQ below (QI E r0 M) ([Value.ref (E.2.2 11 30)] : List Value).toArray s 0 0 (AA E)) (F0 m 34 ls [.int z0, .int z1]) := by
        intro y2 z0 z1 H locs ls h hP hS hl
        unfold f_L_dirty_L34 at h
        refine lv_iadd hx hb dL_dirty_34 ?_
        refine lv_topi (fun x5 ex5 => ?_)
        have h := bd_e h ex5
        refine lv_istore_n (lv' := [(1, .int x5), (0, .ref (E.2.2 11 30)), (2, .int y2)]) hx hb dL_dirty_35 rfl hl (by decide) rfl (fun ls hl => ?_)
        obtain ⟨x6, ex6⟩ : ∃ y : Int32, y = y2 + (1 : Int32) := ⟨_, rfl⟩
        have h := bd_e h ex6
        refine lv_iinc (v := x6) (lv' := [(2, .int x6), (1, .int x5), (0, .ref (E.2.2 11 30))]) hx hb dL_dirty_36 hl (k := 2) rfl (by rw [ex6]; rfl) (by decide) rfl (fun ls hl => ?_)
        refine lv_goto (tgt := 4) hx hb dL_dirty_39 (by decide) ?_
        exact ih4 _ _ _ _ _ h hP hS (lv_sub hl [2, 1, 0] rfl)
      unfold f_L_dirty_L4 at h
      refine lv_iload_n hx hb dL_dirty_4 rfl (lv_at hl 2 rfl) ?_
      refine lv_bipush (v := 8) hx hb dL_dirty_5 (by decide) ?_
      refine lv_icmp_ge (tgt := 42) hx hb dL_dirty_7 (by decide) (fun c1 => ?_) (fun c1 => ?_)
      · have h := br_1 h c1
        refine lv_iload_n hx hb dL_dirty_42 rfl (lv_at hl 1 rfl) ?_
        exact mw_iret X hr hlocks hP hS (Option.some.inj h) rfl dL_dirty_43
      · have h := br_0 h c1
        refine lv_iload_n hx hb dL_dirty_10 rfl (lv_at hl 1 rfl) ?_
        refine lv_aload_n hx hb dL_dirty_11 rfl (lv_at hl 0 rfl) ?_
        refine lv_iload_n hx hb dL_dirty_12 rfl (lv_at hl 2 rfl) ?_
        obtain ⟨v2, hv2, h⟩ := bO_e h
        refine mw_callSi X (c_L_mark l E hA hv2) pk_L_mark wm_96 wm_95 ⟨Nat.le_of_ble_eq_true rfl, Nat.le_of_ble_eq_true rfl⟩ ⟨rfl, rfl⟩ hP hS rfl hl.1 (Nat.le_of_ble_eq_true rfl) ⟨Nat.zero_le _, Nat.zero_le _⟩ rfl dL_dirty_13 (fun H locs hP hS => ?_)
        refine lv_aload_n hx hb dL_dirty_16 rfl (lv_at hl 0 rfl) ?_
        refine lv_bipush (v := 6) hx hb dL_dirty_17 (by decide) ?_
        refine lv_iload_n hx hb dL_dirty_19 rfl (lv_at hl 2 rfl) ?_
        refine lv_imul hx hb dL_dirty_20 ?_
        refine lv_iconst (v := 1) hx hb dL_dirty_21 (by decide) ?_
        refine lv_iadd hx hb dL_dirty_22 ?_
        obtain ⟨g3, h⟩ := gd_e h
        refine mw_ld X hP ix_30 rfl (inb_vp g3) rfl dL_dirty_23 ?_
        refine lv_icmp_ne (tgt := 31) hx hb dL_dirty_24 (by decide) (fun c4 => ?_) (fun c4 => ?_)
        · have h := br_0 h c4
          refine lv_iconst (v := 1) hx hb dL_dirty_31 (by decide) ?_
          refine lv_iload_n hx hb dL_dirty_32 rfl (lv_at hl 2 rfl) ?_
          refine lv_ishl hx hb dL_dirty_33 ?_
          exact w_L34 _ _ _ _ _ _ h hP hS (lv_sub hl [0, 2] rfl)
        · have h := br_1 h c4
          refine lv_iconst (v := 0) hx hb dL_dirty_27 (by decide) ?_
          refine lv_goto (tgt := 34) hx hb dL_dirty_28 (by decide) ?_
          exact w_L34 _ _ _ _ _ _ h hP hS (lv_sub hl [0, 2] rfl)
  unfold f_L_dirty at h
  refine lv_iconst (v := 0) hx hb dL_dirty_0 (by decide) ?_
  refine lv_istore_n (lv' := [(1, .int (0 : Int32)), (0, .ref (E.2.2 11 30))]) hx hb dL_dirty_1 rfl hl (by decide) rfl (fun ls hl => ?_)
  refine lv_iconst (v := 0) hx hb dL_dirty_2 (by decide) ?_
  refine lv_istore_n (lv' := [(2, .int (0 : Int32)), (1, .int (0 : Int32)), (0, .ref (E.2.2 11 30))]) hx hb dL_dirty_3 rfl hl (by decide) rfl (fun ls hl => ?_)
  exact w_L4 FU _ _ _ _ _ h hP hS (lv_sub hl [2, 1, 0] rfl)
/-! SealedGroupsLaw.open -/
noncomputable def f_L_open  (M : Mem) : Option Int32 :=
some ((((M 11 29 0) + ((2 : Int32) * (M 11 29 4))) + ((4 : Int32) * (M 11 29 8))) + ((8 : Int32) * (M 11 29 12)))
theorem pk_L_open : Pk "SealedGroupsLaw" yL_open cL_open 1 (some .int) 1 := ⟨wm_219, wm_89, rfl, by decide +kernel⟩
set_option maxHeartbeats 4000000 in
set_option maxRecDepth 100000 in
theorem c_L_open (l : Launch) (E : En) (hA : AdOK E) {M : Mem} {r0 : Int32}  (h : f_L_open M = some r0) : Met l yL_open (Wm yL_open cL_open 1 (some .int)) ({ frames := 0, cells := 0, slots := 0, locals := 0 } : Room) (va_Pc [Value.ref (E.2.2 11 29)] (Wd E M)) (QI E r0 M) 0 0 (AA E) := by
  refine Met.ofW (cc := cL_open) (maxL := 1) (ret := (some .int)) (by decide +kernel) rfl ?_
  intro p e s m args below meth c s₁ B hml hv
  obtain ⟨rfl, hP, hK⟩ := hv
  have X : Cx E (AA E) p s m c _ cL_open 1 RL := ⟨⟨B.exec, B.bytes, hml, findClass_of_methodNamed B.named, fun w hw => atoms_spec (ws := Wm yL_open cL_open 1 (some .int)) B.pre w (List.mem_cons_of_mem _ hw)⟩, hK, hA, fun _ h => h⟩
  have hx := B.exec
  have hb := B.bytes
  have hr := B.returns
  have hlocks := B.notSynchronized
  clear B hml
  have hS : va_S (AA E) s.heap s.heap [] := va_S.rf
  have hl := lv_entry ([Value.ref (E.2.2 11 29)]) (n := 1) (Nat.le_of_ble_eq_true rfl)
  rw [lg_entry_eq]
  generalize (lg_sl ([Value.ref (E.2.2 11 29)]) ++ List.replicate (1 - (lg_sl ([Value.ref (E.2.2 11 29)])).length) Slot.unset).toArray = ls at hl ⊢
  have hl : lv_has ls 1 [(0, .ref (E.2.2 11 29))] := hl
  unfold f_L_open at h
  refine lv_aload_n hx hb dL_open_0 rfl (lv_at hl 0 rfl) ?_
  refine lv_iconst (v := 0) hx hb dL_open_1 (by decide) ?_
  refine mw_ld X hP ix_29 rfl (v := (M 11 29 0)) (inb_vp (by decide)) rfl dL_open_2 ?_
  refine lv_iconst (v := 2) hx hb dL_open_3 (by decide) ?_
  refine lv_aload_n hx hb dL_open_4 rfl (lv_at hl 0 rfl) ?_
  refine lv_iconst (v := 4) hx hb dL_open_5 (by decide) ?_
  refine mw_ld X hP ix_29 rfl (v := (M 11 29 4)) (inb_vp (by decide)) rfl dL_open_6 ?_
  refine lv_imul hx hb dL_open_7 ?_
  refine lv_iadd hx hb dL_open_8 ?_
  refine lv_iconst (v := 4) hx hb dL_open_9 (by decide) ?_
  refine lv_aload_n hx hb dL_open_10 rfl (lv_at hl 0 rfl) ?_
  refine lv_bipush (v := 8) hx hb dL_open_11 (by decide) ?_
  refine mw_ld X hP ix_29 rfl (v := (M 11 29 8)) (inb_vp (by decide)) rfl dL_open_13 ?_
  refine lv_imul hx hb dL_open_14 ?_
  refine lv_iadd hx hb dL_open_15 ?_
  refine lv_bipush (v := 8) hx hb dL_open_16 (by decide) ?_
  refine lv_aload_n hx hb dL_open_18 rfl (lv_at hl 0 rfl) ?_
  refine lv_bipush (v := 12) hx hb dL_open_19 (by decide) ?_
  refine mw_ld X hP ix_29 rfl (v := (M 11 29 12)) (inb_vp (by decide)) rfl dL_open_21 ?_
  refine lv_imul hx hb dL_open_22 ?_
  refine lv_iadd hx hb dL_open_23 ?_
  exact mw_iret X hr hlocks hP hS (Option.some.inj h) rfl dL_open_24
/-! SealedGroupsLaw.latest -/
noncomputable def f_L_latest_L30  (M : Mem) (K6 : Int32 → Int32 → Option Int32) (y3 z0 : Int32) : Option Int32 :=
bd (y3 + (1 : Int32)) (fun x6 =>
K6 z0 x6)
noncomputable def f_L_latest_L6  (M : Mem) (K6 : Int32 → Int32 → Option Int32) (y2 y3 : Int32) : Option Int32 :=
bO (f_L_last M) (fun v2 =>
(if v2 < y3 then
some y2
else
bO (f_L_of M y3 (0 : Int32)) (fun v4 =>
(if v4 = (5 : Int32) then
f_L_latest_L30 M K6 y3 y3
else
f_L_latest_L30 M K6 y3 y2))))
noncomputable def f_L_latest  (M : Mem) : Option Int32 :=
bd ((M 11 28 0)) (fun x1 =>
itr (f_L_latest_L6 M) (fun _ _ => none) FU (0 : Int32) x1)
theorem pk_L_latest : Pk "SealedGroupsLaw" yL_latest cL_latest 4 (some .int) 2 := ⟨wm_225, wm_89, rfl, by decide +kernel⟩
set_option maxHeartbeats 4000000 in
set_option maxRecDepth 100000 in
theorem c_L_latest (l : Launch) (E : En) (hA : AdOK E) {M : Mem} {r0 : Int32}  (h : f_L_latest M = some r0) : Met l yL_latest (Wm yL_latest cL_latest 4 (some .int)) ({ frames := 1, cells := 0, slots := 0, locals := 33 } : Room) (va_Pc [Value.ref (E.2.2 11 28), Value.ref (E.2.2 11 31)] (Wd E M)) (QI E r0 M) 0 0 (AA E) := by
  refine Met.ofW (cc := cL_latest) (maxL := 4) (ret := (some .int)) (by decide +kernel) rfl ?_
  intro p e s m args below meth c s₁ B hml hv
  obtain ⟨rfl, hP, hK⟩ := hv
  have X : Cx E (AA E) p s m c _ cL_latest 4 RL := ⟨⟨B.exec, B.bytes, hml, findClass_of_methodNamed B.named, fun w hw => atoms_spec (ws := Wm yL_latest cL_latest 4 (some .int)) B.pre w (List.mem_cons_of_mem _ hw)⟩, hK, hA, fun _ h => h⟩
  have hx := B.exec
  have hb := B.bytes
  have hr := B.returns
  have hlocks := B.notSynchronized
  clear B hml
  have hS : va_S (AA E) s.heap s.heap [] := va_S.rf
  have hl := lv_entry ([Value.ref (E.2.2 11 28), Value.ref (E.2.2 11 31)]) (n := 4) (Nat.le_of_ble_eq_true rfl)
  rw [lg_entry_eq]
  generalize (lg_sl ([Value.ref (E.2.2 11 28), Value.ref (E.2.2 11 31)]) ++ List.replicate (4 - (lg_sl ([Value.ref (E.2.2 11 28), Value.ref (E.2.2 11 31)])).length) Slot.unset).toArray = ls at hl ⊢
  have hl : lv_has ls 4 [(0, .ref (E.2.2 11 28)), (1, .ref (E.2.2 11 31))] := hl
  have w_L6 : ∀ (n6 : Nat)  (y2 y3 : Int32) (H : Heap) (locs : List Loc) (ls : Array Slot), itr (f_L_latest_L6 M) (fun _ _ => none) n6 y2 y3 = some r0 → va_P E.1 vwCl (wl E M) H → va_S (AA E) s.heap H locs → lv_has ls 4 [(0, .ref (E.2.2 11 28)), (1, .ref (E.2.2 11 31)), (2, .int y2), (3, .int y3)] → W p l e (headSpec (Wm yL_latest cL_latest 4 (some .int)) ({ frames := 1, cells := 0, slots := 0, locals := 33 } : Room)).room s m ([Value.ref (E.2.2 11 28), Value.ref (E.2.2 11 31)] : List Value).toArray below meth c H locs 0 0 (MQ below (QI E r0 M) ([Value.ref (E.2.2 11 28), Value.ref (E.2.2 11 31)] : List Value).toArray s 0 0 (AA E)) (F0 m 6 ls []) := by
    intro n6
    induction n6 with
    | zero => intro y2 y3 H locs ls h; exact (nomatch (show (none : Option Int32) = some _ from h))
    | succ n6 ih6 =>
      intro y2 y3 H locs ls h hP hS hl
      have h : f_L_latest_L6 M (itr (f_L_latest_L6 M) (fun _ _ => none) n6) y2 y3 = some r0 := h
      have w_L30 : ∀  (y3 z0 : Int32) (H : Heap) (locs : List Loc) (ls : Array Slot), f_L_latest_L30 M (itr (f_L_latest_L6 M) (fun _ _ => none) n6) y3 z0 = some r0 → va_P E.1 vwCl (wl E M) H → va_S (AA E) s.heap H locs → lv_has ls 4 [(0, .ref (E.2.2 11 28)), (1, .ref (E.2.2 11 31)), (3, .int y3)] → W p l e (headSpec (Wm yL_latest cL_latest 4 (some .int)) ({ frames := 1, cells := 0, slots := 0, locals := 33 } : Room)).room s m ([Value.ref (E.2.2 11 28), Value.ref (E.2.2 11 31)] : List Value).toArray below meth c H locs 0 0 (MQ below (QI E r0 M) ([Value.ref (E.2.2 11 28), Value.ref (E.2.2 11 31)] : List Value).toArray s 0 0 (AA E)) (F0 m 30 ls [.int z0]) := by
        intro y3 z0 H locs ls h hP hS hl
        unfold f_L_latest_L30 at h
        refine lv_istore_n (lv' := [(2, .int z0), (0, .ref (E.2.2 11 28)), (1, .ref (E.2.2 11 31)), (3, .int y3)]) hx hb dL_latest_30 rfl hl (by decide) rfl (fun ls hl => ?_)
        obtain ⟨x6, ex6⟩ : ∃ y : Int32, y = y3 + (1 : Int32) := ⟨_, rfl⟩
        have h := bd_e h ex6
        refine lv_iinc (v := x6) (lv' := [(3, .int x6), (2, .int z0), (0, .ref (E.2.2 11 28)), (1, .ref (E.2.2 11 31))]) hx hb dL_latest_31 hl (k := 3) rfl (by rw [ex6]; rfl) (by decide) rfl (fun ls hl => ?_)
        refine lv_goto (tgt := 6) hx hb dL_latest_34 (by decide) ?_
        exact ih6 _ _ _ _ _ h hP hS (lv_sub hl [2, 3, 1, 0] rfl)
      unfold f_L_latest_L6 at h
      refine lv_iload_n hx hb dL_latest_6 rfl (lv_at hl 3 rfl) ?_
      refine lv_aload_n hx hb dL_latest_7 rfl (lv_at hl 0 rfl) ?_
      obtain ⟨v2, hv2, h⟩ := bO_e h
      refine mw_callSi X (c_L_last l E hA hv2) pk_L_last wm_170 wm_169 ⟨Nat.le_of_ble_eq_true rfl, Nat.le_of_ble_eq_true rfl⟩ ⟨rfl, rfl⟩ hP hS rfl hl.1 (Nat.le_of_ble_eq_true rfl) ⟨Nat.zero_le _, Nat.zero_le _⟩ rfl dL_latest_8 (fun H locs hP hS => ?_)
      refine lv_icmp_gt (tgt := 37) hx hb dL_latest_11 (by decide) (fun c3 => ?_) (fun c3 => ?_)
      · have h := br_1 h c3
        refine lv_iload_n hx hb dL_latest_37 rfl (lv_at hl 2 rfl) ?_
        exact mw_iret X hr hlocks hP hS (Option.some.inj h) rfl dL_latest_38
      · have h := br_0 h c3
        refine lv_aload_n hx hb dL_latest_14 rfl (lv_at hl 1 rfl) ?_
        refine lv_aload_n hx hb dL_latest_15 rfl (lv_at hl 0 rfl) ?_
        refine lv_iload_n hx hb dL_latest_16 rfl (lv_at hl 3 rfl) ?_
        refine lv_iconst (v := 0) hx hb dL_latest_17 (by decide) ?_
        obtain ⟨v4, hv4, h⟩ := bO_e h
        refine mw_callSi X (c_L_of l E hA hv4) pk_L_of wm_176 wm_175 ⟨Nat.le_of_ble_eq_true rfl, Nat.le_of_ble_eq_true rfl⟩ ⟨rfl, rfl⟩ hP hS rfl hl.1 (Nat.le_of_ble_eq_true rfl) ⟨Nat.zero_le _, Nat.zero_le _⟩ rfl dL_latest_18 (fun H locs hP hS => ?_)
        refine lv_iconst (v := 5) hx hb dL_latest_21 (by decide) ?_
        refine lv_icmp_ne (tgt := 29) hx hb dL_latest_22 (by decide) (fun c5 => ?_) (fun c5 => ?_)
        · have h := br_0 h c5
          refine lv_iload_n hx hb dL_latest_29 rfl (lv_at hl 2 rfl) ?_
          exact w_L30 _ _ _ _ _ h hP hS (lv_sub hl [0, 1, 3] rfl)
        · have h := br_1 h c5
          refine lv_iload_n hx hb dL_latest_25 rfl (lv_at hl 3 rfl) ?_
          refine lv_goto (tgt := 30) hx hb dL_latest_26 (by decide) ?_
          exact w_L30 _ _ _ _ _ h hP hS (lv_sub hl [0, 1, 3] rfl)
  unfold f_L_latest at h
  refine lv_iconst (v := 0) hx hb dL_latest_0 (by decide) ?_
  refine lv_istore_n (lv' := [(2, .int (0 : Int32)), (0, .ref (E.2.2 11 28)), (1, .ref (E.2.2 11 31))]) hx hb dL_latest_1 rfl hl (by decide) rfl (fun ls hl => ?_)
  refine lv_aload_n hx hb dL_latest_2 rfl (lv_at hl 1 rfl) ?_
  refine lv_iconst (v := 0) hx hb dL_latest_3 (by decide) ?_
  refine mw_ld X hP ix_28 rfl (v := (M 11 28 0)) (inb_vp (by decide)) rfl dL_latest_4 ?_
  refine lv_topi (fun x1 ex1 => ?_)
  have h := bd_e h ex1
  refine lv_istore_n (lv' := [(3, .int x1), (2, .int (0 : Int32)), (0, .ref (E.2.2 11 28)), (1, .ref (E.2.2 11 31))]) hx hb dL_latest_5 rfl hl (by decide) rfl (fun ls hl => ?_)
  exact w_L6 FU _ _ _ _ _ h hP hS (lv_sub hl [2, 3, 1, 0] rfl)
