/-! SealedGroups$Store.copyFrom -/
noncomputable def f_X6_copyFrom (k : Nat) (j : Nat) (M : Mem) : Option Mem :=
bO (f_X4_copyFrom k j M) (fun M2 =>
bO (f_X0_copyFrom k j M2) (fun M4 =>
bO (f_X2_copyFrom k j M4) (fun M6 =>
gd (isB (M6 j 0 3)) (
bd (st M6 k 0 3 (M6 j 0 3)) (fun M7 =>
bd (st M7 k 0 4 (M7 j 0 4)) (fun M9 =>
some M9))))))
theorem pk_X6_copyFrom : Pk "SealedGroups$Store" yX6_copyFrom cX6_copyFrom 2 none 1 := ⟨wm_250, wm_16, rfl, by decide +kernel⟩
theorem pv_X6_copyFrom : Cond.instanceMethod yX6_copyFrom ∈ wsL_law ∧ Cond.selects "SealedGroups$Store" yX6_copyFrom yX6_copyFrom ∈ wsL_law := ⟨wm_248, wm_249⟩
set_option maxHeartbeats 4000000 in
set_option maxRecDepth 100000 in
theorem c_X6_copyFrom (l : Launch) (E : En) (hA : AdOK E) {k j : Nat} {M : Mem} {M0 : Mem} (hk : k < 7) (hj : j < 7) (h : f_X6_copyFrom k j M = some M0) : Met l yX6_copyFrom (Wm yX6_copyFrom cX6_copyFrom 2 none) ({ frames := 2, cells := 0, slots := 0, locals := 47 } : Room) (va_Pc [Value.ref (E.2.2 k 0), Value.ref (E.2.2 j 0)] (Wd E M)) (QV E M0) 0 0 (AA E) := by
  refine Met.ofW (cc := cX6_copyFrom) (maxL := 2) (ret := none) (by decide +kernel) rfl ?_
  intro p e s m args below meth c s₁ B hml hv
  obtain ⟨rfl, hP, hK⟩ := hv
  have X : Cx E (AA E) p s m c _ cX6_copyFrom 2 RX6 := ⟨⟨B.exec, B.bytes, hml, findClass_of_methodNamed B.named, fun w hw => atoms_spec (ws := Wm yX6_copyFrom cX6_copyFrom 2 none) B.pre w (List.mem_cons_of_mem _ hw)⟩, hK, hA, fun _ h => h⟩
  have hx := B.exec
  have hb := B.bytes
  have hr := B.returns
  have hlocks := B.notSynchronized
  clear B hml
  have hS : va_S (AA E) s.heap s.heap [] := va_S.rf
  have hl := lv_entry ([Value.ref (E.2.2 k 0), Value.ref (E.2.2 j 0)]) (n := 2) (Nat.le_of_ble_eq_true rfl)
  rw [lg_entry_eq]
  generalize (lg_sl ([Value.ref (E.2.2 k 0), Value.ref (E.2.2 j 0)]) ++ List.replicate (2 - (lg_sl ([Value.ref (E.2.2 k 0), Value.ref (E.2.2 j 0)])).length) Slot.unset).toArray = ls at hl ⊢
  have hl : lv_has ls 2 [(0, .ref (E.2.2 k 0)), (1, .ref (E.2.2 j 0))] := hl
  unfold f_X6_copyFrom at h
  refine lv_aload_n hx hb dX6_copyFrom_0 rfl (lv_at hl 0 rfl) ?_
  refine gt_6_0 X wm_37 hP (ms hk 0) dX6_copyFrom_1 ?_
  refine lv_aload_n hx hb dX6_copyFrom_4 rfl (lv_at hl 1 rfl) ?_
  refine gt_6_0 X wm_37 hP (ms hj 0) dX6_copyFrom_5 ?_
  obtain ⟨M2, hv1, h⟩ := bO_e h
  refine mw_callVv X (c_X4_copyFrom l E hA hk hj hv1) pk_X4_copyFrom pv_X4_copyFrom wm_253 ⟨Nat.le_of_ble_eq_true rfl, Nat.le_of_ble_eq_true rfl⟩ ⟨rfl, rfl⟩ hP hS (ms hk 1) rfl rfl rfl rfl hl.1 (Nat.le_of_ble_eq_true rfl) ⟨Nat.zero_le _, Nat.zero_le _⟩ rfl dX6_copyFrom_8 (fun H locs hP hS => ?_)
  refine lv_aload_n hx hb dX6_copyFrom_11 rfl (lv_at hl 0 rfl) ?_
  refine gt_6_1 X wm_41 hP (ms hk 0) dX6_copyFrom_12 ?_
  refine lv_aload_n hx hb dX6_copyFrom_15 rfl (lv_at hl 1 rfl) ?_
  refine gt_6_1 X wm_41 hP (ms hj 0) dX6_copyFrom_16 ?_
  obtain ⟨M4, hv3, h⟩ := bO_e h
  refine mw_callVv X (c_X0_copyFrom l E hA hk hj hv3) pk_X0_copyFrom pv_X0_copyFrom wm_261 ⟨Nat.le_of_ble_eq_true rfl, Nat.le_of_ble_eq_true rfl⟩ ⟨rfl, rfl⟩ hP hS (ms hk 7) rfl rfl rfl rfl hl.1 (Nat.le_of_ble_eq_true rfl) ⟨Nat.zero_le _, Nat.zero_le _⟩ rfl dX6_copyFrom_19 (fun H locs hP hS => ?_)
  refine lv_aload_n hx hb dX6_copyFrom_22 rfl (lv_at hl 0 rfl) ?_
  refine gt_6_2 X wm_45 hP (ms hk 0) dX6_copyFrom_23 ?_
  refine lv_aload_n hx hb dX6_copyFrom_26 rfl (lv_at hl 1 rfl) ?_
  refine gt_6_2 X wm_45 hP (ms hj 0) dX6_copyFrom_27 ?_
  obtain ⟨M6, hv5, h⟩ := bO_e h
  refine mw_callVv X (c_X2_copyFrom l E hA hk hj hv5) pk_X2_copyFrom pv_X2_copyFrom wm_266 ⟨Nat.le_of_ble_eq_true rfl, Nat.le_of_ble_eq_true rfl⟩ ⟨rfl, rfl⟩ hP hS (ms hk 11) rfl rfl rfl rfl hl.1 (Nat.le_of_ble_eq_true rfl) ⟨Nat.zero_le _, Nat.zero_le _⟩ rfl dX6_copyFrom_30 (fun H locs hP hS => ?_)
  refine lv_aload_n hx hb dX6_copyFrom_33 rfl (lv_at hl 0 rfl) ?_
  refine lv_aload_n hx hb dX6_copyFrom_34 rfl (lv_at hl 1 rfl) ?_
  refine gt_6_3 X wm_251 hP (ms hj 0) dX6_copyFrom_35 ?_
  obtain ⟨g8, h⟩ := gd_e h
  refine pt_6_3 X wm_251 g8 hP hS (ms hk 0) dX6_copyFrom_38 (fun H locs M7 eM7 hP hS => ?_)
  have h := bd_e h eM7
  refine lv_aload_n hx hb dX6_copyFrom_41 rfl (lv_at hl 0 rfl) ?_
  refine lv_aload_n hx hb dX6_copyFrom_42 rfl (lv_at hl 1 rfl) ?_
  refine gt_6_4 X wm_252 hP (ms hj 0) dX6_copyFrom_43 ?_
  refine pt_6_4 X wm_252 hP hS (ms hk 0) dX6_copyFrom_46 (fun H locs M9 eM9 hP hS => ?_)
  have h := bd_e h eM9
  exact mw_vret X hr hlocks hP hS (Option.some.inj h) dX6_copyFrom_49
/-! SealedGroups$Store.beginGroup -/
noncomputable def f_X6_beginGroup (k : Nat) (M : Mem) (a1 : Int32) : Option (Int32 × Mem) :=
(if a1 < 0 then
some ((-1000001 : Int32), M)
else
(if a1 < (4 : Int32) then
(if (M k 0 3) = 0 then
bO (f_X0_isOpen k M a1) (fun v4 =>
(if v4 = 0 then
bO (f_X2_isFull k M) (fun v6 =>
(if v6 = 0 then
bP (f_X2_append k M (0 : Int32) a1 (-1000004 : Int32) (0 : Int32) (0 : Int32) (0 : Int32)) (fun v8 M9 =>
bO (f_X0_enter k M9 a1 v8) (fun M11 =>
some (v8, M11)))
else
some ((-1000003 : Int32), M)))
else
some ((-1000002 : Int32), M)))
else
some ((-1000002 : Int32), M))
else
some ((-1000001 : Int32), M)))
theorem pk_X6_beginGroup : Pk "SealedGroups$Store" yX6_beginGroup cX6_beginGroup 3 (some .int) 1 := ⟨wm_380, wm_16, rfl, by decide +kernel⟩
theorem pv_X6_beginGroup : Cond.instanceMethod yX6_beginGroup ∈ wsL_law ∧ Cond.selects "SealedGroups$Store" yX6_beginGroup yX6_beginGroup ∈ wsL_law := ⟨wm_378, wm_379⟩
set_option maxHeartbeats 4000000 in
set_option maxRecDepth 100000 in
theorem c_X6_beginGroup (l : Launch) (E : En) (hA : AdOK E) {k : Nat} {M : Mem} {a1 : Int32} {r0 : Int32} {M0 : Mem} (hk : k < 7) (h : f_X6_beginGroup k M a1 = some (r0, M0)) : Met l yX6_beginGroup (Wm yX6_beginGroup cX6_beginGroup 3 (some .int)) ({ frames := 1, cells := 0, slots := 0, locals := 26 } : Room) (va_Pc [Value.ref (E.2.2 k 0), Value.int a1] (Wd E M)) (QI E r0 M0) 0 0 (AA E) := by
  refine Met.ofW (cc := cX6_beginGroup) (maxL := 3) (ret := (some .int)) (by decide +kernel) rfl ?_
  intro p e s m args below meth c s₁ B hml hv
  obtain ⟨rfl, hP, hK⟩ := hv
  have X : Cx E (AA E) p s m c _ cX6_beginGroup 3 RX6 := ⟨⟨B.exec, B.bytes, hml, findClass_of_methodNamed B.named, fun w hw => atoms_spec (ws := Wm yX6_beginGroup cX6_beginGroup 3 (some .int)) B.pre w (List.mem_cons_of_mem _ hw)⟩, hK, hA, fun _ h => h⟩
  have hx := B.exec
  have hb := B.bytes
  have hr := B.returns
  have hlocks := B.notSynchronized
  clear B hml
  have hS : va_S (AA E) s.heap s.heap [] := va_S.rf
  have hl := lv_entry ([Value.ref (E.2.2 k 0), Value.int a1]) (n := 3) (Nat.le_of_ble_eq_true rfl)
  rw [lg_entry_eq]
  generalize (lg_sl ([Value.ref (E.2.2 k 0), Value.int a1]) ++ List.replicate (3 - (lg_sl ([Value.ref (E.2.2 k 0), Value.int a1])).length) Slot.unset).toArray = ls at hl ⊢
  have hl : lv_has ls 3 [(0, .ref (E.2.2 k 0)), (1, .int a1)] := hl
  unfold f_X6_beginGroup at h
  refine lv_iload_n hx hb dX6_beginGroup_0 rfl (lv_at hl 1 rfl) ?_
  refine lv_if_lt (tgt := 9) hx hb dX6_beginGroup_1 (by decide) (fun c1 => ?_) (fun c1 => ?_)
  · have h := br_1 h c1
    refine lv_ldc hx hb X.1.2.2.2.1 (X.1.2.2.2.2 _ wm_381) dX6_beginGroup_9 ?_
    have h := Option.some.inj h
    exact mw_iret X hr hlocks hP hS (congrArg Prod.fst h) (congrArg Prod.snd h) dX6_beginGroup_11
  · have h := br_0 h c1
    refine lv_iload_n hx hb dX6_beginGroup_4 rfl (lv_at hl 1 rfl) ?_
    refine lv_iconst (v := 4) hx hb dX6_beginGroup_5 (by decide) ?_
    refine lv_icmp_lt (tgt := 12) hx hb dX6_beginGroup_6 (by decide) (fun c2 => ?_) (fun c2 => ?_)
    · have h := br_1 h c2
      refine lv_aload_n hx hb dX6_beginGroup_12 rfl (lv_at hl 0 rfl) ?_
      refine gt_6_3 X wm_251 hP (ms hk 0) dX6_beginGroup_13 ?_
      refine lv_if_ne (tgt := 30) hx hb dX6_beginGroup_16 (by decide) (fun c3 => ?_) (fun c3 => ?_)
      · have h := br_0 h c3
        refine lv_ldc hx hb X.1.2.2.2.1 (X.1.2.2.2.2 _ wm_357) dX6_beginGroup_30 ?_
        have h := Option.some.inj h
        exact mw_iret X hr hlocks hP hS (congrArg Prod.fst h) (congrArg Prod.snd h) dX6_beginGroup_32
      · have h := br_1 h c3
        refine lv_aload_n hx hb dX6_beginGroup_19 rfl (lv_at hl 0 rfl) ?_
        refine gt_6_1 X wm_41 hP (ms hk 0) dX6_beginGroup_20 ?_
        refine lv_iload_n hx hb dX6_beginGroup_23 rfl (lv_at hl 1 rfl) ?_
        obtain ⟨v4, hv4, h⟩ := bO_e h
        refine mw_callVi X (c_X0_isOpen l E hA hk hv4) pk_X0_isOpen pv_X0_isOpen wm_383 ⟨Nat.le_of_ble_eq_true rfl, Nat.le_of_ble_eq_true rfl⟩ ⟨rfl, rfl⟩ hP hS (ms hk 7) rfl rfl rfl rfl hl.1 (Nat.le_of_ble_eq_true rfl) ⟨Nat.zero_le _, Nat.zero_le _⟩ rfl dX6_beginGroup_24 (fun H locs hP hS => ?_)
        refine lv_if_eq (tgt := 33) hx hb dX6_beginGroup_27 (by decide) (fun c5 => ?_) (fun c5 => ?_)
        · have h := br_1 h c5
          refine lv_aload_n hx hb dX6_beginGroup_33 rfl (lv_at hl 0 rfl) ?_
          refine gt_6_2 X wm_45 hP (ms hk 0) dX6_beginGroup_34 ?_
          obtain ⟨v6, hv6, h⟩ := bO_e h
          refine mw_callVi X (c_X2_isFull l E hA hk hv6) pk_X2_isFull pv_X2_isFull wm_384 ⟨Nat.le_of_ble_eq_true rfl, Nat.le_of_ble_eq_true rfl⟩ ⟨rfl, rfl⟩ hP hS (ms hk 11) rfl rfl rfl rfl hl.1 (Nat.le_of_ble_eq_true rfl) ⟨Nat.zero_le _, Nat.zero_le _⟩ rfl dX6_beginGroup_37 (fun H locs hP hS => ?_)
          refine lv_if_eq (tgt := 46) hx hb dX6_beginGroup_40 (by decide) (fun c7 => ?_) (fun c7 => ?_)
          · have h := br_1 h c7
            refine lv_aload_n hx hb dX6_beginGroup_46 rfl (lv_at hl 0 rfl) ?_
            refine gt_6_2 X wm_45 hP (ms hk 0) dX6_beginGroup_47 ?_
            refine lv_iconst (v := 0) hx hb dX6_beginGroup_50 (by decide) ?_
            refine lv_iload_n hx hb dX6_beginGroup_51 rfl (lv_at hl 1 rfl) ?_
            refine lv_ldc hx hb X.1.2.2.2.1 (X.1.2.2.2.2 _ wm_321) dX6_beginGroup_52 ?_
            refine lv_iconst (v := 0) hx hb dX6_beginGroup_54 (by decide) ?_
            refine lv_iconst (v := 0) hx hb dX6_beginGroup_55 (by decide) ?_
            refine lv_iconst (v := 0) hx hb dX6_beginGroup_56 (by decide) ?_
            obtain ⟨v8, M9, hv8, h⟩ := bP_e h
            refine mw_callVi X (c_X2_append l E hA hk hv8) pk_X2_append pv_X2_append wm_322 ⟨Nat.le_of_ble_eq_true rfl, Nat.le_of_ble_eq_true rfl⟩ ⟨rfl, rfl⟩ hP hS (ms hk 11) rfl rfl rfl rfl hl.1 (Nat.le_of_ble_eq_true rfl) ⟨Nat.zero_le _, Nat.zero_le _⟩ rfl dX6_beginGroup_57 (fun H locs hP hS => ?_)
            refine lv_istore_n (lv' := [(2, .int v8), (0, .ref (E.2.2 k 0)), (1, .int a1)]) hx hb dX6_beginGroup_60 rfl hl (by decide) rfl (fun ls hl => ?_)
            refine lv_aload_n hx hb dX6_beginGroup_61 rfl (lv_at hl 1 rfl) ?_
            refine gt_6_1 X wm_41 hP (ms hk 0) dX6_beginGroup_62 ?_
            refine lv_iload_n hx hb dX6_beginGroup_65 rfl (lv_at hl 2 rfl) ?_
            refine lv_iload_n hx hb dX6_beginGroup_66 rfl (lv_at hl 0 rfl) ?_
            obtain ⟨M11, hv10, h⟩ := bO_e h
            refine mw_callVv X (c_X0_enter l E hA hk hv10) pk_X0_enter pv_X0_enter wm_388 ⟨Nat.le_of_ble_eq_true rfl, Nat.le_of_ble_eq_true rfl⟩ ⟨rfl, rfl⟩ hP hS (ms hk 7) rfl rfl rfl rfl hl.1 (Nat.le_of_ble_eq_true rfl) ⟨Nat.zero_le _, Nat.zero_le _⟩ rfl dX6_beginGroup_67 (fun H locs hP hS => ?_)
            refine lv_iload_n hx hb dX6_beginGroup_70 rfl (lv_at hl 0 rfl) ?_
            have h := Option.some.inj h
            exact mw_iret X hr hlocks hP hS (congrArg Prod.fst h) (congrArg Prod.snd h) dX6_beginGroup_71
          · have h := br_0 h c7
            refine lv_ldc hx hb X.1.2.2.2.1 (X.1.2.2.2.2 _ wm_382) dX6_beginGroup_43 ?_
            have h := Option.some.inj h
            exact mw_iret X hr hlocks hP hS (congrArg Prod.fst h) (congrArg Prod.snd h) dX6_beginGroup_45
        · have h := br_0 h c5
          refine lv_ldc hx hb X.1.2.2.2.1 (X.1.2.2.2.2 _ wm_357) dX6_beginGroup_30 ?_
          have h := Option.some.inj h
          exact mw_iret X hr hlocks hP hS (congrArg Prod.fst h) (congrArg Prod.snd h) dX6_beginGroup_32
    · have h := br_0 h c2
      refine lv_ldc hx hb X.1.2.2.2.1 (X.1.2.2.2.2 _ wm_381) dX6_beginGroup_9 ?_
      have h := Option.some.inj h
      exact mw_iret X hr hlocks hP hS (congrArg Prod.fst h) (congrArg Prod.snd h) dX6_beginGroup_11
/-! SealedGroups$Store.writePage -/
noncomputable def f_X6_writePage_L77 (k : Nat) (M : Mem) (y1 y2 y3 : Int32) : Option (Int32 × Mem) :=
bO (f_X2_isFull k M) (fun v12 =>
(if v12 = 0 then
bO (f_X4_valueOf k M y2) (fun v14 =>
bP (f_X2_append k M (1 : Int32) y1 y2 v14 y3 (0 : Int32)) (fun v15 M16 =>
bO (f_X4_put k M16 y2 y3 v15) (fun M18 =>
bO (f_X0_hold k M18 y1 y2) (fun M20 =>
some (v14, M20)))))
else
some ((-1000003 : Int32), M)))
noncomputable def f_X6_writePage (k : Nat) (M : Mem) (a1 a2 a3 : Int32) : Option (Int32 × Mem) :=
(if a1 < 0 then
some ((-1000001 : Int32), M)
else
(if (4 : Int32) ≤ a1 then
some ((-1000001 : Int32), M)
else
(if a2 < 0 then
some ((-1000001 : Int32), M)
else
(if a2 < (8 : Int32) then
(if a3 < 0 then
some ((-1000001 : Int32), M)
else
(if a3 < (100 : Int32) then
bO (f_X0_holderOf k M a2) (fun v7 =>
(if (M k 0 3) = 0 then
bO (f_X0_isOpen k M a1) (fun v9 =>
(if v9 = 0 then
some ((-1000002 : Int32), M)
else
(if v7 < 0 then
f_X6_writePage_L77 k M a1 a2 a3
else
(if v7 = a1 then
f_X6_writePage_L77 k M a1 a2 a3
else
some ((-1000002 : Int32), M)))))
else
some ((-1000002 : Int32), M)))
else
some ((-1000001 : Int32), M)))
else
some ((-1000001 : Int32), M)))))
theorem pk_X6_writePage : Pk "SealedGroups$Store" yX6_writePage cX6_writePage 7 (some .int) 3 := ⟨wm_399, wm_16, rfl, by decide +kernel⟩
theorem pv_X6_writePage : Cond.instanceMethod yX6_writePage ∈ wsL_law ∧ Cond.selects "SealedGroups$Store" yX6_writePage yX6_writePage ∈ wsL_law := ⟨wm_397, wm_398⟩
set_option maxHeartbeats 4000000 in
set_option maxRecDepth 100000 in
theorem c_X6_writePage (l : Launch) (E : En) (hA : AdOK E) {k : Nat} {M : Mem} {a1 a2 a3 : Int32} {r0 : Int32} {M0 : Mem} (hk : k < 7) (h : f_X6_writePage k M a1 a2 a3 = some (r0, M0)) : Met l yX6_writePage (Wm yX6_writePage cX6_writePage 7 (some .int)) ({ frames := 1, cells := 0, slots := 0, locals := 26 } : Room) (va_Pc [Value.ref (E.2.2 k 0), Value.int a1, Value.int a2, Value.int a3] (Wd E M)) (QI E r0 M0) 0 0 (AA E) := by
  refine Met.ofW (cc := cX6_writePage) (maxL := 7) (ret := (some .int)) (by decide +kernel) rfl ?_
  intro p e s m args below meth c s₁ B hml hv
  obtain ⟨rfl, hP, hK⟩ := hv
  have X : Cx E (AA E) p s m c _ cX6_writePage 7 RX6 := ⟨⟨B.exec, B.bytes, hml, findClass_of_methodNamed B.named, fun w hw => atoms_spec (ws := Wm yX6_writePage cX6_writePage 7 (some .int)) B.pre w (List.mem_cons_of_mem _ hw)⟩, hK, hA, fun _ h => h⟩
  have hx := B.exec
  have hb := B.bytes
  have hr := B.returns
  have hlocks := B.notSynchronized
  clear B hml
  have hS : va_S (AA E) s.heap s.heap [] := va_S.rf
  have hl := lv_entry ([Value.ref (E.2.2 k 0), Value.int a1, Value.int a2, Value.int a3]) (n := 7) (Nat.le_of_ble_eq_true rfl)
  rw [lg_entry_eq]
  generalize (lg_sl ([Value.ref (E.2.2 k 0), Value.int a1, Value.int a2, Value.int a3]) ++ List.replicate (7 - (lg_sl ([Value.ref (E.2.2 k 0), Value.int a1, Value.int a2, Value.int a3])).length) Slot.unset).toArray = ls at hl ⊢
  have hl : lv_has ls 7 [(0, .ref (E.2.2 k 0)), (1, .int a1), (2, .int a2), (3, .int a3)] := hl
  have w_L77 : ∀ (M : Mem) (y1 y2 y3 : Int32) (H : Heap) (locs : List Loc) (ls : Array Slot), f_X6_writePage_L77 k M y1 y2 y3 = some (r0, M0) → va_P E.1 vwCl (wl E M) H → va_S (AA E) s.heap H locs → lv_has ls 7 [(0, .ref (E.2.2 k 0)), (1, .int y1), (2, .int y2), (3, .int y3)] → W p l e (headSpec (Wm yX6_writePage cX6_writePage 7 (some .int)) ({ frames := 1, cells := 0, slots := 0, locals := 26 } : Room)).room s m ([Value.ref (E.2.2 k 0), Value.int a1, Value.int a2, Value.int a3] : List Value).toArray below meth c H locs 0 0 (MQ below (QI E r0 M0) ([Value.ref (E.2.2 k 0), Value.int a1, Value.int a2, Value.int a3] : List Value).toArray s 0 0 (AA E)) (F0 m 77 ls []) := by
    intro M y1 y2 y3 H locs ls h hP hS hl
    unfold f_X6_writePage_L77 at h
    refine lv_aload_n hx hb dX6_writePage_77 rfl (lv_at hl 0 rfl) ?_
    refine gt_6_2 X wm_45 hP (ms hk 0) dX6_writePage_78 ?_
    obtain ⟨v12, hv12, h⟩ := bO_e h
    refine mw_callVi X (c_X2_isFull l E hA hk hv12) pk_X2_isFull pv_X2_isFull wm_384 ⟨Nat.le_of_ble_eq_true rfl, Nat.le_of_ble_eq_true rfl⟩ ⟨rfl, rfl⟩ hP hS (ms hk 11) rfl rfl rfl rfl hl.1 (Nat.le_of_ble_eq_true rfl) ⟨Nat.zero_le _, Nat.zero_le _⟩ rfl dX6_writePage_81 (fun H locs hP hS => ?_)
    refine lv_if_eq (tgt := 90) hx hb dX6_writePage_84 (by decide) (fun c13 => ?_) (fun c13 => ?_)
    · have h := br_1 h c13
      refine lv_aload_n hx hb dX6_writePage_90 rfl (lv_at hl 0 rfl) ?_
      refine gt_6_0 X wm_37 hP (ms hk 0) dX6_writePage_91 ?_
      refine lv_iload_n hx hb dX6_writePage_94 rfl (lv_at hl 2 rfl) ?_
      obtain ⟨v14, hv14, h⟩ := bO_e h
      refine mw_callVi X (c_X4_valueOf l E hA hk hv14) pk_X4_valueOf pv_X4_valueOf wm_339 ⟨Nat.le_of_ble_eq_true rfl, Nat.le_of_ble_eq_true rfl⟩ ⟨rfl, rfl⟩ hP hS (ms hk 1) rfl rfl rfl rfl hl.1 (Nat.le_of_ble_eq_true rfl) ⟨Nat.zero_le _, Nat.zero_le _⟩ rfl dX6_writePage_95 (fun H locs hP hS => ?_)
      refine lv_istore (lv' := [(5, .int v14), (0, .ref (E.2.2 k 0)), (1, .int y1), (2, .int y2), (3, .int y3)]) hx hb dX6_writePage_98 hl (by decide) rfl (fun ls hl => ?_)
      refine lv_aload_n hx hb dX6_writePage_100 rfl (lv_at hl 1 rfl) ?_
      refine gt_6_2 X wm_45 hP (ms hk 0) dX6_writePage_101 ?_
      refine lv_iconst (v := 1) hx hb dX6_writePage_104 (by decide) ?_
      refine lv_iload_n hx hb dX6_writePage_105 rfl (lv_at hl 2 rfl) ?_
      refine lv_iload_n hx hb dX6_writePage_106 rfl (lv_at hl 3 rfl) ?_
      refine lv_iload hx hb dX6_writePage_107 (lv_at hl 0 rfl) ?_
      refine lv_iload_n hx hb dX6_writePage_109 rfl (lv_at hl 4 rfl) ?_
      refine lv_iconst (v := 0) hx hb dX6_writePage_110 (by decide) ?_
      obtain ⟨v15, M16, hv15, h⟩ := bP_e h
      refine mw_callVi X (c_X2_append l E hA hk hv15) pk_X2_append pv_X2_append wm_322 ⟨Nat.le_of_ble_eq_true rfl, Nat.le_of_ble_eq_true rfl⟩ ⟨rfl, rfl⟩ hP hS (ms hk 11) rfl rfl rfl rfl hl.1 (Nat.le_of_ble_eq_true rfl) ⟨Nat.zero_le _, Nat.zero_le _⟩ rfl dX6_writePage_111 (fun H locs hP hS => ?_)
      refine lv_istore (lv' := [(6, .int v15), (5, .int v14), (0, .ref (E.2.2 k 0)), (1, .int y1), (2, .int y2), (3, .int y3)]) hx hb dX6_writePage_114 hl (by decide) rfl (fun ls hl => ?_)
      refine lv_aload_n hx hb dX6_writePage_116 rfl (lv_at hl 2 rfl) ?_
      refine gt_6_0 X wm_37 hP (ms hk 0) dX6_writePage_117 ?_
      refine lv_iload_n hx hb dX6_writePage_120 rfl (lv_at hl 4 rfl) ?_
      refine lv_iload_n hx hb dX6_writePage_121 rfl (lv_at hl 5 rfl) ?_
      refine lv_iload hx hb dX6_writePage_122 (lv_at hl 0 rfl) ?_
      obtain ⟨M18, hv17, h⟩ := bO_e h
      refine mw_callVv X (c_X4_put l E hA hk hv17) pk_X4_put pv_X4_put wm_340 ⟨Nat.le_of_ble_eq_true rfl, Nat.le_of_ble_eq_true rfl⟩ ⟨rfl, rfl⟩ hP hS (ms hk 1) rfl rfl rfl rfl hl.1 (Nat.le_of_ble_eq_true rfl) ⟨Nat.zero_le _, Nat.zero_le _⟩ rfl dX6_writePage_124 (fun H locs hP hS => ?_)
      refine lv_aload_n hx hb dX6_writePage_127 rfl (lv_at hl 2 rfl) ?_
      refine gt_6_1 X wm_41 hP (ms hk 0) dX6_writePage_128 ?_
      refine lv_iload_n hx hb dX6_writePage_131 rfl (lv_at hl 3 rfl) ?_
      refine lv_iload_n hx hb dX6_writePage_132 rfl (lv_at hl 4 rfl) ?_
      obtain ⟨M20, hv19, h⟩ := bO_e h
      refine mw_callVv X (c_X0_hold l E hA hk hv19) pk_X0_hold pv_X0_hold wm_401 ⟨Nat.le_of_ble_eq_true rfl, Nat.le_of_ble_eq_true rfl⟩ ⟨rfl, rfl⟩ hP hS (ms hk 7) rfl rfl rfl rfl hl.1 (Nat.le_of_ble_eq_true rfl) ⟨Nat.zero_le _, Nat.zero_le _⟩ rfl dX6_writePage_133 (fun H locs hP hS => ?_)
      refine lv_iload hx hb dX6_writePage_136 (lv_at hl 1 rfl) ?_
      have h := Option.some.inj h
      exact mw_iret X hr hlocks hP hS (congrArg Prod.fst h) (congrArg Prod.snd h) dX6_writePage_138
    · have h := br_0 h c13
      refine lv_ldc hx hb X.1.2.2.2.1 (X.1.2.2.2.2 _ wm_382) dX6_writePage_87 ?_
      have h := Option.some.inj h
      exact mw_iret X hr hlocks hP hS (congrArg Prod.fst h) (congrArg Prod.snd h) dX6_writePage_89
  unfold f_X6_writePage at h
  refine lv_iload_n hx hb dX6_writePage_0 rfl (lv_at hl 1 rfl) ?_
  refine lv_if_lt (tgt := 19) hx hb dX6_writePage_1 (by decide) (fun c1 => ?_) (fun c1 => ?_)
  · have h := br_1 h c1
    refine lv_ldc hx hb X.1.2.2.2.1 (X.1.2.2.2.2 _ wm_381) dX6_writePage_19 ?_
    have h := Option.some.inj h
    exact mw_iret X hr hlocks hP hS (congrArg Prod.fst h) (congrArg Prod.snd h) dX6_writePage_21
  · have h := br_0 h c1
    refine lv_iload_n hx hb dX6_writePage_4 rfl (lv_at hl 1 rfl) ?_
    refine lv_iconst (v := 4) hx hb dX6_writePage_5 (by decide) ?_
    refine lv_icmp_ge (tgt := 19) hx hb dX6_writePage_6 (by decide) (fun c2 => ?_) (fun c2 => ?_)
    · have h := br_1 h c2
      refine lv_ldc hx hb X.1.2.2.2.1 (X.1.2.2.2.2 _ wm_381) dX6_writePage_19 ?_
      have h := Option.some.inj h
      exact mw_iret X hr hlocks hP hS (congrArg Prod.fst h) (congrArg Prod.snd h) dX6_writePage_21
    · have h := br_0 h c2
      refine lv_iload_n hx hb dX6_writePage_9 rfl (lv_at hl 2 rfl) ?_
      refine lv_if_lt (tgt := 19) hx hb dX6_writePage_10 (by decide) (fun c3 => ?_) (fun c3 => ?_)
      · have h := br_1 h c3
        refine lv_ldc hx hb X.1.2.2.2.1 (X.1.2.2.2.2 _ wm_381) dX6_writePage_19 ?_
        have h := Option.some.inj h
        exact mw_iret X hr hlocks hP hS (congrArg Prod.fst h) (congrArg Prod.snd h) dX6_writePage_21
      · have h := br_0 h c3
        refine lv_iload_n hx hb dX6_writePage_13 rfl (lv_at hl 2 rfl) ?_
        refine lv_bipush (v := 8) hx hb dX6_writePage_14 (by decide) ?_
        refine lv_icmp_lt (tgt := 22) hx hb dX6_writePage_16 (by decide) (fun c4 => ?_) (fun c4 => ?_)
        · have h := br_1 h c4
          refine lv_iload_n hx hb dX6_writePage_22 rfl (lv_at hl 3 rfl) ?_
          refine lv_if_lt (tgt := 32) hx hb dX6_writePage_23 (by decide) (fun c5 => ?_) (fun c5 => ?_)
          · have h := br_1 h c5
            refine lv_ldc hx hb X.1.2.2.2.1 (X.1.2.2.2.2 _ wm_381) dX6_writePage_32 ?_
            have h := Option.some.inj h
            exact mw_iret X hr hlocks hP hS (congrArg Prod.fst h) (congrArg Prod.snd h) dX6_writePage_34
          · have h := br_0 h c5
            refine lv_iload_n hx hb dX6_writePage_26 rfl (lv_at hl 3 rfl) ?_
            refine lv_bipush (v := 100) hx hb dX6_writePage_27 (by decide) ?_
            refine lv_icmp_lt (tgt := 35) hx hb dX6_writePage_29 (by decide) (fun c6 => ?_) (fun c6 => ?_)
            · have h := br_1 h c6
              refine lv_aload_n hx hb dX6_writePage_35 rfl (lv_at hl 0 rfl) ?_
              refine gt_6_1 X wm_41 hP (ms hk 0) dX6_writePage_36 ?_
              refine lv_iload_n hx hb dX6_writePage_39 rfl (lv_at hl 2 rfl) ?_
              obtain ⟨v7, hv7, h⟩ := bO_e h
              refine mw_callVi X (c_X0_holderOf l E hA hk hv7) pk_X0_holderOf pv_X0_holderOf wm_400 ⟨Nat.le_of_ble_eq_true rfl, Nat.le_of_ble_eq_true rfl⟩ ⟨rfl, rfl⟩ hP hS (ms hk 7) rfl rfl rfl rfl hl.1 (Nat.le_of_ble_eq_true rfl) ⟨Nat.zero_le _, Nat.zero_le _⟩ rfl dX6_writePage_40 (fun H locs hP hS => ?_)
              refine lv_istore (lv' := [(4, .int v7), (0, .ref (E.2.2 k 0)), (1, .int a1), (2, .int a2), (3, .int a3)]) hx hb dX6_writePage_43 hl (by decide) rfl (fun ls hl => ?_)
              refine lv_aload_n hx hb dX6_writePage_45 rfl (lv_at hl 1 rfl) ?_
              refine gt_6_3 X wm_251 hP (ms hk 0) dX6_writePage_46 ?_
              refine lv_if_ne (tgt := 74) hx hb dX6_writePage_49 (by decide) (fun c8 => ?_) (fun c8 => ?_)
              · have h := br_0 h c8
                refine lv_ldc hx hb X.1.2.2.2.1 (X.1.2.2.2.2 _ wm_357) dX6_writePage_74 ?_
                have h := Option.some.inj h
                exact mw_iret X hr hlocks hP hS (congrArg Prod.fst h) (congrArg Prod.snd h) dX6_writePage_76
              · have h := br_1 h c8
                refine lv_aload_n hx hb dX6_writePage_52 rfl (lv_at hl 1 rfl) ?_
                refine gt_6_1 X wm_41 hP (ms hk 0) dX6_writePage_53 ?_
                refine lv_iload_n hx hb dX6_writePage_56 rfl (lv_at hl 2 rfl) ?_
                obtain ⟨v9, hv9, h⟩ := bO_e h
                refine mw_callVi X (c_X0_isOpen l E hA hk hv9) pk_X0_isOpen pv_X0_isOpen wm_383 ⟨Nat.le_of_ble_eq_true rfl, Nat.le_of_ble_eq_true rfl⟩ ⟨rfl, rfl⟩ hP hS (ms hk 7) rfl rfl rfl rfl hl.1 (Nat.le_of_ble_eq_true rfl) ⟨Nat.zero_le _, Nat.zero_le _⟩ rfl dX6_writePage_57 (fun H locs hP hS => ?_)
                refine lv_if_eq (tgt := 74) hx hb dX6_writePage_60 (by decide) (fun c10 => ?_) (fun c10 => ?_)
                · have h := br_1 h c10
                  refine lv_ldc hx hb X.1.2.2.2.1 (X.1.2.2.2.2 _ wm_357) dX6_writePage_74 ?_
                  have h := Option.some.inj h
                  exact mw_iret X hr hlocks hP hS (congrArg Prod.fst h) (congrArg Prod.snd h) dX6_writePage_76
                · have h := br_0 h c10
                  refine lv_iload hx hb dX6_writePage_63 (lv_at hl 0 rfl) ?_
                  refine lv_if_lt (tgt := 77) hx hb dX6_writePage_65 (by decide) (fun c11 => ?_) (fun c11 => ?_)
                  · have h := br_1 h c11
                    exact w_L77 _ _ _ _ _ _ _ h hP hS (lv_sub hl [1, 2, 3, 4] rfl)
                  · have h := br_0 h c11
                    refine lv_iload hx hb dX6_writePage_68 (lv_at hl 0 rfl) ?_
                    refine lv_iload_n hx hb dX6_writePage_70 rfl (lv_at hl 2 rfl) ?_
                    refine lv_icmp_eq (tgt := 77) hx hb dX6_writePage_71 (by decide) (fun c21 => ?_) (fun c21 => ?_)
                    · have h := br_1 h c21
                      exact w_L77 _ _ _ _ _ _ _ h hP hS (lv_sub hl [1, 2, 3, 4] rfl)
                    · have h := br_0 h c21
                      refine lv_ldc hx hb X.1.2.2.2.1 (X.1.2.2.2.2 _ wm_357) dX6_writePage_74 ?_
                      have h := Option.some.inj h
                      exact mw_iret X hr hlocks hP hS (congrArg Prod.fst h) (congrArg Prod.snd h) dX6_writePage_76
            · have h := br_0 h c6
              refine lv_ldc hx hb X.1.2.2.2.1 (X.1.2.2.2.2 _ wm_381) dX6_writePage_32 ?_
              have h := Option.some.inj h
              exact mw_iret X hr hlocks hP hS (congrArg Prod.fst h) (congrArg Prod.snd h) dX6_writePage_34
        · have h := br_0 h c4
          refine lv_ldc hx hb X.1.2.2.2.1 (X.1.2.2.2.2 _ wm_381) dX6_writePage_19 ?_
          have h := Option.some.inj h
          exact mw_iret X hr hlocks hP hS (congrArg Prod.fst h) (congrArg Prod.snd h) dX6_writePage_21
/-! SealedGroups$Store.errorOfEnding -/
noncomputable def f_X6_errorOfEnding (k : Nat) (M : Mem) (a1 a2 : Int32) : Option Int32 :=
(if a1 < 0 then
some (-1000001 : Int32)
else
(if a1 < (4 : Int32) then
(if (M k 0 3) = 0 then
bO (f_X0_isOpen k M a1) (fun v4 =>
(if v4 = 0 then
some (-1000002 : Int32)
else
(if ((M k 11 8) + a2) ≤ (60 : Int32) then
some (0 : Int32)
else
some (-1000003 : Int32))))
else
some (-1000002 : Int32))
else
some (-1000001 : Int32)))
theorem pk_X6_errorOfEnding : Pk "SealedGroups$Store" yX6_errorOfEnding cX6_errorOfEnding 3 (some .int) 2 := ⟨wm_416, wm_16, rfl, by decide +kernel⟩
theorem pv_X6_errorOfEnding : Cond.instanceMethod yX6_errorOfEnding ∈ wsL_law ∧ Cond.selects "SealedGroups$Store" yX6_errorOfEnding yX6_errorOfEnding ∈ wsL_law := ⟨wm_414, wm_415⟩
set_option maxHeartbeats 4000000 in
set_option maxRecDepth 100000 in
theorem c_X6_errorOfEnding (l : Launch) (E : En) (hA : AdOK E) {k : Nat} {M : Mem} {a1 a2 : Int32} {r0 : Int32} (hk : k < 7) (h : f_X6_errorOfEnding k M a1 a2 = some r0) : Met l yX6_errorOfEnding (Wm yX6_errorOfEnding cX6_errorOfEnding 3 (some .int)) ({ frames := 1, cells := 0, slots := 0, locals := 21 } : Room) (va_Pc [Value.ref (E.2.2 k 0), Value.int a1, Value.int a2] (Wd E M)) (QI E r0 M) 0 0 (AA E) := by
  refine Met.ofW (cc := cX6_errorOfEnding) (maxL := 3) (ret := (some .int)) (by decide +kernel) rfl ?_
  intro p e s m args below meth c s₁ B hml hv
  obtain ⟨rfl, hP, hK⟩ := hv
  have X : Cx E (AA E) p s m c _ cX6_errorOfEnding 3 RX6 := ⟨⟨B.exec, B.bytes, hml, findClass_of_methodNamed B.named, fun w hw => atoms_spec (ws := Wm yX6_errorOfEnding cX6_errorOfEnding 3 (some .int)) B.pre w (List.mem_cons_of_mem _ hw)⟩, hK, hA, fun _ h => h⟩
  have hx := B.exec
  have hb := B.bytes
  have hr := B.returns
  have hlocks := B.notSynchronized
  clear B hml
  have hS : va_S (AA E) s.heap s.heap [] := va_S.rf
  have hl := lv_entry ([Value.ref (E.2.2 k 0), Value.int a1, Value.int a2]) (n := 3) (Nat.le_of_ble_eq_true rfl)
  rw [lg_entry_eq]
  generalize (lg_sl ([Value.ref (E.2.2 k 0), Value.int a1, Value.int a2]) ++ List.replicate (3 - (lg_sl ([Value.ref (E.2.2 k 0), Value.int a1, Value.int a2])).length) Slot.unset).toArray = ls at hl ⊢
  have hl : lv_has ls 3 [(0, .ref (E.2.2 k 0)), (1, .int a1), (2, .int a2)] := hl
  unfold f_X6_errorOfEnding at h
  refine lv_iload_n hx hb dX6_errorOfEnding_0 rfl (lv_at hl 1 rfl) ?_
  refine lv_if_lt (tgt := 9) hx hb dX6_errorOfEnding_1 (by decide) (fun c1 => ?_) (fun c1 => ?_)
  · have h := br_1 h c1
    refine lv_ldc hx hb X.1.2.2.2.1 (X.1.2.2.2.2 _ wm_381) dX6_errorOfEnding_9 ?_
    exact mw_iret X hr hlocks hP hS (Option.some.inj h) rfl dX6_errorOfEnding_11
  · have h := br_0 h c1
    refine lv_iload_n hx hb dX6_errorOfEnding_4 rfl (lv_at hl 1 rfl) ?_
    refine lv_iconst (v := 4) hx hb dX6_errorOfEnding_5 (by decide) ?_
    refine lv_icmp_lt (tgt := 12) hx hb dX6_errorOfEnding_6 (by decide) (fun c2 => ?_) (fun c2 => ?_)
    · have h := br_1 h c2
      refine lv_aload_n hx hb dX6_errorOfEnding_12 rfl (lv_at hl 0 rfl) ?_
      refine gt_6_3 X wm_251 hP (ms hk 0) dX6_errorOfEnding_13 ?_
      refine lv_if_ne (tgt := 30) hx hb dX6_errorOfEnding_16 (by decide) (fun c3 => ?_) (fun c3 => ?_)
      · have h := br_0 h c3
        refine lv_ldc hx hb X.1.2.2.2.1 (X.1.2.2.2.2 _ wm_357) dX6_errorOfEnding_30 ?_
        exact mw_iret X hr hlocks hP hS (Option.some.inj h) rfl dX6_errorOfEnding_32
      · have h := br_1 h c3
        refine lv_aload_n hx hb dX6_errorOfEnding_19 rfl (lv_at hl 0 rfl) ?_
        refine gt_6_1 X wm_41 hP (ms hk 0) dX6_errorOfEnding_20 ?_
        refine lv_iload_n hx hb dX6_errorOfEnding_23 rfl (lv_at hl 1 rfl) ?_
        obtain ⟨v4, hv4, h⟩ := bO_e h
        refine mw_callVi X (c_X0_isOpen l E hA hk hv4) pk_X0_isOpen pv_X0_isOpen wm_383 ⟨Nat.le_of_ble_eq_true rfl, Nat.le_of_ble_eq_true rfl⟩ ⟨rfl, rfl⟩ hP hS (ms hk 7) rfl rfl rfl rfl hl.1 (Nat.le_of_ble_eq_true rfl) ⟨Nat.zero_le _, Nat.zero_le _⟩ rfl dX6_errorOfEnding_24 (fun H locs hP hS => ?_)
        refine lv_if_ne (tgt := 33) hx hb dX6_errorOfEnding_27 (by decide) (fun c5 => ?_) (fun c5 => ?_)
        · have h := br_0 h c5
          refine lv_aload_n hx hb dX6_errorOfEnding_33 rfl (lv_at hl 0 rfl) ?_
          refine gt_6_2 X wm_45 hP (ms hk 0) dX6_errorOfEnding_34 ?_
          refine gn_2_8 X nf_22 hP (ms hk 11) dX6_errorOfEnding_37 ?_
          refine lv_iload_n hx hb dX6_errorOfEnding_40 rfl (lv_at hl 2 rfl) ?_
          refine lv_iadd hx hb dX6_errorOfEnding_41 ?_
          refine lv_bipush (v := 60) hx hb dX6_errorOfEnding_42 (by decide) ?_
          refine lv_icmp_le (tgt := 52) hx hb dX6_errorOfEnding_44 (by decide) (fun c6 => ?_) (fun c6 => ?_)
          · have h := br_1 h c6
            refine lv_iconst (v := 0) hx hb dX6_errorOfEnding_52 (by decide) ?_
            exact mw_iret X hr hlocks hP hS (Option.some.inj h) rfl dX6_errorOfEnding_53
          · have h := br_0 h c6
            refine lv_ldc hx hb X.1.2.2.2.1 (X.1.2.2.2.2 _ wm_382) dX6_errorOfEnding_47 ?_
            refine lv_goto (tgt := 53) hx hb dX6_errorOfEnding_49 (by decide) ?_
            exact mw_iret X hr hlocks hP hS (Option.some.inj h) rfl dX6_errorOfEnding_53
        · have h := br_1 h c5
          refine lv_ldc hx hb X.1.2.2.2.1 (X.1.2.2.2.2 _ wm_357) dX6_errorOfEnding_30 ?_
          exact mw_iret X hr hlocks hP hS (Option.some.inj h) rfl dX6_errorOfEnding_32
    · have h := br_0 h c2
      refine lv_ldc hx hb X.1.2.2.2.1 (X.1.2.2.2.2 _ wm_381) dX6_errorOfEnding_9 ?_
      exact mw_iret X hr hlocks hP hS (Option.some.inj h) rfl dX6_errorOfEnding_11
/-! SealedGroups$Store.settleGroup -/
noncomputable def f_X6_settleGroup (k : Nat) (M : Mem) (a1 : Int32) : Option (Int32 × Mem) :=
bO (f_X6_errorOfEnding k M a1 (1 : Int32)) (fun v1 =>
(if v1 = 0 then
bP (f_X2_append k M (2 : Int32) a1 (-1000004 : Int32) (0 : Int32) (0 : Int32) (0 : Int32)) (fun v3 M4 =>
bP (f_X2_forceUpTo k M4 v3) (fun v5 M6 =>
bO (f_X0_leave k M6 a1) (fun M8 =>
bO (f_X0_heldBy k M8 a1) (fun v9 =>
bO (f_J6_bitCount_0f7a4 M8 v9) (fun v10 =>
some (v10, M8))))))
else
some (v1, M)))
theorem pk_X6_settleGroup : Pk "SealedGroups$Store" yX6_settleGroup cX6_settleGroup 3 (some .int) 1 := ⟨wm_412, wm_16, rfl, by decide +kernel⟩
theorem pv_X6_settleGroup : Cond.instanceMethod yX6_settleGroup ∈ wsL_law ∧ Cond.selects "SealedGroups$Store" yX6_settleGroup yX6_settleGroup ∈ wsL_law := ⟨wm_410, wm_411⟩
set_option maxHeartbeats 4000000 in
set_option maxRecDepth 100000 in
theorem c_X6_settleGroup (l : Launch) (E : En) (hA : AdOK E) {k : Nat} {M : Mem} {a1 : Int32} {r0 : Int32} {M0 : Mem} (hk : k < 7) (h : f_X6_settleGroup k M a1 = some (r0, M0)) : Met l yX6_settleGroup (Wm yX6_settleGroup cX6_settleGroup 3 (some .int)) ({ frames := 2, cells := 0, slots := 0, locals := 43 } : Room) (va_Pc [Value.ref (E.2.2 k 0), Value.int a1] (Wd E M)) (QI E r0 M0) 0 0 (AA E) := by
  refine Met.ofW (cc := cX6_settleGroup) (maxL := 3) (ret := (some .int)) (by decide +kernel) rfl ?_
  intro p e s m args below meth c s₁ B hml hv
  obtain ⟨rfl, hP, hK⟩ := hv
  have X : Cx E (AA E) p s m c _ cX6_settleGroup 3 RX6 := ⟨⟨B.exec, B.bytes, hml, findClass_of_methodNamed B.named, fun w hw => atoms_spec (ws := Wm yX6_settleGroup cX6_settleGroup 3 (some .int)) B.pre w (List.mem_cons_of_mem _ hw)⟩, hK, hA, fun _ h => h⟩
  have hx := B.exec
  have hb := B.bytes
  have hr := B.returns
  have hlocks := B.notSynchronized
  clear B hml
  have hS : va_S (AA E) s.heap s.heap [] := va_S.rf
  have hl := lv_entry ([Value.ref (E.2.2 k 0), Value.int a1]) (n := 3) (Nat.le_of_ble_eq_true rfl)
  rw [lg_entry_eq]
  generalize (lg_sl ([Value.ref (E.2.2 k 0), Value.int a1]) ++ List.replicate (3 - (lg_sl ([Value.ref (E.2.2 k 0), Value.int a1])).length) Slot.unset).toArray = ls at hl ⊢
  have hl : lv_has ls 3 [(0, .ref (E.2.2 k 0)), (1, .int a1)] := hl
  unfold f_X6_settleGroup at h
  refine lv_aload_n hx hb dX6_settleGroup_0 rfl (lv_at hl 0 rfl) ?_
  refine lv_iload_n hx hb dX6_settleGroup_1 rfl (lv_at hl 1 rfl) ?_
  refine lv_iconst (v := 1) hx hb dX6_settleGroup_2 (by decide) ?_
  obtain ⟨v1, hv1, h⟩ := bO_e h
  refine mw_callVi X (c_X6_errorOfEnding l E hA hk hv1) pk_X6_errorOfEnding pv_X6_errorOfEnding wm_413 ⟨Nat.le_of_ble_eq_true rfl, Nat.le_of_ble_eq_true rfl⟩ ⟨rfl, rfl⟩ hP hS (ms hk 0) rfl rfl rfl rfl hl.1 (Nat.le_of_ble_eq_true rfl) ⟨Nat.zero_le _, Nat.zero_le _⟩ rfl dX6_settleGroup_3 (fun H locs hP hS => ?_)
  refine lv_istore_n (lv' := [(2, .int v1), (0, .ref (E.2.2 k 0)), (1, .int a1)]) hx hb dX6_settleGroup_6 rfl hl (by decide) rfl (fun ls hl => ?_)
  refine lv_iload_n hx hb dX6_settleGroup_7 rfl (lv_at hl 0 rfl) ?_
  refine lv_if_eq (tgt := 13) hx hb dX6_settleGroup_8 (by decide) (fun c2 => ?_) (fun c2 => ?_)
  · have h := br_1 h c2
    refine lv_aload_n hx hb dX6_settleGroup_13 rfl (lv_at hl 1 rfl) ?_
    refine gt_6_2 X wm_45 hP (ms hk 0) dX6_settleGroup_14 ?_
    refine lv_aload_n hx hb dX6_settleGroup_17 rfl (lv_at hl 1 rfl) ?_
    refine gt_6_2 X wm_45 hP (ms hk 0) dX6_settleGroup_18 ?_
    refine lv_iconst (v := 2) hx hb dX6_settleGroup_21 (by decide) ?_
    refine lv_iload_n hx hb dX6_settleGroup_22 rfl (lv_at hl 2 rfl) ?_
    refine lv_ldc hx hb X.1.2.2.2.1 (X.1.2.2.2.2 _ wm_321) dX6_settleGroup_23 ?_
    refine lv_iconst (v := 0) hx hb dX6_settleGroup_25 (by decide) ?_
    refine lv_iconst (v := 0) hx hb dX6_settleGroup_26 (by decide) ?_
    refine lv_iconst (v := 0) hx hb dX6_settleGroup_27 (by decide) ?_
    obtain ⟨v3, M4, hv3, h⟩ := bP_e h
    refine mw_callVi X (c_X2_append l E hA hk hv3) pk_X2_append pv_X2_append wm_322 ⟨Nat.le_of_ble_eq_true rfl, Nat.le_of_ble_eq_true rfl⟩ ⟨rfl, rfl⟩ hP hS (ms hk 11) rfl rfl rfl rfl hl.1 (Nat.le_of_ble_eq_true rfl) ⟨Nat.zero_le _, Nat.zero_le _⟩ rfl dX6_settleGroup_28 (fun H locs hP hS => ?_)
    obtain ⟨v5, M6, hv5, h⟩ := bP_e h
    refine mw_callVi X (c_X2_forceUpTo l E hA hk hv5) pk_X2_forceUpTo pv_X2_forceUpTo wm_417 ⟨Nat.le_of_ble_eq_true rfl, Nat.le_of_ble_eq_true rfl⟩ ⟨rfl, rfl⟩ hP hS (ms hk 11) rfl rfl rfl rfl hl.1 (Nat.le_of_ble_eq_true rfl) ⟨Nat.zero_le _, Nat.zero_le _⟩ rfl dX6_settleGroup_31 (fun H locs hP hS => ?_)
    refine lv_pop hx hb dX6_settleGroup_34 rfl ?_
    refine lv_aload_n hx hb dX6_settleGroup_35 rfl (lv_at hl 1 rfl) ?_
    refine gt_6_1 X wm_41 hP (ms hk 0) dX6_settleGroup_36 ?_
    refine lv_iload_n hx hb dX6_settleGroup_39 rfl (lv_at hl 2 rfl) ?_
    obtain ⟨M8, hv7, h⟩ := bO_e h
    refine mw_callVv X (c_X0_leave l E hA hk hv7) pk_X0_leave pv_X0_leave wm_326 ⟨Nat.le_of_ble_eq_true rfl, Nat.le_of_ble_eq_true rfl⟩ ⟨rfl, rfl⟩ hP hS (ms hk 7) rfl rfl rfl rfl hl.1 (Nat.le_of_ble_eq_true rfl) ⟨Nat.zero_le _, Nat.zero_le _⟩ rfl dX6_settleGroup_40 (fun H locs hP hS => ?_)
    refine lv_aload_n hx hb dX6_settleGroup_43 rfl (lv_at hl 1 rfl) ?_
    refine gt_6_1 X wm_41 hP (ms hk 0) dX6_settleGroup_44 ?_
    refine lv_iload_n hx hb dX6_settleGroup_47 rfl (lv_at hl 2 rfl) ?_
    obtain ⟨v9, hv9, h⟩ := bO_e h
    refine mw_callVi X (c_X0_heldBy l E hA hk hv9) pk_X0_heldBy pv_X0_heldBy wm_418 ⟨Nat.le_of_ble_eq_true rfl, Nat.le_of_ble_eq_true rfl⟩ ⟨rfl, rfl⟩ hP hS (ms hk 7) rfl rfl rfl rfl hl.1 (Nat.le_of_ble_eq_true rfl) ⟨Nat.zero_le _, Nat.zero_le _⟩ rfl dX6_settleGroup_48 (fun H locs hP hS => ?_)
    obtain ⟨v10, hv10, h⟩ := bO_e h
    refine mw_callSi X (c_J6_bitCount_0f7a4 l E hA hv10) pk_J6_bitCount_0f7a4 wm_420 wm_419 ⟨Nat.le_of_ble_eq_true rfl, Nat.le_of_ble_eq_true rfl⟩ ⟨rfl, rfl⟩ hP hS rfl hl.1 (Nat.le_of_ble_eq_true rfl) ⟨Nat.zero_le _, Nat.zero_le _⟩ rfl dX6_settleGroup_51 (fun H locs hP hS => ?_)
    have h := Option.some.inj h
    exact mw_iret X hr hlocks hP hS (congrArg Prod.fst h) (congrArg Prod.snd h) dX6_settleGroup_54
  · have h := br_0 h c2
    refine lv_iload_n hx hb dX6_settleGroup_11 rfl (lv_at hl 0 rfl) ?_
    have h := Option.some.inj h
    exact mw_iret X hr hlocks hP hS (congrArg Prod.fst h) (congrArg Prod.snd h) dX6_settleGroup_12
/-! SealedGroups$Store.takeWriteBack -/
noncomputable def f_X6_takeWriteBack (k : Nat) (M : Mem) (a1 : Int32) : Option Mem :=
bO (f_X2_at k 13 M a1) (fun v1 =>
bO (f_X2_at k 14 M a1) (fun v2 =>
bO (f_X2_at k 15 M a1) (fun v3 =>
bO (f_X4_valueOf k M v2) (fun v4 =>
bP (f_X2_append k M (3 : Int32) v1 v2 v4 v3 a1) (fun v5 M6 =>
bO (f_X4_put k M6 v2 v3 v5) (fun M8 =>
some M8))))))
theorem pk_X6_takeWriteBack : Pk "SealedGroups$Store" yX6_takeWriteBack cX6_takeWriteBack 6 none 1 := ⟨wm_337, wm_16, rfl, by decide +kernel⟩
theorem pv_X6_takeWriteBack : Cond.instanceMethod yX6_takeWriteBack ∈ wsL_law ∧ Cond.selects "SealedGroups$Store" yX6_takeWriteBack yX6_takeWriteBack ∈ wsL_law := ⟨wm_335, wm_336⟩
set_option maxHeartbeats 4000000 in
set_option maxRecDepth 100000 in
theorem c_X6_takeWriteBack (l : Launch) (E : En) (hA : AdOK E) {k : Nat} {M : Mem} {a1 : Int32} {M0 : Mem} (hk : k < 7) (h : f_X6_takeWriteBack k M a1 = some M0) : Met l yX6_takeWriteBack (Wm yX6_takeWriteBack cX6_takeWriteBack 6 none) ({ frames := 1, cells := 0, slots := 0, locals := 26 } : Room) (va_Pc [Value.ref (E.2.2 k 0), Value.int a1] (Wd E M)) (QV E M0) 0 0 (AA E) := by
  refine Met.ofW (cc := cX6_takeWriteBack) (maxL := 6) (ret := none) (by decide +kernel) rfl ?_
  intro p e s m args below meth c s₁ B hml hv
  obtain ⟨rfl, hP, hK⟩ := hv
  have X : Cx E (AA E) p s m c _ cX6_takeWriteBack 6 RX6 := ⟨⟨B.exec, B.bytes, hml, findClass_of_methodNamed B.named, fun w hw => atoms_spec (ws := Wm yX6_takeWriteBack cX6_takeWriteBack 6 none) B.pre w (List.mem_cons_of_mem _ hw)⟩, hK, hA, fun _ h => h⟩
  have hx := B.exec
  have hb := B.bytes
  have hr := B.returns
  have hlocks := B.notSynchronized
  clear B hml
  have hS : va_S (AA E) s.heap s.heap [] := va_S.rf
  have hl := lv_entry ([Value.ref (E.2.2 k 0), Value.int a1]) (n := 6) (Nat.le_of_ble_eq_true rfl)
  rw [lg_entry_eq]
  generalize (lg_sl ([Value.ref (E.2.2 k 0), Value.int a1]) ++ List.replicate (6 - (lg_sl ([Value.ref (E.2.2 k 0), Value.int a1])).length) Slot.unset).toArray = ls at hl ⊢
  have hl : lv_has ls 6 [(0, .ref (E.2.2 k 0)), (1, .int a1)] := hl
  unfold f_X6_takeWriteBack at h
  refine lv_aload_n hx hb dX6_takeWriteBack_0 rfl (lv_at hl 0 rfl) ?_
  refine gt_6_2 X wm_45 hP (ms hk 0) dX6_takeWriteBack_1 ?_
  refine lv_aload_n hx hb dX6_takeWriteBack_4 rfl (lv_at hl 0 rfl) ?_
  refine gt_6_2 X wm_45 hP (ms hk 0) dX6_takeWriteBack_5 ?_
  refine gn_2_1 X nf_13 hP (ms hk 11) dX6_takeWriteBack_8 ?_
  refine lv_iload_n hx hb dX6_takeWriteBack_11 rfl (lv_at hl 1 rfl) ?_
  obtain ⟨v1, hv1, h⟩ := bO_e h
  refine mw_callVi X (c_X2_at l E hA hk (by decide) hv1) pk_X2_at pv_X2_at wm_338 ⟨Nat.le_of_ble_eq_true rfl, Nat.le_of_ble_eq_true rfl⟩ ⟨rfl, rfl⟩ hP hS (ms hk 11) rfl rfl rfl rfl hl.1 (Nat.le_of_ble_eq_true rfl) ⟨Nat.zero_le _, Nat.zero_le _⟩ rfl dX6_takeWriteBack_12 (fun H locs hP hS => ?_)
  refine lv_istore_n (lv' := [(2, .int v1), (0, .ref (E.2.2 k 0)), (1, .int a1)]) hx hb dX6_takeWriteBack_15 rfl hl (by decide) rfl (fun ls hl => ?_)
  refine lv_aload_n hx hb dX6_takeWriteBack_16 rfl (lv_at hl 1 rfl) ?_
  refine gt_6_2 X wm_45 hP (ms hk 0) dX6_takeWriteBack_17 ?_
  refine lv_aload_n hx hb dX6_takeWriteBack_20 rfl (lv_at hl 1 rfl) ?_
  refine gt_6_2 X wm_45 hP (ms hk 0) dX6_takeWriteBack_21 ?_
  refine gn_2_2 X nf_15 hP (ms hk 11) dX6_takeWriteBack_24 ?_
  refine lv_iload_n hx hb dX6_takeWriteBack_27 rfl (lv_at hl 2 rfl) ?_
  obtain ⟨v2, hv2, h⟩ := bO_e h
  refine mw_callVi X (c_X2_at l E hA hk (by decide) hv2) pk_X2_at pv_X2_at wm_338 ⟨Nat.le_of_ble_eq_true rfl, Nat.le_of_ble_eq_true rfl⟩ ⟨rfl, rfl⟩ hP hS (ms hk 11) rfl rfl rfl rfl hl.1 (Nat.le_of_ble_eq_true rfl) ⟨Nat.zero_le _, Nat.zero_le _⟩ rfl dX6_takeWriteBack_28 (fun H locs hP hS => ?_)
  refine lv_istore_n (lv' := [(3, .int v2), (2, .int v1), (0, .ref (E.2.2 k 0)), (1, .int a1)]) hx hb dX6_takeWriteBack_31 rfl hl (by decide) rfl (fun ls hl => ?_)
  refine lv_aload_n hx hb dX6_takeWriteBack_32 rfl (lv_at hl 2 rfl) ?_
  refine gt_6_2 X wm_45 hP (ms hk 0) dX6_takeWriteBack_33 ?_
  refine lv_aload_n hx hb dX6_takeWriteBack_36 rfl (lv_at hl 2 rfl) ?_
  refine gt_6_2 X wm_45 hP (ms hk 0) dX6_takeWriteBack_37 ?_
  refine gn_2_3 X nf_17 hP (ms hk 11) dX6_takeWriteBack_40 ?_
  refine lv_iload_n hx hb dX6_takeWriteBack_43 rfl (lv_at hl 3 rfl) ?_
  obtain ⟨v3, hv3, h⟩ := bO_e h
  refine mw_callVi X (c_X2_at l E hA hk (by decide) hv3) pk_X2_at pv_X2_at wm_338 ⟨Nat.le_of_ble_eq_true rfl, Nat.le_of_ble_eq_true rfl⟩ ⟨rfl, rfl⟩ hP hS (ms hk 11) rfl rfl rfl rfl hl.1 (Nat.le_of_ble_eq_true rfl) ⟨Nat.zero_le _, Nat.zero_le _⟩ rfl dX6_takeWriteBack_44 (fun H locs hP hS => ?_)
  refine lv_istore (lv' := [(4, .int v3), (3, .int v2), (2, .int v1), (0, .ref (E.2.2 k 0)), (1, .int a1)]) hx hb dX6_takeWriteBack_47 hl (by decide) rfl (fun ls hl => ?_)
  refine lv_aload_n hx hb dX6_takeWriteBack_49 rfl (lv_at hl 3 rfl) ?_
  refine gt_6_0 X wm_37 hP (ms hk 0) dX6_takeWriteBack_50 ?_
  refine lv_iload_n hx hb dX6_takeWriteBack_53 rfl (lv_at hl 1 rfl) ?_
  obtain ⟨v4, hv4, h⟩ := bO_e h
  refine mw_callVi X (c_X4_valueOf l E hA hk hv4) pk_X4_valueOf pv_X4_valueOf wm_339 ⟨Nat.le_of_ble_eq_true rfl, Nat.le_of_ble_eq_true rfl⟩ ⟨rfl, rfl⟩ hP hS (ms hk 1) rfl rfl rfl rfl hl.1 (Nat.le_of_ble_eq_true rfl) ⟨Nat.zero_le _, Nat.zero_le _⟩ rfl dX6_takeWriteBack_54 (fun H locs hP hS => ?_)
  refine lv_istore (lv' := [(5, .int v4), (4, .int v3), (3, .int v2), (2, .int v1), (0, .ref (E.2.2 k 0)), (1, .int a1)]) hx hb dX6_takeWriteBack_57 hl (by decide) rfl (fun ls hl => ?_)
  refine lv_aload_n hx hb dX6_takeWriteBack_59 rfl (lv_at hl 4 rfl) ?_
  refine gt_6_0 X wm_37 hP (ms hk 0) dX6_takeWriteBack_60 ?_
  refine lv_iload_n hx hb dX6_takeWriteBack_63 rfl (lv_at hl 2 rfl) ?_
  refine lv_iload hx hb dX6_takeWriteBack_64 (lv_at hl 1 rfl) ?_
  refine lv_aload_n hx hb dX6_takeWriteBack_66 rfl (lv_at hl 4 rfl) ?_
  refine gt_6_2 X wm_45 hP (ms hk 0) dX6_takeWriteBack_67 ?_
  refine lv_iconst (v := 3) hx hb dX6_takeWriteBack_70 (by decide) ?_
  refine lv_iload_n hx hb dX6_takeWriteBack_71 rfl (lv_at hl 3 rfl) ?_
  refine lv_iload_n hx hb dX6_takeWriteBack_72 rfl (lv_at hl 2 rfl) ?_
  refine lv_iload hx hb dX6_takeWriteBack_73 (lv_at hl 0 rfl) ?_
  refine lv_iload hx hb dX6_takeWriteBack_75 (lv_at hl 1 rfl) ?_
  refine lv_iload_n hx hb dX6_takeWriteBack_77 rfl (lv_at hl 5 rfl) ?_
  obtain ⟨v5, M6, hv5, h⟩ := bP_e h
  refine mw_callVi X (c_X2_append l E hA hk hv5) pk_X2_append pv_X2_append wm_322 ⟨Nat.le_of_ble_eq_true rfl, Nat.le_of_ble_eq_true rfl⟩ ⟨rfl, rfl⟩ hP hS (ms hk 11) rfl rfl rfl rfl hl.1 (Nat.le_of_ble_eq_true rfl) ⟨Nat.zero_le _, Nat.zero_le _⟩ rfl dX6_takeWriteBack_78 (fun H locs hP hS => ?_)
  obtain ⟨M8, hv7, h⟩ := bO_e h
  refine mw_callVv X (c_X4_put l E hA hk hv7) pk_X4_put pv_X4_put wm_340 ⟨Nat.le_of_ble_eq_true rfl, Nat.le_of_ble_eq_true rfl⟩ ⟨rfl, rfl⟩ hP hS (ms hk 1) rfl rfl rfl rfl hl.1 (Nat.le_of_ble_eq_true rfl) ⟨Nat.zero_le _, Nat.zero_le _⟩ rfl dX6_takeWriteBack_81 (fun H locs hP hS => ?_)
  exact mw_vret X hr hlocks hP hS (Option.some.inj h) dX6_takeWriteBack_84
/-! SealedGroups$Store.endGroup -/
noncomputable def f_X6_endGroup (k : Nat) (M : Mem) (a1 : Int32) : Option Mem :=
bP (f_X2_append k M (4 : Int32) a1 (-1000004 : Int32) (0 : Int32) (0 : Int32) (0 : Int32)) (fun v1 M2 =>
bO (f_X0_leave k M2 a1) (fun M4 =>
some M4))
theorem pk_X6_endGroup : Pk "SealedGroups$Store" yX6_endGroup cX6_endGroup 2 none 1 := ⟨wm_320, wm_16, rfl, by decide +kernel⟩
theorem pv_X6_endGroup : Cond.instanceMethod yX6_endGroup ∈ wsL_law ∧ Cond.selects "SealedGroups$Store" yX6_endGroup yX6_endGroup ∈ wsL_law := ⟨wm_318, wm_319⟩
set_option maxHeartbeats 4000000 in
set_option maxRecDepth 100000 in
theorem c_X6_endGroup (l : Launch) (E : En) (hA : AdOK E) {k : Nat} {M : Mem} {a1 : Int32} {M0 : Mem} (hk : k < 7) (h : f_X6_endGroup k M a1 = some M0) : Met l yX6_endGroup (Wm yX6_endGroup cX6_endGroup 2 none) ({ frames := 1, cells := 0, slots := 0, locals := 26 } : Room) (va_Pc [Value.ref (E.2.2 k 0), Value.int a1] (Wd E M)) (QV E M0) 0 0 (AA E) := by
  refine Met.ofW (cc := cX6_endGroup) (maxL := 2) (ret := none) (by decide +kernel) rfl ?_
  intro p e s m args below meth c s₁ B hml hv
  obtain ⟨rfl, hP, hK⟩ := hv
  have X : Cx E (AA E) p s m c _ cX6_endGroup 2 RX6 := ⟨⟨B.exec, B.bytes, hml, findClass_of_methodNamed B.named, fun w hw => atoms_spec (ws := Wm yX6_endGroup cX6_endGroup 2 none) B.pre w (List.mem_cons_of_mem _ hw)⟩, hK, hA, fun _ h => h⟩
  have hx := B.exec
  have hb := B.bytes
  have hr := B.returns
  have hlocks := B.notSynchronized
  clear B hml
  have hS : va_S (AA E) s.heap s.heap [] := va_S.rf
  have hl := lv_entry ([Value.ref (E.2.2 k 0), Value.int a1]) (n := 2) (Nat.le_of_ble_eq_true rfl)
  rw [lg_entry_eq]
  generalize (lg_sl ([Value.ref (E.2.2 k 0), Value.int a1]) ++ List.replicate (2 - (lg_sl ([Value.ref (E.2.2 k 0), Value.int a1])).length) Slot.unset).toArray = ls at hl ⊢
  have hl : lv_has ls 2 [(0, .ref (E.2.2 k 0)), (1, .int a1)] := hl
  unfold f_X6_endGroup at h
  refine lv_aload_n hx hb dX6_endGroup_0 rfl (lv_at hl 0 rfl) ?_
  refine gt_6_2 X wm_45 hP (ms hk 0) dX6_endGroup_1 ?_
  refine lv_iconst (v := 4) hx hb dX6_endGroup_4 (by decide) ?_
  refine lv_iload_n hx hb dX6_endGroup_5 rfl (lv_at hl 1 rfl) ?_
  refine lv_ldc hx hb X.1.2.2.2.1 (X.1.2.2.2.2 _ wm_321) dX6_endGroup_6 ?_
  refine lv_iconst (v := 0) hx hb dX6_endGroup_8 (by decide) ?_
  refine lv_iconst (v := 0) hx hb dX6_endGroup_9 (by decide) ?_
  refine lv_iconst (v := 0) hx hb dX6_endGroup_10 (by decide) ?_
  obtain ⟨v1, M2, hv1, h⟩ := bP_e h
  refine mw_callVi X (c_X2_append l E hA hk hv1) pk_X2_append pv_X2_append wm_322 ⟨Nat.le_of_ble_eq_true rfl, Nat.le_of_ble_eq_true rfl⟩ ⟨rfl, rfl⟩ hP hS (ms hk 11) rfl rfl rfl rfl hl.1 (Nat.le_of_ble_eq_true rfl) ⟨Nat.zero_le _, Nat.zero_le _⟩ rfl dX6_endGroup_11 (fun H locs hP hS => ?_)
  refine lv_pop hx hb dX6_endGroup_14 rfl ?_
  refine lv_aload_n hx hb dX6_endGroup_15 rfl (lv_at hl 0 rfl) ?_
  refine gt_6_1 X wm_41 hP (ms hk 0) dX6_endGroup_16 ?_
  refine lv_iload_n hx hb dX6_endGroup_19 rfl (lv_at hl 1 rfl) ?_
  obtain ⟨M4, hv3, h⟩ := bO_e h
  refine mw_callVv X (c_X0_leave l E hA hk hv3) pk_X0_leave pv_X0_leave wm_326 ⟨Nat.le_of_ble_eq_true rfl, Nat.le_of_ble_eq_true rfl⟩ ⟨rfl, rfl⟩ hP hS (ms hk 7) rfl rfl rfl rfl hl.1 (Nat.le_of_ble_eq_true rfl) ⟨Nat.zero_le _, Nat.zero_le _⟩ rfl dX6_endGroup_20 (fun H locs hP hS => ?_)
  exact mw_vret X hr hlocks hP hS (Option.some.inj h) dX6_endGroup_23
/-! SealedGroups$Store.takeGroupBack -/
noncomputable def f_X6_takeGroupBack_L108 (k : Nat) (K43 : Mem → Int32 → Int32 → Int32 → Int32 → Option (Int32 × Mem)) (M : Mem) (y1 y2 y4 y5 : Int32) : Option (Int32 × Mem) :=
bd (y5 + (-1 : Int32)) (fun x12 =>
K43 M y1 y2 y4 x12)
noncomputable def f_X6_takeGroupBack_L75 (k : Nat) (K43 : Mem → Int32 → Int32 → Int32 → Int32 → Option (Int32 × Mem)) (M : Mem) (y1 y2 y4 y5 z0 : Int32) : Option (Int32 × Mem) :=
(if z0 = 0 then
f_X6_takeGroupBack_L108 k K43 M y1 y2 y4 y5
else
bO (f_X2_at k 12 M y5) (fun v13 =>
(if v13 = (1 : Int32) then
bO (f_X6_takeWriteBack k M y5) (fun M16 =>
f_X6_takeGroupBack_L108 k K43 M16 y1 y2 y4 y5)
else
f_X6_takeGroupBack_L108 k K43 M y1 y2 y4 y5)))
noncomputable def f_X6_takeGroupBack_L43 (k : Nat) (K43 : Mem → Int32 → Int32 → Int32 → Int32 → Option (Int32 × Mem)) (M : Mem) (y1 y2 y4 y5 : Int32) : Option (Int32 × Mem) :=
(if y5 ≤ y4 then
bO (f_X6_endGroup k M y1) (fun M8 =>
some (y2, M8))
else
bO (f_X2_at k 13 M y5) (fun v9 =>
(if v9 = y1 then
f_X6_takeGroupBack_L75 k K43 M y1 y2 y4 y5 (1 : Int32)
else
f_X6_takeGroupBack_L75 k K43 M y1 y2 y4 y5 (0 : Int32))))
noncomputable def f_X6_takeGroupBack (k : Nat) (M : Mem) (a1 : Int32) : Option (Int32 × Mem) :=
bO (f_X0_writesOf k M a1) (fun v1 =>
bO (f_X6_errorOfEnding k M a1 (v1 + (1 : Int32))) (fun v2 =>
(if v2 = 0 then
bO (f_X0_beginOf k M a1) (fun v4 =>
bO (f_X2_last k M) (fun v5 =>
itr (f_X6_takeGroupBack_L43 k) (fun _ _ _ _ _ => none) FU M a1 v1 v4 v5))
else
some (v2, M))))
theorem pk_X6_takeGroupBack : Pk "SealedGroups$Store" yX6_takeGroupBack cX6_takeGroupBack 7 (some .int) 1 := ⟨wm_433, wm_16, rfl, by decide +kernel⟩
theorem pv_X6_takeGroupBack : Cond.instanceMethod yX6_takeGroupBack ∈ wsL_law ∧ Cond.selects "SealedGroups$Store" yX6_takeGroupBack yX6_takeGroupBack ∈ wsL_law := ⟨wm_431, wm_432⟩
set_option maxHeartbeats 4000000 in
set_option maxRecDepth 100000 in
theorem c_X6_takeGroupBack (l : Launch) (E : En) (hA : AdOK E) {k : Nat} {M : Mem} {a1 : Int32} {r0 : Int32} {M0 : Mem} (hk : k < 7) (h : f_X6_takeGroupBack k M a1 = some (r0, M0)) : Met l yX6_takeGroupBack (Wm yX6_takeGroupBack cX6_takeGroupBack 7 (some .int)) ({ frames := 2, cells := 0, slots := 0, locals := 51 } : Room) (va_Pc [Value.ref (E.2.2 k 0), Value.int a1] (Wd E M)) (QI E r0 M0) 0 0 (AA E) := by
  refine Met.ofW (cc := cX6_takeGroupBack) (maxL := 7) (ret := (some .int)) (by decide +kernel) rfl ?_
  intro p e s m args below meth c s₁ B hml hv
  obtain ⟨rfl, hP, hK⟩ := hv
  have X : Cx E (AA E) p s m c _ cX6_takeGroupBack 7 RX6 := ⟨⟨B.exec, B.bytes, hml, findClass_of_methodNamed B.named, fun w hw => atoms_spec (ws := Wm yX6_takeGroupBack cX6_takeGroupBack 7 (some .int)) B.pre w (List.mem_cons_of_mem _ hw)⟩, hK, hA, fun _ h => h⟩
  have hx := B.exec
  have hb := B.bytes
  have hr := B.returns
  have hlocks := B.notSynchronized
  clear B hml
  have hS : va_S (AA E) s.heap s.heap [] := va_S.rf
  have hl := lv_entry ([Value.ref (E.2.2 k 0), Value.int a1]) (n := 7) (Nat.le_of_ble_eq_true rfl)
  rw [lg_entry_eq]
  generalize (lg_sl ([Value.ref (E.2.2 k 0), Value.int a1]) ++ List.replicate (7 - (lg_sl ([Value.ref (E.2.2 k 0), Value.int a1])).length) Slot.unset).toArray = ls at hl ⊢
  have hl : lv_has ls 7 [(0, .ref (E.2.2 k 0)), (1, .int a1)] := hl
  have w_L43 : ∀ (n43 : Nat) (M : Mem) (y1 y2 y4 y5 : Int32) (H : Heap) (locs : List Loc) (ls : Array Slot), itr (f_X6_takeGroupBack_L43 k) (fun _ _ _ _ _ => none) n43 M y1 y2 y4 y5 = some (r0, M0) → va_P E.1 vwCl (wl E M) H → va_S (AA E) s.heap H locs → lv_has ls 7 [(0, .ref (E.2.2 k 0)), (1, .int y1), (2, .int y2), (4, .int y4), (5, .int y5)] → W p l e (headSpec (Wm yX6_takeGroupBack cX6_takeGroupBack 7 (some .int)) ({ frames := 2, cells := 0, slots := 0, locals := 51 } : Room)).room s m ([Value.ref (E.2.2 k 0), Value.int a1] : List Value).toArray below meth c H locs 0 0 (MQ below (QI E r0 M0) ([Value.ref (E.2.2 k 0), Value.int a1] : List Value).toArray s 0 0 (AA E)) (F0 m 43 ls []) := by
    intro n43
    induction n43 with
    | zero => intro M y1 y2 y4 y5 H locs ls h; exact (nomatch (show (none : Option (Int32 × Mem)) = some _ from h))
    | succ n43 ih43 =>
      intro M y1 y2 y4 y5 H locs ls h hP hS hl
      have h : f_X6_takeGroupBack_L43 k (itr (f_X6_takeGroupBack_L43 k) (fun _ _ _ _ _ => none) n43) M y1 y2 y4 y5 = some (r0, M0) := h
      have w_L108 : ∀ (M : Mem) (y1 y2 y4 y5 : Int32) (H : Heap) (locs : List Loc) (ls : Array Slot), f_X6_takeGroupBack_L108 k (itr (f_X6_takeGroupBack_L43 k) (fun _ _ _ _ _ => none) n43) M y1 y2 y4 y5 = some (r0, M0) → va_P E.1 vwCl (wl E M) H → va_S (AA E) s.heap H locs → lv_has ls 7 [(0, .ref (E.2.2 k 0)), (1, .int y1), (2, .int y2), (4, .int y4), (5, .int y5)] → W p l e (headSpec (Wm yX6_takeGroupBack cX6_takeGroupBack 7 (some .int)) ({ frames := 2, cells := 0, slots := 0, locals := 51 } : Room)).room s m ([Value.ref (E.2.2 k 0), Value.int a1] : List Value).toArray below meth c H locs 0 0 (MQ below (QI E r0 M0) ([Value.ref (E.2.2 k 0), Value.int a1] : List Value).toArray s 0 0 (AA E)) (F0 m 108 ls []) := by
        intro M y1 y2 y4 y5 H locs ls h hP hS hl
        unfold f_X6_takeGroupBack_L108 at h
        obtain ⟨x12, ex12⟩ : ∃ y : Int32, y = y5 + (-1 : Int32) := ⟨_, rfl⟩
        have h := bd_e h ex12
        refine lv_iinc (v := x12) (lv' := [(5, .int x12), (0, .ref (E.2.2 k 0)), (1, .int y1), (2, .int y2), (4, .int y4)]) hx hb dX6_takeGroupBack_108 hl (k := 4) rfl (by rw [ex12]; rfl) (by decide) rfl (fun ls hl => ?_)
        refine lv_goto (tgt := 43) hx hb dX6_takeGroupBack_111 (by decide) ?_
        exact ih43 _ _ _ _ _ _ _ _ h hP hS (lv_sub hl [1, 2, 3, 4, 0] rfl)
      have w_L75 : ∀ (M : Mem) (y1 y2 y4 y5 z0 : Int32) (H : Heap) (locs : List Loc) (ls : Array Slot), f_X6_takeGroupBack_L75 k (itr (f_X6_takeGroupBack_L43 k) (fun _ _ _ _ _ => none) n43) M y1 y2 y4 y5 z0 = some (r0, M0) → va_P E.1 vwCl (wl E M) H → va_S (AA E) s.heap H locs → lv_has ls 7 [(0, .ref (E.2.2 k 0)), (1, .int y1), (2, .int y2), (4, .int y4), (5, .int y5)] → W p l e (headSpec (Wm yX6_takeGroupBack cX6_takeGroupBack 7 (some .int)) ({ frames := 2, cells := 0, slots := 0, locals := 51 } : Room)).room s m ([Value.ref (E.2.2 k 0), Value.int a1] : List Value).toArray below meth c H locs 0 0 (MQ below (QI E r0 M0) ([Value.ref (E.2.2 k 0), Value.int a1] : List Value).toArray s 0 0 (AA E)) (F0 m 75 ls [.int z0]) := by
        intro M y1 y2 y4 y5 z0 H locs ls h hP hS hl
        unfold f_X6_takeGroupBack_L75 at h
        refine lv_istore (lv' := [(6, .int z0), (0, .ref (E.2.2 k 0)), (1, .int y1), (2, .int y2), (4, .int y4), (5, .int y5)]) hx hb dX6_takeGroupBack_75 hl (by decide) rfl (fun ls hl => ?_)
        refine lv_iload hx hb dX6_takeGroupBack_77 (lv_at hl 0 rfl) ?_
        refine lv_if_eq (tgt := 108) hx hb dX6_takeGroupBack_79 (by decide) (fun c11 => ?_) (fun c11 => ?_)
        · have h := br_1 h c11
          exact w_L108 _ _ _ _ _ _ _ _ h hP hS (lv_sub hl [1, 2, 3, 4, 5] rfl)
        · have h := br_0 h c11
          refine lv_aload_n hx hb dX6_takeGroupBack_82 rfl (lv_at hl 1 rfl) ?_
          refine gt_6_2 X wm_45 hP (ms hk 0) dX6_takeGroupBack_83 ?_
          refine lv_aload_n hx hb dX6_takeGroupBack_86 rfl (lv_at hl 1 rfl) ?_
          refine gt_6_2 X wm_45 hP (ms hk 0) dX6_takeGroupBack_87 ?_
          refine gn_2_0 X nf_11 hP (ms hk 11) dX6_takeGroupBack_90 ?_
          refine lv_iload hx hb dX6_takeGroupBack_93 (lv_at hl 5 rfl) ?_
          obtain ⟨v13, hv13, h⟩ := bO_e h
          refine mw_callVi X (c_X2_at l E hA hk (by decide) hv13) pk_X2_at pv_X2_at wm_338 ⟨Nat.le_of_ble_eq_true rfl, Nat.le_of_ble_eq_true rfl⟩ ⟨rfl, rfl⟩ hP hS (ms hk 11) rfl rfl rfl rfl hl.1 (Nat.le_of_ble_eq_true rfl) ⟨Nat.zero_le _, Nat.zero_le _⟩ rfl dX6_takeGroupBack_95 (fun H locs hP hS => ?_)
          refine lv_iconst (v := 1) hx hb dX6_takeGroupBack_98 (by decide) ?_
          refine lv_icmp_ne (tgt := 108) hx hb dX6_takeGroupBack_99 (by decide) (fun c14 => ?_) (fun c14 => ?_)
          · have h := br_0 h c14
            exact w_L108 _ _ _ _ _ _ _ _ h hP hS (lv_sub hl [1, 2, 3, 4, 5] rfl)
          · have h := br_1 h c14
            refine lv_aload_n hx hb dX6_takeGroupBack_102 rfl (lv_at hl 1 rfl) ?_
            refine lv_iload hx hb dX6_takeGroupBack_103 (lv_at hl 5 rfl) ?_
            obtain ⟨M16, hv15, h⟩ := bO_e h
            refine mw_callVv X (c_X6_takeWriteBack l E hA hk hv15) pk_X6_takeWriteBack pv_X6_takeWriteBack wm_437 ⟨Nat.le_of_ble_eq_true rfl, Nat.le_of_ble_eq_true rfl⟩ ⟨rfl, rfl⟩ hP hS (ms hk 0) rfl rfl rfl rfl hl.1 (Nat.le_of_ble_eq_true rfl) ⟨Nat.zero_le _, Nat.zero_le _⟩ rfl dX6_takeGroupBack_105 (fun H locs hP hS => ?_)
            exact w_L108 _ _ _ _ _ _ _ _ h hP hS (lv_sub hl [1, 2, 3, 4, 5] rfl)
      unfold f_X6_takeGroupBack_L43 at h
      refine lv_iload hx hb dX6_takeGroupBack_43 (lv_at hl 4 rfl) ?_
      refine lv_iload hx hb dX6_takeGroupBack_45 (lv_at hl 3 rfl) ?_
      refine lv_icmp_le (tgt := 114) hx hb dX6_takeGroupBack_47 (by decide) (fun c6 => ?_) (fun c6 => ?_)
      · have h := br_1 h c6
        refine lv_aload_n hx hb dX6_takeGroupBack_114 rfl (lv_at hl 0 rfl) ?_
        refine lv_iload_n hx hb dX6_takeGroupBack_115 rfl (lv_at hl 1 rfl) ?_
        obtain ⟨M8, hv7, h⟩ := bO_e h
        refine mw_callVv X (c_X6_endGroup l E hA hk hv7) pk_X6_endGroup pv_X6_endGroup wm_438 ⟨Nat.le_of_ble_eq_true rfl, Nat.le_of_ble_eq_true rfl⟩ ⟨rfl, rfl⟩ hP hS (ms hk 0) rfl rfl rfl rfl hl.1 (Nat.le_of_ble_eq_true rfl) ⟨Nat.zero_le _, Nat.zero_le _⟩ rfl dX6_takeGroupBack_116 (fun H locs hP hS => ?_)
        refine lv_iload_n hx hb dX6_takeGroupBack_119 rfl (lv_at hl 2 rfl) ?_
        have h := Option.some.inj h
        exact mw_iret X hr hlocks hP hS (congrArg Prod.fst h) (congrArg Prod.snd h) dX6_takeGroupBack_120
      · have h := br_0 h c6
        refine lv_aload_n hx hb dX6_takeGroupBack_50 rfl (lv_at hl 0 rfl) ?_
        refine gt_6_2 X wm_45 hP (ms hk 0) dX6_takeGroupBack_51 ?_
        refine lv_aload_n hx hb dX6_takeGroupBack_54 rfl (lv_at hl 0 rfl) ?_
        refine gt_6_2 X wm_45 hP (ms hk 0) dX6_takeGroupBack_55 ?_
        refine gn_2_1 X nf_13 hP (ms hk 11) dX6_takeGroupBack_58 ?_
        refine lv_iload hx hb dX6_takeGroupBack_61 (lv_at hl 4 rfl) ?_
        obtain ⟨v9, hv9, h⟩ := bO_e h
        refine mw_callVi X (c_X2_at l E hA hk (by decide) hv9) pk_X2_at pv_X2_at wm_338 ⟨Nat.le_of_ble_eq_true rfl, Nat.le_of_ble_eq_true rfl⟩ ⟨rfl, rfl⟩ hP hS (ms hk 11) rfl rfl rfl rfl hl.1 (Nat.le_of_ble_eq_true rfl) ⟨Nat.zero_le _, Nat.zero_le _⟩ rfl dX6_takeGroupBack_63 (fun H locs hP hS => ?_)
        refine lv_iload_n hx hb dX6_takeGroupBack_66 rfl (lv_at hl 1 rfl) ?_
        refine lv_icmp_ne (tgt := 74) hx hb dX6_takeGroupBack_67 (by decide) (fun c10 => ?_) (fun c10 => ?_)
        · have h := br_0 h c10
          refine lv_iconst (v := 0) hx hb dX6_takeGroupBack_74 (by decide) ?_
          exact w_L75 _ _ _ _ _ _ _ _ _ h hP hS (lv_sub hl [0, 1, 2, 3, 4] rfl)
        · have h := br_1 h c10
          refine lv_iconst (v := 1) hx hb dX6_takeGroupBack_70 (by decide) ?_
          refine lv_goto (tgt := 75) hx hb dX6_takeGroupBack_71 (by decide) ?_
          exact w_L75 _ _ _ _ _ _ _ _ _ h hP hS (lv_sub hl [0, 1, 2, 3, 4] rfl)
  unfold f_X6_takeGroupBack at h
  refine lv_aload_n hx hb dX6_takeGroupBack_0 rfl (lv_at hl 0 rfl) ?_
  refine gt_6_1 X wm_41 hP (ms hk 0) dX6_takeGroupBack_1 ?_
  refine lv_iload_n hx hb dX6_takeGroupBack_4 rfl (lv_at hl 1 rfl) ?_
  obtain ⟨v1, hv1, h⟩ := bO_e h
  refine mw_callVi X (c_X0_writesOf l E hA hk hv1) pk_X0_writesOf pv_X0_writesOf wm_434 ⟨Nat.le_of_ble_eq_true rfl, Nat.le_of_ble_eq_true rfl⟩ ⟨rfl, rfl⟩ hP hS (ms hk 7) rfl rfl rfl rfl hl.1 (Nat.le_of_ble_eq_true rfl) ⟨Nat.zero_le _, Nat.zero_le _⟩ rfl dX6_takeGroupBack_5 (fun H locs hP hS => ?_)
  refine lv_istore_n (lv' := [(2, .int v1), (0, .ref (E.2.2 k 0)), (1, .int a1)]) hx hb dX6_takeGroupBack_8 rfl hl (by decide) rfl (fun ls hl => ?_)
  refine lv_aload_n hx hb dX6_takeGroupBack_9 rfl (lv_at hl 1 rfl) ?_
  refine lv_iload_n hx hb dX6_takeGroupBack_10 rfl (lv_at hl 2 rfl) ?_
  refine lv_iload_n hx hb dX6_takeGroupBack_11 rfl (lv_at hl 0 rfl) ?_
  refine lv_iconst (v := 1) hx hb dX6_takeGroupBack_12 (by decide) ?_
  refine lv_iadd hx hb dX6_takeGroupBack_13 ?_
  obtain ⟨v2, hv2, h⟩ := bO_e h
  refine mw_callVi X (c_X6_errorOfEnding l E hA hk hv2) pk_X6_errorOfEnding pv_X6_errorOfEnding wm_413 ⟨Nat.le_of_ble_eq_true rfl, Nat.le_of_ble_eq_true rfl⟩ ⟨rfl, rfl⟩ hP hS (ms hk 0) rfl rfl rfl rfl hl.1 (Nat.le_of_ble_eq_true rfl) ⟨Nat.zero_le _, Nat.zero_le _⟩ rfl dX6_takeGroupBack_14 (fun H locs hP hS => ?_)
  refine lv_istore_n (lv' := [(3, .int v2), (2, .int v1), (0, .ref (E.2.2 k 0)), (1, .int a1)]) hx hb dX6_takeGroupBack_17 rfl hl (by decide) rfl (fun ls hl => ?_)
  refine lv_iload_n hx hb dX6_takeGroupBack_18 rfl (lv_at hl 0 rfl) ?_
  refine lv_if_eq (tgt := 24) hx hb dX6_takeGroupBack_19 (by decide) (fun c3 => ?_) (fun c3 => ?_)
  · have h := br_1 h c3
    refine lv_aload_n hx hb dX6_takeGroupBack_24 rfl (lv_at hl 2 rfl) ?_
    refine gt_6_1 X wm_41 hP (ms hk 0) dX6_takeGroupBack_25 ?_
    refine lv_iload_n hx hb dX6_takeGroupBack_28 rfl (lv_at hl 3 rfl) ?_
    obtain ⟨v4, hv4, h⟩ := bO_e h
    refine mw_callVi X (c_X0_beginOf l E hA hk hv4) pk_X0_beginOf pv_X0_beginOf wm_435 ⟨Nat.le_of_ble_eq_true rfl, Nat.le_of_ble_eq_true rfl⟩ ⟨rfl, rfl⟩ hP hS (ms hk 7) rfl rfl rfl rfl hl.1 (Nat.le_of_ble_eq_true rfl) ⟨Nat.zero_le _, Nat.zero_le _⟩ rfl dX6_takeGroupBack_29 (fun H locs hP hS => ?_)
    refine lv_istore (lv' := [(4, .int v4), (3, .int v2), (2, .int v1), (0, .ref (E.2.2 k 0)), (1, .int a1)]) hx hb dX6_takeGroupBack_32 hl (by decide) rfl (fun ls hl => ?_)
    refine lv_aload_n hx hb dX6_takeGroupBack_34 rfl (lv_at hl 3 rfl) ?_
    refine gt_6_2 X wm_45 hP (ms hk 0) dX6_takeGroupBack_35 ?_
    obtain ⟨v5, hv5, h⟩ := bO_e h
    refine mw_callVi X (c_X2_last l E hA hk hv5) pk_X2_last pv_X2_last wm_436 ⟨Nat.le_of_ble_eq_true rfl, Nat.le_of_ble_eq_true rfl⟩ ⟨rfl, rfl⟩ hP hS (ms hk 11) rfl rfl rfl rfl hl.1 (Nat.le_of_ble_eq_true rfl) ⟨Nat.zero_le _, Nat.zero_le _⟩ rfl dX6_takeGroupBack_38 (fun H locs hP hS => ?_)
    refine lv_istore (lv' := [(5, .int v5), (4, .int v4), (3, .int v2), (2, .int v1), (0, .ref (E.2.2 k 0)), (1, .int a1)]) hx hb dX6_takeGroupBack_41 hl (by decide) rfl (fun ls hl => ?_)
    exact w_L43 FU _ _ _ _ _ _ _ _ h hP hS (lv_sub hl [4, 5, 3, 1, 0] rfl)
  · have h := br_0 h c3
    refine lv_iload_n hx hb dX6_takeGroupBack_22 rfl (lv_at hl 0 rfl) ?_
    have h := Option.some.inj h
    exact mw_iret X hr hlocks hP hS (congrArg Prod.fst h) (congrArg Prod.snd h) dX6_takeGroupBack_23
/-! SealedGroups$Store.writePageOut -/
noncomputable def f_X6_writePageOut (k : Nat) (M : Mem) (a1 : Int32) : Option (Int32 × Mem) :=
(if a1 < 0 then
some ((-1000001 : Int32), M)
else
(if a1 < (8 : Int32) then
(if (M k 0 3) = 0 then
(if (((M k 1 6) >>> (a1 &&& 31)) &&& (1 : Int32)) = 0 then
some ((-1000002 : Int32), M)
else
bO (f_X4_markOf k M a1) (fun v5 =>
bP (f_X2_forceUpTo k M v5) (fun v6 M7 =>
bO (f_X4_toDisk k M7 a1) (fun M9 =>
some (v6, M9)))))
else
some ((-1000002 : Int32), M))
else
some ((-1000001 : Int32), M)))
theorem pk_X6_writePageOut : Pk "SealedGroups$Store" yX6_writePageOut cX6_writePageOut 3 (some .int) 1 := ⟨wm_446, wm_16, rfl, by decide +kernel⟩
theorem pv_X6_writePageOut : Cond.instanceMethod yX6_writePageOut ∈ wsL_law ∧ Cond.selects "SealedGroups$Store" yX6_writePageOut yX6_writePageOut ∈ wsL_law := ⟨wm_444, wm_445⟩
set_option maxHeartbeats 4000000 in
set_option maxRecDepth 100000 in
theorem c_X6_writePageOut (l : Launch) (E : En) (hA : AdOK E) {k : Nat} {M : Mem} {a1 : Int32} {r0 : Int32} {M0 : Mem} (hk : k < 7) (h : f_X6_writePageOut k M a1 = some (r0, M0)) : Met l yX6_writePageOut (Wm yX6_writePageOut cX6_writePageOut 3 (some .int)) ({ frames := 2, cells := 0, slots := 0, locals := 43 } : Room) (va_Pc [Value.ref (E.2.2 k 0), Value.int a1] (Wd E M)) (QI E r0 M0) 0 0 (AA E) := by
  refine Met.ofW (cc := cX6_writePageOut) (maxL := 3) (ret := (some .int)) (by decide +kernel) rfl ?_
  intro p e s m args below meth c s₁ B hml hv
  obtain ⟨rfl, hP, hK⟩ := hv
  have X : Cx E (AA E) p s m c _ cX6_writePageOut 3 RX6 := ⟨⟨B.exec, B.bytes, hml, findClass_of_methodNamed B.named, fun w hw => atoms_spec (ws := Wm yX6_writePageOut cX6_writePageOut 3 (some .int)) B.pre w (List.mem_cons_of_mem _ hw)⟩, hK, hA, fun _ h => h⟩
  have hx := B.exec
  have hb := B.bytes
  have hr := B.returns
  have hlocks := B.notSynchronized
  clear B hml
  have hS : va_S (AA E) s.heap s.heap [] := va_S.rf
  have hl := lv_entry ([Value.ref (E.2.2 k 0), Value.int a1]) (n := 3) (Nat.le_of_ble_eq_true rfl)
  rw [lg_entry_eq]
  generalize (lg_sl ([Value.ref (E.2.2 k 0), Value.int a1]) ++ List.replicate (3 - (lg_sl ([Value.ref (E.2.2 k 0), Value.int a1])).length) Slot.unset).toArray = ls at hl ⊢
  have hl : lv_has ls 3 [(0, .ref (E.2.2 k 0)), (1, .int a1)] := hl
  unfold f_X6_writePageOut at h
  refine lv_iload_n hx hb dX6_writePageOut_0 rfl (lv_at hl 1 rfl) ?_
  refine lv_if_lt (tgt := 10) hx hb dX6_writePageOut_1 (by decide) (fun c1 => ?_) (fun c1 => ?_)
  · have h := br_1 h c1
    refine lv_ldc hx hb X.1.2.2.2.1 (X.1.2.2.2.2 _ wm_381) dX6_writePageOut_10 ?_
    have h := Option.some.inj h
    exact mw_iret X hr hlocks hP hS (congrArg Prod.fst h) (congrArg Prod.snd h) dX6_writePageOut_12
  · have h := br_0 h c1
    refine lv_iload_n hx hb dX6_writePageOut_4 rfl (lv_at hl 1 rfl) ?_
    refine lv_bipush (v := 8) hx hb dX6_writePageOut_5 (by decide) ?_
    refine lv_icmp_lt (tgt := 13) hx hb dX6_writePageOut_7 (by decide) (fun c2 => ?_) (fun c2 => ?_)
    · have h := br_1 h c2
      refine lv_aload_n hx hb dX6_writePageOut_13 rfl (lv_at hl 0 rfl) ?_
      refine gt_6_3 X wm_251 hP (ms hk 0) dX6_writePageOut_14 ?_
      refine lv_if_ne (tgt := 34) hx hb dX6_writePageOut_17 (by decide) (fun c3 => ?_) (fun c3 => ?_)
      · have h := br_0 h c3
        refine lv_ldc hx hb X.1.2.2.2.1 (X.1.2.2.2.2 _ wm_357) dX6_writePageOut_34 ?_
        have h := Option.some.inj h
        exact mw_iret X hr hlocks hP hS (congrArg Prod.fst h) (congrArg Prod.snd h) dX6_writePageOut_36
      · have h := br_1 h c3
        refine lv_aload_n hx hb dX6_writePageOut_20 rfl (lv_at hl 0 rfl) ?_
        refine gt_6_0 X wm_37 hP (ms hk 0) dX6_writePageOut_21 ?_
        refine gn_4_6 X nf_4 hP (ms hk 1) dX6_writePageOut_24 ?_
        refine lv_iload_n hx hb dX6_writePageOut_27 rfl (lv_at hl 1 rfl) ?_
        refine lv_ishr hx hb dX6_writePageOut_28 ?_
        refine lv_iconst (v := 1) hx hb dX6_writePageOut_29 (by decide) ?_
        refine lv_iand hx hb dX6_writePageOut_30 ?_
        refine lv_if_ne (tgt := 37) hx hb dX6_writePageOut_31 (by decide) (fun c4 => ?_) (fun c4 => ?_)
        · have h := br_0 h c4
          refine lv_aload_n hx hb dX6_writePageOut_37 rfl (lv_at hl 0 rfl) ?_
          refine gt_6_2 X wm_45 hP (ms hk 0) dX6_writePageOut_38 ?_
          refine lv_aload_n hx hb dX6_writePageOut_41 rfl (lv_at hl 0 rfl) ?_
          refine gt_6_0 X wm_37 hP (ms hk 0) dX6_writePageOut_42 ?_
          refine lv_iload_n hx hb dX6_writePageOut_45 rfl (lv_at hl 1 rfl) ?_
          obtain ⟨v5, hv5, h⟩ := bO_e h
          refine mw_callVi X (c_X4_markOf l E hA hk hv5) pk_X4_markOf pv_X4_markOf wm_447 ⟨Nat.le_of_ble_eq_true rfl, Nat.le_of_ble_eq_true rfl⟩ ⟨rfl, rfl⟩ hP hS (ms hk 1) rfl rfl rfl rfl hl.1 (Nat.le_of_ble_eq_true rfl) ⟨Nat.zero_le _, Nat.zero_le _⟩ rfl dX6_writePageOut_46 (fun H locs hP hS => ?_)
          obtain ⟨v6, M7, hv6, h⟩ := bP_e h
          refine mw_callVi X (c_X2_forceUpTo l E hA hk hv6) pk_X2_forceUpTo pv_X2_forceUpTo wm_417 ⟨Nat.le_of_ble_eq_true rfl, Nat.le_of_ble_eq_true rfl⟩ ⟨rfl, rfl⟩ hP hS (ms hk 11) rfl rfl rfl rfl hl.1 (Nat.le_of_ble_eq_true rfl) ⟨Nat.zero_le _, Nat.zero_le _⟩ rfl dX6_writePageOut_49 (fun H locs hP hS => ?_)
          refine lv_istore_n (lv' := [(2, .int v6), (0, .ref (E.2.2 k 0)), (1, .int a1)]) hx hb dX6_writePageOut_52 rfl hl (by decide) rfl (fun ls hl => ?_)
          refine lv_aload_n hx hb dX6_writePageOut_53 rfl (lv_at hl 1 rfl) ?_
          refine gt_6_0 X wm_37 hP (ms hk 0) dX6_writePageOut_54 ?_
          refine lv_iload_n hx hb dX6_writePageOut_57 rfl (lv_at hl 2 rfl) ?_
          obtain ⟨M9, hv8, h⟩ := bO_e h
          refine mw_callVv X (c_X4_toDisk l E hA hk hv8) pk_X4_toDisk pv_X4_toDisk wm_448 ⟨Nat.le_of_ble_eq_true rfl, Nat.le_of_ble_eq_true rfl⟩ ⟨rfl, rfl⟩ hP hS (ms hk 1) rfl rfl rfl rfl hl.1 (Nat.le_of_ble_eq_true rfl) ⟨Nat.zero_le _, Nat.zero_le _⟩ rfl dX6_writePageOut_58 (fun H locs hP hS => ?_)
          refine lv_iload_n hx hb dX6_writePageOut_61 rfl (lv_at hl 0 rfl) ?_
          have h := Option.some.inj h
          exact mw_iret X hr hlocks hP hS (congrArg Prod.fst h) (congrArg Prod.snd h) dX6_writePageOut_62
        · have h := br_1 h c4
          refine lv_ldc hx hb X.1.2.2.2.1 (X.1.2.2.2.2 _ wm_357) dX6_writePageOut_34 ?_
          have h := Option.some.inj h
          exact mw_iret X hr hlocks hP hS (congrArg Prod.fst h) (congrArg Prod.snd h) dX6_writePageOut_36
    · have h := br_0 h c2
      refine lv_ldc hx hb X.1.2.2.2.1 (X.1.2.2.2.2 _ wm_381) dX6_writePageOut_10 ?_
      have h := Option.some.inj h
      exact mw_iret X hr hlocks hP hS (congrArg Prod.fst h) (congrArg Prod.snd h) dX6_writePageOut_12
/-! SealedGroups$Store.dropPageOut -/
noncomputable def f_X6_dropPageOut (k : Nat) (M : Mem) (a1 : Int32) : Option (Int32 × Mem) :=
(if a1 < 0 then
some ((-1000001 : Int32), M)
else
(if a1 < (8 : Int32) then
bd (((M k 1 5) &&& ((M k 1 6) ^^^ (-1 : Int32)))) (fun x3 =>
(if (M k 0 3) = 0 then
(if ((x3 >>> (a1 &&& 31)) &&& (1 : Int32)) = 0 then
some ((-1000002 : Int32), M)
else
bd (st M k 1 5 ((M k 1 5) &&& (((1 : Int32) <<< (a1 &&& 31)) ^^^ (-1 : Int32)))) (fun M6 =>
bO (f_J6_bitCount_0f7a4 M6 (M6 k 1 5)) (fun v7 =>
some (v7, M6))))
else
some ((-1000002 : Int32), M)))
else
some ((-1000001 : Int32), M)))
theorem pk_X6_dropPageOut : Pk "SealedGroups$Store" yX6_dropPageOut cX6_dropPageOut 3 (some .int) 1 := ⟨wm_459, wm_16, rfl, by decide +kernel⟩
theorem pv_X6_dropPageOut : Cond.instanceMethod yX6_dropPageOut ∈ wsL_law ∧ Cond.selects "SealedGroups$Store" yX6_dropPageOut yX6_dropPageOut ∈ wsL_law := ⟨wm_457, wm_458⟩
set_option maxHeartbeats 4000000 in
set_option maxRecDepth 100000 in
theorem c_X6_dropPageOut (l : Launch) (E : En) (hA : AdOK E) {k : Nat} {M : Mem} {a1 : Int32} {r0 : Int32} {M0 : Mem} (hk : k < 7) (h : f_X6_dropPageOut k M a1 = some (r0, M0)) : Met l yX6_dropPageOut (Wm yX6_dropPageOut cX6_dropPageOut 3 (some .int)) ({ frames := 1, cells := 0, slots := 0, locals := 20 } : Room) (va_Pc [Value.ref (E.2.2 k 0), Value.int a1] (Wd E M)) (QI E r0 M0) 0 0 (AA E) := by
  refine Met.ofW (cc := cX6_dropPageOut) (maxL := 3) (ret := (some .int)) (by decide +kernel) rfl ?_
  intro p e s m args below meth c s₁ B hml hv
  obtain ⟨rfl, hP, hK⟩ := hv
  have X : Cx E (AA E) p s m c _ cX6_dropPageOut 3 RX6 := ⟨⟨B.exec, B.bytes, hml, findClass_of_methodNamed B.named, fun w hw => atoms_spec (ws := Wm yX6_dropPageOut cX6_dropPageOut 3 (some .int)) B.pre w (List.mem_cons_of_mem _ hw)⟩, hK, hA, fun _ h => h⟩
  have hx := B.exec
  have hb := B.bytes
  have hr := B.returns
  have hlocks := B.notSynchronized
  clear B hml
  have hS : va_S (AA E) s.heap s.heap [] := va_S.rf
  have hl := lv_entry ([Value.ref (E.2.2 k 0), Value.int a1]) (n := 3) (Nat.le_of_ble_eq_true rfl)
  rw [lg_entry_eq]
  generalize (lg_sl ([Value.ref (E.2.2 k 0), Value.int a1]) ++ List.replicate (3 - (lg_sl ([Value.ref (E.2.2 k 0), Value.int a1])).length) Slot.unset).toArray = ls at hl ⊢
  have hl : lv_has ls 3 [(0, .ref (E.2.2 k 0)), (1, .int a1)] := hl
  unfold f_X6_dropPageOut at h
  refine lv_iload_n hx hb dX6_dropPageOut_0 rfl (lv_at hl 1 rfl) ?_
  refine lv_if_lt (tgt := 10) hx hb dX6_dropPageOut_1 (by decide) (fun c1 => ?_) (fun c1 => ?_)
  · have h := br_1 h c1
    refine lv_ldc hx hb X.1.2.2.2.1 (X.1.2.2.2.2 _ wm_381) dX6_dropPageOut_10 ?_
    have h := Option.some.inj h
    exact mw_iret X hr hlocks hP hS (congrArg Prod.fst h) (congrArg Prod.snd h) dX6_dropPageOut_12
  · have h := br_0 h c1
    refine lv_iload_n hx hb dX6_dropPageOut_4 rfl (lv_at hl 1 rfl) ?_
    refine lv_bipush (v := 8) hx hb dX6_dropPageOut_5 (by decide) ?_
    refine lv_icmp_lt (tgt := 13) hx hb dX6_dropPageOut_7 (by decide) (fun c2 => ?_) (fun c2 => ?_)
    · have h := br_1 h c2
      refine lv_aload_n hx hb dX6_dropPageOut_13 rfl (lv_at hl 0 rfl) ?_
      refine gt_6_0 X wm_37 hP (ms hk 0) dX6_dropPageOut_14 ?_
      refine gn_4_5 X nf_1 hP (ms hk 1) dX6_dropPageOut_17 ?_
      refine lv_aload_n hx hb dX6_dropPageOut_20 rfl (lv_at hl 0 rfl) ?_
      refine gt_6_0 X wm_37 hP (ms hk 0) dX6_dropPageOut_21 ?_
      refine gn_4_6 X nf_4 hP (ms hk 1) dX6_dropPageOut_24 ?_
      refine lv_iconst (v := -1) hx hb dX6_dropPageOut_27 (by decide) ?_
      refine lv_ixor hx hb dX6_dropPageOut_28 ?_
      refine lv_iand hx hb dX6_dropPageOut_29 ?_
      refine lv_topi (fun x3 ex3 => ?_)
      have h := bd_e h ex3
      refine lv_istore_n (lv' := [(2, .int x3), (0, .ref (E.2.2 k 0)), (1, .int a1)]) hx hb dX6_dropPageOut_30 rfl hl (by decide) rfl (fun ls hl => ?_)
      refine lv_aload_n hx hb dX6_dropPageOut_31 rfl (lv_at hl 1 rfl) ?_
      refine gt_6_3 X wm_251 hP (ms hk 0) dX6_dropPageOut_32 ?_
      refine lv_if_ne (tgt := 46) hx hb dX6_dropPageOut_35 (by decide) (fun c4 => ?_) (fun c4 => ?_)
      · have h := br_0 h c4
        refine lv_ldc hx hb X.1.2.2.2.1 (X.1.2.2.2.2 _ wm_357) dX6_dropPageOut_46 ?_
        have h := Option.some.inj h
        exact mw_iret X hr hlocks hP hS (congrArg Prod.fst h) (congrArg Prod.snd h) dX6_dropPageOut_48
      · have h := br_1 h c4
        refine lv_iload_n hx hb dX6_dropPageOut_38 rfl (lv_at hl 0 rfl) ?_
        refine lv_iload_n hx hb dX6_dropPageOut_39 rfl (lv_at hl 2 rfl) ?_
        refine lv_ishr hx hb dX6_dropPageOut_40 ?_
        refine lv_iconst (v := 1) hx hb dX6_dropPageOut_41 (by decide) ?_
        refine lv_iand hx hb dX6_dropPageOut_42 ?_
        refine lv_if_ne (tgt := 49) hx hb dX6_dropPageOut_43 (by decide) (fun c5 => ?_) (fun c5 => ?_)
        · have h := br_0 h c5
          refine lv_aload_n hx hb dX6_dropPageOut_49 rfl (lv_at hl 1 rfl) ?_
          refine gt_6_0 X wm_37 hP (ms hk 0) dX6_dropPageOut_50 ?_
          refine lv_dup hx hb dX6_dropPageOut_53 rfl ?_
          refine gn_4_5 X nf_1 hP (ms hk 1) dX6_dropPageOut_54 ?_
          refine lv_iconst (v := 1) hx hb dX6_dropPageOut_57 (by decide) ?_
          refine lv_iload_n hx hb dX6_dropPageOut_58 rfl (lv_at hl 2 rfl) ?_
          refine lv_ishl hx hb dX6_dropPageOut_59 ?_
          refine lv_iconst (v := -1) hx hb dX6_dropPageOut_60 (by decide) ?_
          refine lv_ixor hx hb dX6_dropPageOut_61 ?_
          refine lv_iand hx hb dX6_dropPageOut_62 ?_
          refine pn_4_5 X nf_1 hP hS (ms hk 1) dX6_dropPageOut_63 (fun H locs M6 eM6 hP hS => ?_)
          have h := bd_e h eM6
          refine lv_aload_n hx hb dX6_dropPageOut_66 rfl (lv_at hl 1 rfl) ?_
          refine gt_6_0 X wm_37 hP (ms hk 0) dX6_dropPageOut_67 ?_
          refine gn_4_5 X nf_1 hP (ms hk 1) dX6_dropPageOut_70 ?_
          obtain ⟨v7, hv7, h⟩ := bO_e h
          refine mw_callSi X (c_J6_bitCount_0f7a4 l E hA hv7) pk_J6_bitCount_0f7a4 wm_420 wm_419 ⟨Nat.le_of_ble_eq_true rfl, Nat.le_of_ble_eq_true rfl⟩ ⟨rfl, rfl⟩ hP hS rfl hl.1 (Nat.le_of_ble_eq_true rfl) ⟨Nat.zero_le _, Nat.zero_le _⟩ rfl dX6_dropPageOut_73 (fun H locs hP hS => ?_)
          have h := Option.some.inj h
          exact mw_iret X hr hlocks hP hS (congrArg Prod.fst h) (congrArg Prod.snd h) dX6_dropPageOut_76
        · have h := br_1 h c5
          refine lv_ldc hx hb X.1.2.2.2.1 (X.1.2.2.2.2 _ wm_357) dX6_dropPageOut_46 ?_
          have h := Option.some.inj h
          exact mw_iret X hr hlocks hP hS (congrArg Prod.fst h) (congrArg Prod.snd h) dX6_dropPageOut_48
    · have h := br_0 h c2
      refine lv_ldc hx hb X.1.2.2.2.1 (X.1.2.2.2.2 _ wm_381) dX6_dropPageOut_10 ?_
      have h := Option.some.inj h
      exact mw_iret X hr hlocks hP hS (congrArg Prod.fst h) (congrArg Prod.snd h) dX6_dropPageOut_12
/-! SealedGroups$Store.makeCheckpoint -/
noncomputable def f_X6_makeCheckpoint (k : Nat) (M : Mem) : Option (Int32 × Mem) :=
(if (M k 0 3) = 0 then
bO (f_X2_isFull k M) (fun v2 =>
(if v2 = 0 then
bP (f_X2_appendCheckpoint k M) (fun v4 M5 =>
some (v4, M5))
else
some ((-1000003 : Int32), M)))
else
some ((-1000002 : Int32), M))
theorem pk_X6_makeCheckpoint : Pk "SealedGroups$Store" yX6_makeCheckpoint cX6_makeCheckpoint 1 (some .int) 0 := ⟨wm_467, wm_16, rfl, by decide +kernel⟩
theorem pv_X6_makeCheckpoint : Cond.instanceMethod yX6_makeCheckpoint ∈ wsL_law ∧ Cond.selects "SealedGroups$Store" yX6_makeCheckpoint yX6_makeCheckpoint ∈ wsL_law := ⟨wm_465, wm_466⟩
set_option maxHeartbeats 4000000 in
set_option maxRecDepth 100000 in
theorem c_X6_makeCheckpoint (l : Launch) (E : En) (hA : AdOK E) {k : Nat} {M : Mem} {r0 : Int32} {M0 : Mem} (hk : k < 7) (h : f_X6_makeCheckpoint k M = some (r0, M0)) : Met l yX6_makeCheckpoint (Wm yX6_makeCheckpoint cX6_makeCheckpoint 1 (some .int)) ({ frames := 3, cells := 0, slots := 0, locals := 68 } : Room) (va_Pc [Value.ref (E.2.2 k 0)] (Wd E M)) (QI E r0 M0) 0 0 (AA E) := by
  refine Met.ofW (cc := cX6_makeCheckpoint) (maxL := 1) (ret := (some .int)) (by decide +kernel) rfl ?_
  intro p e s m args below meth c s₁ B hml hv
  obtain ⟨rfl, hP, hK⟩ := hv
  have X : Cx E (AA E) p s m c _ cX6_makeCheckpoint 1 RX6 := ⟨⟨B.exec, B.bytes, hml, findClass_of_methodNamed B.named, fun w hw => atoms_spec (ws := Wm yX6_makeCheckpoint cX6_makeCheckpoint 1 (some .int)) B.pre w (List.mem_cons_of_mem _ hw)⟩, hK, hA, fun _ h => h⟩
  have hx := B.exec
  have hb := B.bytes
  have hr := B.returns
  have hlocks := B.notSynchronized
  clear B hml
  have hS : va_S (AA E) s.heap s.heap [] := va_S.rf
  have hl := lv_entry ([Value.ref (E.2.2 k 0)]) (n := 1) (Nat.le_of_ble_eq_true rfl)
  rw [lg_entry_eq]
  generalize (lg_sl ([Value.ref (E.2.2 k 0)]) ++ List.replicate (1 - (lg_sl ([Value.ref (E.2.2 k 0)])).length) Slot.unset).toArray = ls at hl ⊢
  have hl : lv_has ls 1 [(0, .ref (E.2.2 k 0))] := hl
  unfold f_X6_makeCheckpoint at h
  refine lv_aload_n hx hb dX6_makeCheckpoint_0 rfl (lv_at hl 0 rfl) ?_
  refine gt_6_3 X wm_251 hP (ms hk 0) dX6_makeCheckpoint_1 ?_
  refine lv_if_eq (tgt := 10) hx hb dX6_makeCheckpoint_4 (by decide) (fun c1 => ?_) (fun c1 => ?_)
  · have h := br_1 h c1
    refine lv_aload_n hx hb dX6_makeCheckpoint_10 rfl (lv_at hl 0 rfl) ?_
    refine gt_6_2 X wm_45 hP (ms hk 0) dX6_makeCheckpoint_11 ?_
    obtain ⟨v2, hv2, h⟩ := bO_e h
    refine mw_callVi X (c_X2_isFull l E hA hk hv2) pk_X2_isFull pv_X2_isFull wm_384 ⟨Nat.le_of_ble_eq_true rfl, Nat.le_of_ble_eq_true rfl⟩ ⟨rfl, rfl⟩ hP hS (ms hk 11) rfl rfl rfl rfl hl.1 (Nat.le_of_ble_eq_true rfl) ⟨Nat.zero_le _, Nat.zero_le _⟩ rfl dX6_makeCheckpoint_14 (fun H locs hP hS => ?_)
    refine lv_if_eq (tgt := 23) hx hb dX6_makeCheckpoint_17 (by decide) (fun c3 => ?_) (fun c3 => ?_)
    · have h := br_1 h c3
      refine lv_aload_n hx hb dX6_makeCheckpoint_23 rfl (lv_at hl 0 rfl) ?_
      refine gt_6_2 X wm_45 hP (ms hk 0) dX6_makeCheckpoint_24 ?_
      refine lv_aload_n hx hb dX6_makeCheckpoint_27 rfl (lv_at hl 0 rfl) ?_
      refine gt_6_1 X wm_41 hP (ms hk 0) dX6_makeCheckpoint_28 ?_
      refine lv_aload_n hx hb dX6_makeCheckpoint_31 rfl (lv_at hl 0 rfl) ?_
      refine gt_6_0 X wm_37 hP (ms hk 0) dX6_makeCheckpoint_32 ?_
      obtain ⟨v4, M5, hv4, h⟩ := bP_e h
      refine mw_callVi X (c_X2_appendCheckpoint l E hA hk hv4) pk_X2_appendCheckpoint pv_X2_appendCheckpoint wm_468 ⟨Nat.le_of_ble_eq_true rfl, Nat.le_of_ble_eq_true rfl⟩ ⟨rfl, rfl⟩ hP hS (ms hk 11) rfl rfl rfl rfl hl.1 (Nat.le_of_ble_eq_true rfl) ⟨Nat.zero_le _, Nat.zero_le _⟩ rfl dX6_makeCheckpoint_35 (fun H locs hP hS => ?_)
      have h := Option.some.inj h
      exact mw_iret X hr hlocks hP hS (congrArg Prod.fst h) (congrArg Prod.snd h) dX6_makeCheckpoint_38
    · have h := br_0 h c3
      refine lv_ldc hx hb X.1.2.2.2.1 (X.1.2.2.2.2 _ wm_382) dX6_makeCheckpoint_20 ?_
      have h := Option.some.inj h
      exact mw_iret X hr hlocks hP hS (congrArg Prod.fst h) (congrArg Prod.snd h) dX6_makeCheckpoint_22
  · have h := br_0 h c1
    refine lv_ldc hx hb X.1.2.2.2.1 (X.1.2.2.2.2 _ wm_357) dX6_makeCheckpoint_7 ?_
    have h := Option.some.inj h
    exact mw_iret X hr hlocks hP hS (congrArg Prod.fst h) (congrArg Prod.snd h) dX6_makeCheckpoint_9
/-! SealedGroups$Store.dropOldRecords -/
noncomputable def f_X6_dropOldRecords (k : Nat) (M : Mem) : Option (Int32 × Mem) :=
(if (M k 0 3) = 0 then
(if (M k 11 10) = 0 then
some ((-1000002 : Int32), M)
else
bP (f_X2_dropFirst k M) (fun v3 M4 =>
some (v3, M4)))
else
some ((-1000002 : Int32), M))
theorem pk_X6_dropOldRecords : Pk "SealedGroups$Store" yX6_dropOldRecords cX6_dropOldRecords 1 (some .int) 0 := ⟨wm_356, wm_16, rfl, by decide +kernel⟩
theorem pv_X6_dropOldRecords : Cond.instanceMethod yX6_dropOldRecords ∈ wsL_law ∧ Cond.selects "SealedGroups$Store" yX6_dropOldRecords yX6_dropOldRecords ∈ wsL_law := ⟨wm_354, wm_355⟩
set_option maxHeartbeats 4000000 in
set_option maxRecDepth 100000 in
theorem c_X6_dropOldRecords (l : Launch) (E : En) (hA : AdOK E) {k : Nat} {M : Mem} {r0 : Int32} {M0 : Mem} (hk : k < 7) (h : f_X6_dropOldRecords k M = some (r0, M0)) : Met l yX6_dropOldRecords (Wm yX6_dropOldRecords cX6_dropOldRecords 1 (some .int)) ({ frames := 3, cells := 0, slots := 0, locals := 63 } : Room) (va_Pc [Value.ref (E.2.2 k 0)] (Wd E M)) (QI E r0 M0) 0 0 (AA E) := by
  refine Met.ofW (cc := cX6_dropOldRecords) (maxL := 1) (ret := (some .int)) (by decide +kernel) rfl ?_
  intro p e s m args below meth c s₁ B hml hv
  obtain ⟨rfl, hP, hK⟩ := hv
  have X : Cx E (AA E) p s m c _ cX6_dropOldRecords 1 RX6 := ⟨⟨B.exec, B.bytes, hml, findClass_of_methodNamed B.named, fun w hw => atoms_spec (ws := Wm yX6_dropOldRecords cX6_dropOldRecords 1 (some .int)) B.pre w (List.mem_cons_of_mem _ hw)⟩, hK, hA, fun _ h => h⟩
  have hx := B.exec
  have hb := B.bytes
  have hr := B.returns
  have hlocks := B.notSynchronized
  clear B hml
  have hS : va_S (AA E) s.heap s.heap [] := va_S.rf
  have hl := lv_entry ([Value.ref (E.2.2 k 0)]) (n := 1) (Nat.le_of_ble_eq_true rfl)
  rw [lg_entry_eq]
  generalize (lg_sl ([Value.ref (E.2.2 k 0)]) ++ List.replicate (1 - (lg_sl ([Value.ref (E.2.2 k 0)])).length) Slot.unset).toArray = ls at hl ⊢
  have hl : lv_has ls 1 [(0, .ref (E.2.2 k 0))] := hl
  unfold f_X6_dropOldRecords at h
  refine lv_aload_n hx hb dX6_dropOldRecords_0 rfl (lv_at hl 0 rfl) ?_
  refine gt_6_3 X wm_251 hP (ms hk 0) dX6_dropOldRecords_1 ?_
  refine lv_if_ne (tgt := 17) hx hb dX6_dropOldRecords_4 (by decide) (fun c1 => ?_) (fun c1 => ?_)
  · have h := br_0 h c1
    refine lv_ldc hx hb X.1.2.2.2.1 (X.1.2.2.2.2 _ wm_357) dX6_dropOldRecords_17 ?_
    have h := Option.some.inj h
    exact mw_iret X hr hlocks hP hS (congrArg Prod.fst h) (congrArg Prod.snd h) dX6_dropOldRecords_19
  · have h := br_1 h c1
    refine lv_aload_n hx hb dX6_dropOldRecords_7 rfl (lv_at hl 0 rfl) ?_
    refine gt_6_2 X wm_45 hP (ms hk 0) dX6_dropOldRecords_8 ?_
    refine gn_2_10 X nf_24 hP (ms hk 11) dX6_dropOldRecords_11 ?_
    refine lv_if_ne (tgt := 20) hx hb dX6_dropOldRecords_14 (by decide) (fun c2 => ?_) (fun c2 => ?_)
    · have h := br_0 h c2
      refine lv_aload_n hx hb dX6_dropOldRecords_20 rfl (lv_at hl 0 rfl) ?_
      refine gt_6_2 X wm_45 hP (ms hk 0) dX6_dropOldRecords_21 ?_
      obtain ⟨v3, M4, hv3, h⟩ := bP_e h
      refine mw_callVi X (c_X2_dropFirst l E hA hk hv3) pk_X2_dropFirst pv_X2_dropFirst wm_358 ⟨Nat.le_of_ble_eq_true rfl, Nat.le_of_ble_eq_true rfl⟩ ⟨rfl, rfl⟩ hP hS (ms hk 11) rfl rfl rfl rfl hl.1 (Nat.le_of_ble_eq_true rfl) ⟨Nat.zero_le _, Nat.zero_le _⟩ rfl dX6_dropOldRecords_24 (fun H locs hP hS => ?_)
      have h := Option.some.inj h
      exact mw_iret X hr hlocks hP hS (congrArg Prod.fst h) (congrArg Prod.snd h) dX6_dropOldRecords_27
    · have h := br_1 h c2
      refine lv_ldc hx hb X.1.2.2.2.1 (X.1.2.2.2.2 _ wm_357) dX6_dropOldRecords_17 ?_
      have h := Option.some.inj h
      exact mw_iret X hr hlocks hP hS (congrArg Prod.fst h) (congrArg Prod.snd h) dX6_dropOldRecords_19
/-! SealedGroups$Store.forceAll -/
noncomputable def f_X6_forceAll (k : Nat) (M : Mem) : Option (Int32 × Mem) :=
(if (M k 0 3) = 0 then
bO (f_X2_last k M) (fun v2 =>
bP (f_X2_forceUpTo k M v2) (fun v3 M4 =>
some (v3, M4)))
else
some ((-1000002 : Int32), M))
theorem pk_X6_forceAll : Pk "SealedGroups$Store" yX6_forceAll cX6_forceAll 1 (some .int) 0 := ⟨wm_481, wm_16, rfl, by decide +kernel⟩
theorem pv_X6_forceAll : Cond.instanceMethod yX6_forceAll ∈ wsL_law ∧ Cond.selects "SealedGroups$Store" yX6_forceAll yX6_forceAll ∈ wsL_law := ⟨wm_479, wm_480⟩
set_option maxHeartbeats 4000000 in
set_option maxRecDepth 100000 in
theorem c_X6_forceAll (l : Launch) (E : En) (hA : AdOK E) {k : Nat} {M : Mem} {r0 : Int32} {M0 : Mem} (hk : k < 7) (h : f_X6_forceAll k M = some (r0, M0)) : Met l yX6_forceAll (Wm yX6_forceAll cX6_forceAll 1 (some .int)) ({ frames := 2, cells := 0, slots := 0, locals := 43 } : Room) (va_Pc [Value.ref (E.2.2 k 0)] (Wd E M)) (QI E r0 M0) 0 0 (AA E) := by
  refine Met.ofW (cc := cX6_forceAll) (maxL := 1) (ret := (some .int)) (by decide +kernel) rfl ?_
  intro p e s m args below meth c s₁ B hml hv
  obtain ⟨rfl, hP, hK⟩ := hv
  have X : Cx E (AA E) p s m c _ cX6_forceAll 1 RX6 := ⟨⟨B.exec, B.bytes, hml, findClass_of_methodNamed B.named, fun w hw => atoms_spec (ws := Wm yX6_forceAll cX6_forceAll 1 (some .int)) B.pre w (List.mem_cons_of_mem _ hw)⟩, hK, hA, fun _ h => h⟩
  have hx := B.exec
  have hb := B.bytes
  have hr := B.returns
  have hlocks := B.notSynchronized
  clear B hml
  have hS : va_S (AA E) s.heap s.heap [] := va_S.rf
  have hl := lv_entry ([Value.ref (E.2.2 k 0)]) (n := 1) (Nat.le_of_ble_eq_true rfl)
  rw [lg_entry_eq]
  generalize (lg_sl ([Value.ref (E.2.2 k 0)]) ++ List.replicate (1 - (lg_sl ([Value.ref (E.2.2 k 0)])).length) Slot.unset).toArray = ls at hl ⊢
  have hl : lv_has ls 1 [(0, .ref (E.2.2 k 0))] := hl
  unfold f_X6_forceAll at h
  refine lv_aload_n hx hb dX6_forceAll_0 rfl (lv_at hl 0 rfl) ?_
  refine gt_6_3 X wm_251 hP (ms hk 0) dX6_forceAll_1 ?_
  refine lv_if_eq (tgt := 12) hx hb dX6_forceAll_4 (by decide) (fun c1 => ?_) (fun c1 => ?_)
  · have h := br_1 h c1
    refine lv_aload_n hx hb dX6_forceAll_12 rfl (lv_at hl 0 rfl) ?_
    refine gt_6_2 X wm_45 hP (ms hk 0) dX6_forceAll_13 ?_
    refine lv_aload_n hx hb dX6_forceAll_16 rfl (lv_at hl 0 rfl) ?_
    refine gt_6_2 X wm_45 hP (ms hk 0) dX6_forceAll_17 ?_
    obtain ⟨v2, hv2, h⟩ := bO_e h
    refine mw_callVi X (c_X2_last l E hA hk hv2) pk_X2_last pv_X2_last wm_436 ⟨Nat.le_of_ble_eq_true rfl, Nat.le_of_ble_eq_true rfl⟩ ⟨rfl, rfl⟩ hP hS (ms hk 11) rfl rfl rfl rfl hl.1 (Nat.le_of_ble_eq_true rfl) ⟨Nat.zero_le _, Nat.zero_le _⟩ rfl dX6_forceAll_20 (fun H locs hP hS => ?_)
    obtain ⟨v3, M4, hv3, h⟩ := bP_e h
    refine mw_callVi X (c_X2_forceUpTo l E hA hk hv3) pk_X2_forceUpTo pv_X2_forceUpTo wm_417 ⟨Nat.le_of_ble_eq_true rfl, Nat.le_of_ble_eq_true rfl⟩ ⟨rfl, rfl⟩ hP hS (ms hk 11) rfl rfl rfl rfl hl.1 (Nat.le_of_ble_eq_true rfl) ⟨Nat.zero_le _, Nat.zero_le _⟩ rfl dX6_forceAll_23 (fun H locs hP hS => ?_)
    have h := Option.some.inj h
    exact mw_iret X hr hlocks hP hS (congrArg Prod.fst h) (congrArg Prod.snd h) dX6_forceAll_26
  · have h := br_0 h c1
    refine lv_ldc hx hb X.1.2.2.2.1 (X.1.2.2.2.2 _ wm_357) dX6_forceAll_7 ?_
    refine lv_goto (tgt := 26) hx hb dX6_forceAll_9 (by decide) ?_
    have h := Option.some.inj h
    exact mw_iret X hr hlocks hP hS (congrArg Prod.fst h) (congrArg Prod.snd h) dX6_forceAll_26
/-! SealedGroups$Store.stopStore -/
noncomputable def f_X6_stopStore_L36 (k : Nat) (M : Mem) (z0 : Int32) : Option (Int32 × Mem) :=
bO (f_X4_highestDiskMark k M) (fun v5 =>
bP (f_X2_loseRecords k M z0 v5) (fun v6 M7 =>
bO (f_X4_emptyCache k M7) (fun M9 =>
bd (st M9 k 7 3 (0 : Int32)) (fun M10 =>
bd (st M10 k 0 3 (1 : Int32)) (fun M11 =>
some (v6, M11))))))
noncomputable def f_X6_stopStore (k : Nat) (M : Mem) (a1 : Int32) : Option (Int32 × Mem) :=
(if a1 < 0 then
some ((-1000001 : Int32), M)
else
(if a1 ≤ (1 : Int32) then
(if (M k 0 3) = 0 then
(if a1 = (1 : Int32) then
f_X6_stopStore_L36 k M (1 : Int32)
else
f_X6_stopStore_L36 k M (0 : Int32))
else
some ((-1000002 : Int32), M))
else
some ((-1000001 : Int32), M)))
theorem pk_X6_stopStore : Pk "SealedGroups$Store" yX6_stopStore cX6_stopStore 3 (some .int) 1 := ⟨wm_489, wm_16, rfl, by decide +kernel⟩
theorem pv_X6_stopStore : Cond.instanceMethod yX6_stopStore ∈ wsL_law ∧ Cond.selects "SealedGroups$Store" yX6_stopStore yX6_stopStore ∈ wsL_law := ⟨wm_487, wm_488⟩
set_option maxHeartbeats 4000000 in
set_option maxRecDepth 100000 in
theorem c_X6_stopStore (l : Launch) (E : En) (hA : AdOK E) {k : Nat} {M : Mem} {a1 : Int32} {r0 : Int32} {M0 : Mem} (hk : k < 7) (h : f_X6_stopStore k M a1 = some (r0, M0)) : Met l yX6_stopStore (Wm yX6_stopStore cX6_stopStore 3 (some .int)) ({ frames := 2, cells := 0, slots := 0, locals := 48 } : Room) (va_Pc [Value.ref (E.2.2 k 0), Value.int a1] (Wd E M)) (QI E r0 M0) 0 0 (AA E) := by
  refine Met.ofW (cc := cX6_stopStore) (maxL := 3) (ret := (some .int)) (by decide +kernel) rfl ?_
  intro p e s m args below meth c s₁ B hml hv
  obtain ⟨rfl, hP, hK⟩ := hv
  have X : Cx E (AA E) p s m c _ cX6_stopStore 3 RX6 := ⟨⟨B.exec, B.bytes, hml, findClass_of_methodNamed B.named, fun w hw => atoms_spec (ws := Wm yX6_stopStore cX6_stopStore 3 (some .int)) B.pre w (List.mem_cons_of_mem _ hw)⟩, hK, hA, fun _ h => h⟩
  have hx := B.exec
  have hb := B.bytes
  have hr := B.returns
  have hlocks := B.notSynchronized
  clear B hml
  have hS : va_S (AA E) s.heap s.heap [] := va_S.rf
  have hl := lv_entry ([Value.ref (E.2.2 k 0), Value.int a1]) (n := 3) (Nat.le_of_ble_eq_true rfl)
  rw [lg_entry_eq]
  generalize (lg_sl ([Value.ref (E.2.2 k 0), Value.int a1]) ++ List.replicate (3 - (lg_sl ([Value.ref (E.2.2 k 0), Value.int a1])).length) Slot.unset).toArray = ls at hl ⊢
  have hl : lv_has ls 3 [(0, .ref (E.2.2 k 0)), (1, .int a1)] := hl
  have w_L36 : ∀ (M : Mem) (z0 : Int32) (H : Heap) (locs : List Loc) (ls : Array Slot), f_X6_stopStore_L36 k M z0 = some (r0, M0) → va_P E.1 vwCl (wl E M) H → va_S (AA E) s.heap H locs → lv_has ls 3 [(0, .ref (E.2.2 k 0))] → W p l e (headSpec (Wm yX6_stopStore cX6_stopStore 3 (some .int)) ({ frames := 2, cells := 0, slots := 0, locals := 48 } : Room)).room s m ([Value.ref (E.2.2 k 0), Value.int a1] : List Value).toArray below meth c H locs 0 0 (MQ below (QI E r0 M0) ([Value.ref (E.2.2 k 0), Value.int a1] : List Value).toArray s 0 0 (AA E)) (F0 m 36 ls [.int z0, .ref (E.2.2 k 11)]) := by
    intro M z0 H locs ls h hP hS hl
    unfold f_X6_stopStore_L36 at h
    refine lv_aload_n hx hb dX6_stopStore_36 rfl (lv_at hl 0 rfl) ?_
    refine gt_6_0 X wm_37 hP (ms hk 0) dX6_stopStore_37 ?_
    obtain ⟨v5, hv5, h⟩ := bO_e h
    refine mw_callVi X (c_X4_highestDiskMark l E hA hk hv5) pk_X4_highestDiskMark pv_X4_highestDiskMark wm_490 ⟨Nat.le_of_ble_eq_true rfl, Nat.le_of_ble_eq_true rfl⟩ ⟨rfl, rfl⟩ hP hS (ms hk 1) rfl rfl rfl rfl hl.1 (Nat.le_of_ble_eq_true rfl) ⟨Nat.zero_le _, Nat.zero_le _⟩ rfl dX6_stopStore_40 (fun H locs hP hS => ?_)
    obtain ⟨v6, M7, hv6, h⟩ := bP_e h
    refine mw_callVi X (c_X2_loseRecords l E hA hk hv6) pk_X2_loseRecords pv_X2_loseRecords wm_495 ⟨Nat.le_of_ble_eq_true rfl, Nat.le_of_ble_eq_true rfl⟩ ⟨rfl, rfl⟩ hP hS (ms hk 11) rfl rfl rfl rfl hl.1 (Nat.le_of_ble_eq_true rfl) ⟨Nat.zero_le _, Nat.zero_le _⟩ rfl dX6_stopStore_43 (fun H locs hP hS => ?_)
    refine lv_istore_n (lv' := [(2, .int v6), (0, .ref (E.2.2 k 0))]) hx hb dX6_stopStore_46 rfl hl (by decide) rfl (fun ls hl => ?_)
    refine lv_aload_n hx hb dX6_stopStore_47 rfl (lv_at hl 1 rfl) ?_
    refine gt_6_0 X wm_37 hP (ms hk 0) dX6_stopStore_48 ?_
    obtain ⟨M9, hv8, h⟩ := bO_e h
    refine mw_callVv X (c_X4_emptyCache l E hA hk hv8) pk_X4_emptyCache pv_X4_emptyCache wm_499 ⟨Nat.le_of_ble_eq_true rfl, Nat.le_of_ble_eq_true rfl⟩ ⟨rfl, rfl⟩ hP hS (ms hk 1) rfl rfl rfl rfl hl.1 (Nat.le_of_ble_eq_true rfl) ⟨Nat.zero_le _, Nat.zero_le _⟩ rfl dX6_stopStore_51 (fun H locs hP hS => ?_)
    refine lv_aload_n hx hb dX6_stopStore_54 rfl (lv_at hl 1 rfl) ?_
    refine gt_6_1 X wm_41 hP (ms hk 0) dX6_stopStore_55 ?_
    refine lv_iconst (v := 0) hx hb dX6_stopStore_58 (by decide) ?_
    refine pn_0_3 X nf_8 hP hS (ms hk 7) dX6_stopStore_59 (fun H locs M10 eM10 hP hS => ?_)
    have h := bd_e h eM10
    refine lv_aload_n hx hb dX6_stopStore_62 rfl (lv_at hl 1 rfl) ?_
    refine lv_iconst (v := 1) hx hb dX6_stopStore_63 (by decide) ?_
    refine pt_6_3 X wm_251 (by decide) hP hS (ms hk 0) dX6_stopStore_64 (fun H locs M11 eM11 hP hS => ?_)
    have h := bd_e h eM11
    refine lv_iload_n hx hb dX6_stopStore_67 rfl (lv_at hl 0 rfl) ?_
    have h := Option.some.inj h
    exact mw_iret X hr hlocks hP hS (congrArg Prod.fst h) (congrArg Prod.snd h) dX6_stopStore_68
  unfold f_X6_stopStore at h
  refine lv_iload_n hx hb dX6_stopStore_0 rfl (lv_at hl 1 rfl) ?_
  refine lv_if_lt (tgt := 9) hx hb dX6_stopStore_1 (by decide) (fun c1 => ?_) (fun c1 => ?_)
  · have h := br_1 h c1
    refine lv_ldc hx hb X.1.2.2.2.1 (X.1.2.2.2.2 _ wm_381) dX6_stopStore_9 ?_
    have h := Option.some.inj h
    exact mw_iret X hr hlocks hP hS (congrArg Prod.fst h) (congrArg Prod.snd h) dX6_stopStore_11
  · have h := br_0 h c1
    refine lv_iload_n hx hb dX6_stopStore_4 rfl (lv_at hl 1 rfl) ?_
    refine lv_iconst (v := 1) hx hb dX6_stopStore_5 (by decide) ?_
    refine lv_icmp_le (tgt := 12) hx hb dX6_stopStore_6 (by decide) (fun c2 => ?_) (fun c2 => ?_)
    · have h := br_1 h c2
      refine lv_aload_n hx hb dX6_stopStore_12 rfl (lv_at hl 0 rfl) ?_
      refine gt_6_3 X wm_251 hP (ms hk 0) dX6_stopStore_13 ?_
      refine lv_if_eq (tgt := 22) hx hb dX6_stopStore_16 (by decide) (fun c3 => ?_) (fun c3 => ?_)
      · have h := br_1 h c3
        refine lv_aload_n hx hb dX6_stopStore_22 rfl (lv_at hl 0 rfl) ?_
        refine gt_6_2 X wm_45 hP (ms hk 0) dX6_stopStore_23 ?_
        refine lv_iload_n hx hb dX6_stopStore_26 rfl (lv_at hl 1 rfl) ?_
        refine lv_iconst (v := 1) hx hb dX6_stopStore_27 (by decide) ?_
        refine lv_icmp_ne (tgt := 35) hx hb dX6_stopStore_28 (by decide) (fun c4 => ?_) (fun c4 => ?_)
        · have h := br_0 h c4
          refine lv_iconst (v := 0) hx hb dX6_stopStore_35 (by decide) ?_
          exact w_L36 _ _ _ _ _ h hP hS (lv_sub hl [0] rfl)
        · have h := br_1 h c4
          refine lv_iconst (v := 1) hx hb dX6_stopStore_31 (by decide) ?_
          refine lv_goto (tgt := 36) hx hb dX6_stopStore_32 (by decide) ?_
          exact w_L36 _ _ _ _ _ h hP hS (lv_sub hl [0] rfl)
      · have h := br_0 h c3
        refine lv_ldc hx hb X.1.2.2.2.1 (X.1.2.2.2.2 _ wm_357) dX6_stopStore_19 ?_
        have h := Option.some.inj h
        exact mw_iret X hr hlocks hP hS (congrArg Prod.fst h) (congrArg Prod.snd h) dX6_stopStore_21
    · have h := br_0 h c2
      refine lv_ldc hx hb X.1.2.2.2.1 (X.1.2.2.2.2 _ wm_381) dX6_stopStore_9 ?_
      have h := Option.some.inj h
      exact mw_iret X hr hlocks hP hS (congrArg Prod.fst h) (congrArg Prod.snd h) dX6_stopStore_11
