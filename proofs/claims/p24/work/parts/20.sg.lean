/-! SealedGroups.begin -/
noncomputable def f_X7_begin  (M : Mem) (a1 : Int32) : Option (Int32 × Mem) :=
bO (f_X1_prepare 0 M) (fun M2 =>
bP (f_X6_beginGroup 0 M2 a1) (fun v3 M4 =>
bP (f_X1_keepUnlessError M4 v3) (fun v5 M6 =>
some (v5, M6))))
theorem pk_X7_begin : Pk "SealedGroups" yX7_begin cX7_begin 2 (some .int) 1 := ⟨wm_376, wm_2, rfl, by decide +kernel⟩
theorem pv_X7_begin : Cond.instanceMethod yX7_begin ∈ wsL_law ∧ Cond.selects "SealedGroups" yX7_begin yX7_begin ∈ wsL_law := ⟨wm_374, wm_375⟩
set_option maxHeartbeats 4000000 in
set_option maxRecDepth 100000 in
theorem c_X7_begin (l : Launch) (E : En) (hA : AdOK E) {M : Mem} {a1 : Int32} {r0 : Int32} {M0 : Mem}  (h : f_X7_begin M a1 = some (r0, M0)) : Met l yX7_begin (Wm yX7_begin cX7_begin 2 (some .int)) ({ frames := 4, cells := 0, slots := 0, locals := 90 } : Room) (va_Pc [Value.ref (E.2.2 10 27), Value.int a1] (Wd E M)) (QI E r0 M0) 0 0 (AA E) := by
  refine Met.ofW (cc := cX7_begin) (maxL := 2) (ret := (some .int)) (by decide +kernel) rfl ?_
  intro p e s m args below meth c s₁ B hml hv
  obtain ⟨rfl, hP, hK⟩ := hv
  have X : Cx E (AA E) p s m c _ cX7_begin 2 RX7 := ⟨⟨B.exec, B.bytes, hml, findClass_of_methodNamed B.named, fun w hw => atoms_spec (ws := Wm yX7_begin cX7_begin 2 (some .int)) B.pre w (List.mem_cons_of_mem _ hw)⟩, hK, hA, fun _ h => h⟩
  have hx := B.exec
  have hb := B.bytes
  have hr := B.returns
  have hlocks := B.notSynchronized
  clear B hml
  have hS : va_S (AA E) s.heap s.heap [] := va_S.rf
  have hl := lv_entry ([Value.ref (E.2.2 10 27), Value.int a1]) (n := 2) (Nat.le_of_ble_eq_true rfl)
  rw [lg_entry_eq]
  generalize (lg_sl ([Value.ref (E.2.2 10 27), Value.int a1]) ++ List.replicate (2 - (lg_sl ([Value.ref (E.2.2 10 27), Value.int a1])).length) Slot.unset).toArray = ls at hl ⊢
  have hl : lv_has ls 2 [(0, .ref (E.2.2 10 27)), (1, .int a1)] := hl
  unfold f_X7_begin at h
  refine lv_aload_n hx hb dX7_begin_0 rfl (lv_at hl 0 rfl) ?_
  refine gt_7_3 X wm_26 hP ix_27 dX7_begin_1 ?_
  refine lv_aload_n hx hb dX7_begin_4 rfl (lv_at hl 0 rfl) ?_
  refine gt_7_0 X wm_17 hP ix_27 dX7_begin_5 ?_
  obtain ⟨M2, hv1, h⟩ := bO_e h
  refine mw_callVv X (c_X1_prepare l E hA (by decide : 0 < 7) hv1) pk_X1_prepare pv_X1_prepare wm_233 ⟨Nat.le_of_ble_eq_true rfl, Nat.le_of_ble_eq_true rfl⟩ ⟨rfl, rfl⟩ hP hS ix_23 rfl rfl rfl rfl hl.1 (Nat.le_of_ble_eq_true rfl) ⟨Nat.zero_le _, Nat.zero_le _⟩ rfl dX7_begin_8 (fun H locs hP hS => ?_)
  refine lv_aload_n hx hb dX7_begin_11 rfl (lv_at hl 0 rfl) ?_
  refine gt_7_3 X wm_26 hP ix_27 dX7_begin_12 ?_
  refine lv_aload_n hx hb dX7_begin_15 rfl (lv_at hl 0 rfl) ?_
  refine gt_7_0 X wm_17 hP ix_27 dX7_begin_16 ?_
  refine lv_iload_n hx hb dX7_begin_19 rfl (lv_at hl 1 rfl) ?_
  obtain ⟨v3, M4, hv3, h⟩ := bP_e h
  refine mw_callVi X (c_X6_beginGroup l E hA (by decide : 0 < 7) hv3) pk_X6_beginGroup pv_X6_beginGroup wm_377 ⟨Nat.le_of_ble_eq_true rfl, Nat.le_of_ble_eq_true rfl⟩ ⟨rfl, rfl⟩ hP hS (ms (by decide : 0 < 7) 0) rfl rfl rfl rfl hl.1 (Nat.le_of_ble_eq_true rfl) ⟨Nat.zero_le _, Nat.zero_le _⟩ rfl dX7_begin_20 (fun H locs hP hS => ?_)
  obtain ⟨v5, M6, hv5, h⟩ := bP_e h
  refine mw_callVi X (c_X1_keepUnlessError l E hA hv5) pk_X1_keepUnlessError pv_X1_keepUnlessError wm_345 ⟨Nat.le_of_ble_eq_true rfl, Nat.le_of_ble_eq_true rfl⟩ ⟨rfl, rfl⟩ hP hS ix_23 rfl rfl rfl rfl hl.1 (Nat.le_of_ble_eq_true rfl) ⟨Nat.zero_le _, Nat.zero_le _⟩ rfl dX7_begin_23 (fun H locs hP hS => ?_)
  have h := Option.some.inj h
  exact mw_iret X hr hlocks hP hS (congrArg Prod.fst h) (congrArg Prod.snd h) dX7_begin_26
/-! SealedGroups.write -/
noncomputable def f_X7_write  (M : Mem) (a1 a2 a3 : Int32) : Option (Int32 × Mem) :=
bO (f_X1_prepare 0 M) (fun M2 =>
bP (f_X6_writePage 0 M2 a1 a2 a3) (fun v3 M4 =>
bP (f_X1_keepUnlessError M4 v3) (fun v5 M6 =>
some (v5, M6))))
theorem pk_X7_write : Pk "SealedGroups" yX7_write cX7_write 4 (some .int) 3 := ⟨wm_395, wm_2, rfl, by decide +kernel⟩
theorem pv_X7_write : Cond.instanceMethod yX7_write ∈ wsL_law ∧ Cond.selects "SealedGroups" yX7_write yX7_write ∈ wsL_law := ⟨wm_393, wm_394⟩
set_option maxHeartbeats 4000000 in
set_option maxRecDepth 100000 in
theorem c_X7_write (l : Launch) (E : En) (hA : AdOK E) {M : Mem} {a1 a2 a3 : Int32} {r0 : Int32} {M0 : Mem}  (h : f_X7_write M a1 a2 a3 = some (r0, M0)) : Met l yX7_write (Wm yX7_write cX7_write 4 (some .int)) ({ frames := 4, cells := 0, slots := 0, locals := 90 } : Room) (va_Pc [Value.ref (E.2.2 10 27), Value.int a1, Value.int a2, Value.int a3] (Wd E M)) (QI E r0 M0) 0 0 (AA E) := by
  refine Met.ofW (cc := cX7_write) (maxL := 4) (ret := (some .int)) (by decide +kernel) rfl ?_
  intro p e s m args below meth c s₁ B hml hv
  obtain ⟨rfl, hP, hK⟩ := hv
  have X : Cx E (AA E) p s m c _ cX7_write 4 RX7 := ⟨⟨B.exec, B.bytes, hml, findClass_of_methodNamed B.named, fun w hw => atoms_spec (ws := Wm yX7_write cX7_write 4 (some .int)) B.pre w (List.mem_cons_of_mem _ hw)⟩, hK, hA, fun _ h => h⟩
  have hx := B.exec
  have hb := B.bytes
  have hr := B.returns
  have hlocks := B.notSynchronized
  clear B hml
  have hS : va_S (AA E) s.heap s.heap [] := va_S.rf
  have hl := lv_entry ([Value.ref (E.2.2 10 27), Value.int a1, Value.int a2, Value.int a3]) (n := 4) (Nat.le_of_ble_eq_true rfl)
  rw [lg_entry_eq]
  generalize (lg_sl ([Value.ref (E.2.2 10 27), Value.int a1, Value.int a2, Value.int a3]) ++ List.replicate (4 - (lg_sl ([Value.ref (E.2.2 10 27), Value.int a1, Value.int a2, Value.int a3])).length) Slot.unset).toArray = ls at hl ⊢
  have hl : lv_has ls 4 [(0, .ref (E.2.2 10 27)), (1, .int a1), (2, .int a2), (3, .int a3)] := hl
  unfold f_X7_write at h
  refine lv_aload_n hx hb dX7_write_0 rfl (lv_at hl 0 rfl) ?_
  refine gt_7_3 X wm_26 hP ix_27 dX7_write_1 ?_
  refine lv_aload_n hx hb dX7_write_4 rfl (lv_at hl 0 rfl) ?_
  refine gt_7_0 X wm_17 hP ix_27 dX7_write_5 ?_
  obtain ⟨M2, hv1, h⟩ := bO_e h
  refine mw_callVv X (c_X1_prepare l E hA (by decide : 0 < 7) hv1) pk_X1_prepare pv_X1_prepare wm_233 ⟨Nat.le_of_ble_eq_true rfl, Nat.le_of_ble_eq_true rfl⟩ ⟨rfl, rfl⟩ hP hS ix_23 rfl rfl rfl rfl hl.1 (Nat.le_of_ble_eq_true rfl) ⟨Nat.zero_le _, Nat.zero_le _⟩ rfl dX7_write_8 (fun H locs hP hS => ?_)
  refine lv_aload_n hx hb dX7_write_11 rfl (lv_at hl 0 rfl) ?_
  refine gt_7_3 X wm_26 hP ix_27 dX7_write_12 ?_
  refine lv_aload_n hx hb dX7_write_15 rfl (lv_at hl 0 rfl) ?_
  refine gt_7_0 X wm_17 hP ix_27 dX7_write_16 ?_
  refine lv_iload_n hx hb dX7_write_19 rfl (lv_at hl 1 rfl) ?_
  refine lv_iload_n hx hb dX7_write_20 rfl (lv_at hl 2 rfl) ?_
  refine lv_iload_n hx hb dX7_write_21 rfl (lv_at hl 3 rfl) ?_
  obtain ⟨v3, M4, hv3, h⟩ := bP_e h
  refine mw_callVi X (c_X6_writePage l E hA (by decide : 0 < 7) hv3) pk_X6_writePage pv_X6_writePage wm_396 ⟨Nat.le_of_ble_eq_true rfl, Nat.le_of_ble_eq_true rfl⟩ ⟨rfl, rfl⟩ hP hS (ms (by decide : 0 < 7) 0) rfl rfl rfl rfl hl.1 (Nat.le_of_ble_eq_true rfl) ⟨Nat.zero_le _, Nat.zero_le _⟩ rfl dX7_write_22 (fun H locs hP hS => ?_)
  obtain ⟨v5, M6, hv5, h⟩ := bP_e h
  refine mw_callVi X (c_X1_keepUnlessError l E hA hv5) pk_X1_keepUnlessError pv_X1_keepUnlessError wm_345 ⟨Nat.le_of_ble_eq_true rfl, Nat.le_of_ble_eq_true rfl⟩ ⟨rfl, rfl⟩ hP hS ix_23 rfl rfl rfl rfl hl.1 (Nat.le_of_ble_eq_true rfl) ⟨Nat.zero_le _, Nat.zero_le _⟩ rfl dX7_write_25 (fun H locs hP hS => ?_)
  have h := Option.some.inj h
  exact mw_iret X hr hlocks hP hS (congrArg Prod.fst h) (congrArg Prod.snd h) dX7_write_28
/-! SealedGroups.settle -/
noncomputable def f_X7_settle  (M : Mem) (a1 : Int32) : Option (Int32 × Mem) :=
bO (f_X1_prepare 0 M) (fun M2 =>
bP (f_X6_settleGroup 0 M2 a1) (fun v3 M4 =>
bP (f_X1_keepUnlessError M4 v3) (fun v5 M6 =>
some (v5, M6))))
theorem pk_X7_settle : Pk "SealedGroups" yX7_settle cX7_settle 2 (some .int) 1 := ⟨wm_408, wm_2, rfl, by decide +kernel⟩
theorem pv_X7_settle : Cond.instanceMethod yX7_settle ∈ wsL_law ∧ Cond.selects "SealedGroups" yX7_settle yX7_settle ∈ wsL_law := ⟨wm_406, wm_407⟩
set_option maxHeartbeats 4000000 in
set_option maxRecDepth 100000 in
theorem c_X7_settle (l : Launch) (E : En) (hA : AdOK E) {M : Mem} {a1 : Int32} {r0 : Int32} {M0 : Mem}  (h : f_X7_settle M a1 = some (r0, M0)) : Met l yX7_settle (Wm yX7_settle cX7_settle 2 (some .int)) ({ frames := 4, cells := 0, slots := 0, locals := 90 } : Room) (va_Pc [Value.ref (E.2.2 10 27), Value.int a1] (Wd E M)) (QI E r0 M0) 0 0 (AA E) := by
  refine Met.ofW (cc := cX7_settle) (maxL := 2) (ret := (some .int)) (by decide +kernel) rfl ?_
  intro p e s m args below meth c s₁ B hml hv
  obtain ⟨rfl, hP, hK⟩ := hv
  have X : Cx E (AA E) p s m c _ cX7_settle 2 RX7 := ⟨⟨B.exec, B.bytes, hml, findClass_of_methodNamed B.named, fun w hw => atoms_spec (ws := Wm yX7_settle cX7_settle 2 (some .int)) B.pre w (List.mem_cons_of_mem _ hw)⟩, hK, hA, fun _ h => h⟩
  have hx := B.exec
  have hb := B.bytes
  have hr := B.returns
  have hlocks := B.notSynchronized
  clear B hml
  have hS : va_S (AA E) s.heap s.heap [] := va_S.rf
  have hl := lv_entry ([Value.ref (E.2.2 10 27), Value.int a1]) (n := 2) (Nat.le_of_ble_eq_true rfl)
  rw [lg_entry_eq]
  generalize (lg_sl ([Value.ref (E.2.2 10 27), Value.int a1]) ++ List.replicate (2 - (lg_sl ([Value.ref (E.2.2 10 27), Value.int a1])).length) Slot.unset).toArray = ls at hl ⊢
  have hl : lv_has ls 2 [(0, .ref (E.2.2 10 27)), (1, .int a1)] := hl
  unfold f_X7_settle at h
  refine lv_aload_n hx hb dX7_settle_0 rfl (lv_at hl 0 rfl) ?_
  refine gt_7_3 X wm_26 hP ix_27 dX7_settle_1 ?_
  refine lv_aload_n hx hb dX7_settle_4 rfl (lv_at hl 0 rfl) ?_
  refine gt_7_0 X wm_17 hP ix_27 dX7_settle_5 ?_
  obtain ⟨M2, hv1, h⟩ := bO_e h
  refine mw_callVv X (c_X1_prepare l E hA (by decide : 0 < 7) hv1) pk_X1_prepare pv_X1_prepare wm_233 ⟨Nat.le_of_ble_eq_true rfl, Nat.le_of_ble_eq_true rfl⟩ ⟨rfl, rfl⟩ hP hS ix_23 rfl rfl rfl rfl hl.1 (Nat.le_of_ble_eq_true rfl) ⟨Nat.zero_le _, Nat.zero_le _⟩ rfl dX7_settle_8 (fun H locs hP hS => ?_)
  refine lv_aload_n hx hb dX7_settle_11 rfl (lv_at hl 0 rfl) ?_
  refine gt_7_3 X wm_26 hP ix_27 dX7_settle_12 ?_
  refine lv_aload_n hx hb dX7_settle_15 rfl (lv_at hl 0 rfl) ?_
  refine gt_7_0 X wm_17 hP ix_27 dX7_settle_16 ?_
  refine lv_iload_n hx hb dX7_settle_19 rfl (lv_at hl 1 rfl) ?_
  obtain ⟨v3, M4, hv3, h⟩ := bP_e h
  refine mw_callVi X (c_X6_settleGroup l E hA (by decide : 0 < 7) hv3) pk_X6_settleGroup pv_X6_settleGroup wm_409 ⟨Nat.le_of_ble_eq_true rfl, Nat.le_of_ble_eq_true rfl⟩ ⟨rfl, rfl⟩ hP hS (ms (by decide : 0 < 7) 0) rfl rfl rfl rfl hl.1 (Nat.le_of_ble_eq_true rfl) ⟨Nat.zero_le _, Nat.zero_le _⟩ rfl dX7_settle_20 (fun H locs hP hS => ?_)
  obtain ⟨v5, M6, hv5, h⟩ := bP_e h
  refine mw_callVi X (c_X1_keepUnlessError l E hA hv5) pk_X1_keepUnlessError pv_X1_keepUnlessError wm_345 ⟨Nat.le_of_ble_eq_true rfl, Nat.le_of_ble_eq_true rfl⟩ ⟨rfl, rfl⟩ hP hS ix_23 rfl rfl rfl rfl hl.1 (Nat.le_of_ble_eq_true rfl) ⟨Nat.zero_le _, Nat.zero_le _⟩ rfl dX7_settle_23 (fun H locs hP hS => ?_)
  have h := Option.some.inj h
  exact mw_iret X hr hlocks hP hS (congrArg Prod.fst h) (congrArg Prod.snd h) dX7_settle_26
/-! SealedGroups.takeBack -/
noncomputable def f_X7_takeBack  (M : Mem) (a1 : Int32) : Option (Int32 × Mem) :=
bO (f_X1_prepare 0 M) (fun M2 =>
bP (f_X6_takeGroupBack 0 M2 a1) (fun v3 M4 =>
bP (f_X1_keepUnlessError M4 v3) (fun v5 M6 =>
some (v5, M6))))
theorem pk_X7_takeBack : Pk "SealedGroups" yX7_takeBack cX7_takeBack 2 (some .int) 1 := ⟨wm_429, wm_2, rfl, by decide +kernel⟩
theorem pv_X7_takeBack : Cond.instanceMethod yX7_takeBack ∈ wsL_law ∧ Cond.selects "SealedGroups" yX7_takeBack yX7_takeBack ∈ wsL_law := ⟨wm_427, wm_428⟩
set_option maxHeartbeats 4000000 in
set_option maxRecDepth 100000 in
theorem c_X7_takeBack (l : Launch) (E : En) (hA : AdOK E) {M : Mem} {a1 : Int32} {r0 : Int32} {M0 : Mem}  (h : f_X7_takeBack M a1 = some (r0, M0)) : Met l yX7_takeBack (Wm yX7_takeBack cX7_takeBack 2 (some .int)) ({ frames := 4, cells := 0, slots := 0, locals := 90 } : Room) (va_Pc [Value.ref (E.2.2 10 27), Value.int a1] (Wd E M)) (QI E r0 M0) 0 0 (AA E) := by
  refine Met.ofW (cc := cX7_takeBack) (maxL := 2) (ret := (some .int)) (by decide +kernel) rfl ?_
  intro p e s m args below meth c s₁ B hml hv
  obtain ⟨rfl, hP, hK⟩ := hv
  have X : Cx E (AA E) p s m c _ cX7_takeBack 2 RX7 := ⟨⟨B.exec, B.bytes, hml, findClass_of_methodNamed B.named, fun w hw => atoms_spec (ws := Wm yX7_takeBack cX7_takeBack 2 (some .int)) B.pre w (List.mem_cons_of_mem _ hw)⟩, hK, hA, fun _ h => h⟩
  have hx := B.exec
  have hb := B.bytes
  have hr := B.returns
  have hlocks := B.notSynchronized
  clear B hml
  have hS : va_S (AA E) s.heap s.heap [] := va_S.rf
  have hl := lv_entry ([Value.ref (E.2.2 10 27), Value.int a1]) (n := 2) (Nat.le_of_ble_eq_true rfl)
  rw [lg_entry_eq]
  generalize (lg_sl ([Value.ref (E.2.2 10 27), Value.int a1]) ++ List.replicate (2 - (lg_sl ([Value.ref (E.2.2 10 27), Value.int a1])).length) Slot.unset).toArray = ls at hl ⊢
  have hl : lv_has ls 2 [(0, .ref (E.2.2 10 27)), (1, .int a1)] := hl
  unfold f_X7_takeBack at h
  refine lv_aload_n hx hb dX7_takeBack_0 rfl (lv_at hl 0 rfl) ?_
  refine gt_7_3 X wm_26 hP ix_27 dX7_takeBack_1 ?_
  refine lv_aload_n hx hb dX7_takeBack_4 rfl (lv_at hl 0 rfl) ?_
  refine gt_7_0 X wm_17 hP ix_27 dX7_takeBack_5 ?_
  obtain ⟨M2, hv1, h⟩ := bO_e h
  refine mw_callVv X (c_X1_prepare l E hA (by decide : 0 < 7) hv1) pk_X1_prepare pv_X1_prepare wm_233 ⟨Nat.le_of_ble_eq_true rfl, Nat.le_of_ble_eq_true rfl⟩ ⟨rfl, rfl⟩ hP hS ix_23 rfl rfl rfl rfl hl.1 (Nat.le_of_ble_eq_true rfl) ⟨Nat.zero_le _, Nat.zero_le _⟩ rfl dX7_takeBack_8 (fun H locs hP hS => ?_)
  refine lv_aload_n hx hb dX7_takeBack_11 rfl (lv_at hl 0 rfl) ?_
  refine gt_7_3 X wm_26 hP ix_27 dX7_takeBack_12 ?_
  refine lv_aload_n hx hb dX7_takeBack_15 rfl (lv_at hl 0 rfl) ?_
  refine gt_7_0 X wm_17 hP ix_27 dX7_takeBack_16 ?_
  refine lv_iload_n hx hb dX7_takeBack_19 rfl (lv_at hl 1 rfl) ?_
  obtain ⟨v3, M4, hv3, h⟩ := bP_e h
  refine mw_callVi X (c_X6_takeGroupBack l E hA (by decide : 0 < 7) hv3) pk_X6_takeGroupBack pv_X6_takeGroupBack wm_430 ⟨Nat.le_of_ble_eq_true rfl, Nat.le_of_ble_eq_true rfl⟩ ⟨rfl, rfl⟩ hP hS (ms (by decide : 0 < 7) 0) rfl rfl rfl rfl hl.1 (Nat.le_of_ble_eq_true rfl) ⟨Nat.zero_le _, Nat.zero_le _⟩ rfl dX7_takeBack_20 (fun H locs hP hS => ?_)
  obtain ⟨v5, M6, hv5, h⟩ := bP_e h
  refine mw_callVi X (c_X1_keepUnlessError l E hA hv5) pk_X1_keepUnlessError pv_X1_keepUnlessError wm_345 ⟨Nat.le_of_ble_eq_true rfl, Nat.le_of_ble_eq_true rfl⟩ ⟨rfl, rfl⟩ hP hS ix_23 rfl rfl rfl rfl hl.1 (Nat.le_of_ble_eq_true rfl) ⟨Nat.zero_le _, Nat.zero_le _⟩ rfl dX7_takeBack_23 (fun H locs hP hS => ?_)
  have h := Option.some.inj h
  exact mw_iret X hr hlocks hP hS (congrArg Prod.fst h) (congrArg Prod.snd h) dX7_takeBack_26
/-! SealedGroups.writeOut -/
noncomputable def f_X7_writeOut  (M : Mem) (a1 : Int32) : Option (Int32 × Mem) :=
bO (f_X1_prepare 0 M) (fun M2 =>
bP (f_X6_writePageOut 0 M2 a1) (fun v3 M4 =>
bP (f_X1_keepUnlessError M4 v3) (fun v5 M6 =>
some (v5, M6))))
theorem pk_X7_writeOut : Pk "SealedGroups" yX7_writeOut cX7_writeOut 2 (some .int) 1 := ⟨wm_442, wm_2, rfl, by decide +kernel⟩
theorem pv_X7_writeOut : Cond.instanceMethod yX7_writeOut ∈ wsL_law ∧ Cond.selects "SealedGroups" yX7_writeOut yX7_writeOut ∈ wsL_law := ⟨wm_440, wm_441⟩
set_option maxHeartbeats 4000000 in
set_option maxRecDepth 100000 in
theorem c_X7_writeOut (l : Launch) (E : En) (hA : AdOK E) {M : Mem} {a1 : Int32} {r0 : Int32} {M0 : Mem}  (h : f_X7_writeOut M a1 = some (r0, M0)) : Met l yX7_writeOut (Wm yX7_writeOut cX7_writeOut 2 (some .int)) ({ frames := 4, cells := 0, slots := 0, locals := 90 } : Room) (va_Pc [Value.ref (E.2.2 10 27), Value.int a1] (Wd E M)) (QI E r0 M0) 0 0 (AA E) := by
  refine Met.ofW (cc := cX7_writeOut) (maxL := 2) (ret := (some .int)) (by decide +kernel) rfl ?_
  intro p e s m args below meth c s₁ B hml hv
  obtain ⟨rfl, hP, hK⟩ := hv
  have X : Cx E (AA E) p s m c _ cX7_writeOut 2 RX7 := ⟨⟨B.exec, B.bytes, hml, findClass_of_methodNamed B.named, fun w hw => atoms_spec (ws := Wm yX7_writeOut cX7_writeOut 2 (some .int)) B.pre w (List.mem_cons_of_mem _ hw)⟩, hK, hA, fun _ h => h⟩
  have hx := B.exec
  have hb := B.bytes
  have hr := B.returns
  have hlocks := B.notSynchronized
  clear B hml
  have hS : va_S (AA E) s.heap s.heap [] := va_S.rf
  have hl := lv_entry ([Value.ref (E.2.2 10 27), Value.int a1]) (n := 2) (Nat.le_of_ble_eq_true rfl)
  rw [lg_entry_eq]
  generalize (lg_sl ([Value.ref (E.2.2 10 27), Value.int a1]) ++ List.replicate (2 - (lg_sl ([Value.ref (E.2.2 10 27), Value.int a1])).length) Slot.unset).toArray = ls at hl ⊢
  have hl : lv_has ls 2 [(0, .ref (E.2.2 10 27)), (1, .int a1)] := hl
  unfold f_X7_writeOut at h
  refine lv_aload_n hx hb dX7_writeOut_0 rfl (lv_at hl 0 rfl) ?_
  refine gt_7_3 X wm_26 hP ix_27 dX7_writeOut_1 ?_
  refine lv_aload_n hx hb dX7_writeOut_4 rfl (lv_at hl 0 rfl) ?_
  refine gt_7_0 X wm_17 hP ix_27 dX7_writeOut_5 ?_
  obtain ⟨M2, hv1, h⟩ := bO_e h
  refine mw_callVv X (c_X1_prepare l E hA (by decide : 0 < 7) hv1) pk_X1_prepare pv_X1_prepare wm_233 ⟨Nat.le_of_ble_eq_true rfl, Nat.le_of_ble_eq_true rfl⟩ ⟨rfl, rfl⟩ hP hS ix_23 rfl rfl rfl rfl hl.1 (Nat.le_of_ble_eq_true rfl) ⟨Nat.zero_le _, Nat.zero_le _⟩ rfl dX7_writeOut_8 (fun H locs hP hS => ?_)
  refine lv_aload_n hx hb dX7_writeOut_11 rfl (lv_at hl 0 rfl) ?_
  refine gt_7_3 X wm_26 hP ix_27 dX7_writeOut_12 ?_
  refine lv_aload_n hx hb dX7_writeOut_15 rfl (lv_at hl 0 rfl) ?_
  refine gt_7_0 X wm_17 hP ix_27 dX7_writeOut_16 ?_
  refine lv_iload_n hx hb dX7_writeOut_19 rfl (lv_at hl 1 rfl) ?_
  obtain ⟨v3, M4, hv3, h⟩ := bP_e h
  refine mw_callVi X (c_X6_writePageOut l E hA (by decide : 0 < 7) hv3) pk_X6_writePageOut pv_X6_writePageOut wm_443 ⟨Nat.le_of_ble_eq_true rfl, Nat.le_of_ble_eq_true rfl⟩ ⟨rfl, rfl⟩ hP hS (ms (by decide : 0 < 7) 0) rfl rfl rfl rfl hl.1 (Nat.le_of_ble_eq_true rfl) ⟨Nat.zero_le _, Nat.zero_le _⟩ rfl dX7_writeOut_20 (fun H locs hP hS => ?_)
  obtain ⟨v5, M6, hv5, h⟩ := bP_e h
  refine mw_callVi X (c_X1_keepUnlessError l E hA hv5) pk_X1_keepUnlessError pv_X1_keepUnlessError wm_345 ⟨Nat.le_of_ble_eq_true rfl, Nat.le_of_ble_eq_true rfl⟩ ⟨rfl, rfl⟩ hP hS ix_23 rfl rfl rfl rfl hl.1 (Nat.le_of_ble_eq_true rfl) ⟨Nat.zero_le _, Nat.zero_le _⟩ rfl dX7_writeOut_23 (fun H locs hP hS => ?_)
  have h := Option.some.inj h
  exact mw_iret X hr hlocks hP hS (congrArg Prod.fst h) (congrArg Prod.snd h) dX7_writeOut_26
/-! SealedGroups.dropOut -/
noncomputable def f_X7_dropOut  (M : Mem) (a1 : Int32) : Option (Int32 × Mem) :=
bO (f_X1_prepare 0 M) (fun M2 =>
bP (f_X6_dropPageOut 0 M2 a1) (fun v3 M4 =>
bP (f_X1_keepUnlessError M4 v3) (fun v5 M6 =>
some (v5, M6))))
theorem pk_X7_dropOut : Pk "SealedGroups" yX7_dropOut cX7_dropOut 2 (some .int) 1 := ⟨wm_455, wm_2, rfl, by decide +kernel⟩
theorem pv_X7_dropOut : Cond.instanceMethod yX7_dropOut ∈ wsL_law ∧ Cond.selects "SealedGroups" yX7_dropOut yX7_dropOut ∈ wsL_law := ⟨wm_453, wm_454⟩
set_option maxHeartbeats 4000000 in
set_option maxRecDepth 100000 in
theorem c_X7_dropOut (l : Launch) (E : En) (hA : AdOK E) {M : Mem} {a1 : Int32} {r0 : Int32} {M0 : Mem}  (h : f_X7_dropOut M a1 = some (r0, M0)) : Met l yX7_dropOut (Wm yX7_dropOut cX7_dropOut 2 (some .int)) ({ frames := 4, cells := 0, slots := 0, locals := 90 } : Room) (va_Pc [Value.ref (E.2.2 10 27), Value.int a1] (Wd E M)) (QI E r0 M0) 0 0 (AA E) := by
  refine Met.ofW (cc := cX7_dropOut) (maxL := 2) (ret := (some .int)) (by decide +kernel) rfl ?_
  intro p e s m args below meth c s₁ B hml hv
  obtain ⟨rfl, hP, hK⟩ := hv
  have X : Cx E (AA E) p s m c _ cX7_dropOut 2 RX7 := ⟨⟨B.exec, B.bytes, hml, findClass_of_methodNamed B.named, fun w hw => atoms_spec (ws := Wm yX7_dropOut cX7_dropOut 2 (some .int)) B.pre w (List.mem_cons_of_mem _ hw)⟩, hK, hA, fun _ h => h⟩
  have hx := B.exec
  have hb := B.bytes
  have hr := B.returns
  have hlocks := B.notSynchronized
  clear B hml
  have hS : va_S (AA E) s.heap s.heap [] := va_S.rf
  have hl := lv_entry ([Value.ref (E.2.2 10 27), Value.int a1]) (n := 2) (Nat.le_of_ble_eq_true rfl)
  rw [lg_entry_eq]
  generalize (lg_sl ([Value.ref (E.2.2 10 27), Value.int a1]) ++ List.replicate (2 - (lg_sl ([Value.ref (E.2.2 10 27), Value.int a1])).length) Slot.unset).toArray = ls at hl ⊢
  have hl : lv_has ls 2 [(0, .ref (E.2.2 10 27)), (1, .int a1)] := hl
  unfold f_X7_dropOut at h
  refine lv_aload_n hx hb dX7_dropOut_0 rfl (lv_at hl 0 rfl) ?_
  refine gt_7_3 X wm_26 hP ix_27 dX7_dropOut_1 ?_
  refine lv_aload_n hx hb dX7_dropOut_4 rfl (lv_at hl 0 rfl) ?_
  refine gt_7_0 X wm_17 hP ix_27 dX7_dropOut_5 ?_
  obtain ⟨M2, hv1, h⟩ := bO_e h
  refine mw_callVv X (c_X1_prepare l E hA (by decide : 0 < 7) hv1) pk_X1_prepare pv_X1_prepare wm_233 ⟨Nat.le_of_ble_eq_true rfl, Nat.le_of_ble_eq_true rfl⟩ ⟨rfl, rfl⟩ hP hS ix_23 rfl rfl rfl rfl hl.1 (Nat.le_of_ble_eq_true rfl) ⟨Nat.zero_le _, Nat.zero_le _⟩ rfl dX7_dropOut_8 (fun H locs hP hS => ?_)
  refine lv_aload_n hx hb dX7_dropOut_11 rfl (lv_at hl 0 rfl) ?_
  refine gt_7_3 X wm_26 hP ix_27 dX7_dropOut_12 ?_
  refine lv_aload_n hx hb dX7_dropOut_15 rfl (lv_at hl 0 rfl) ?_
  refine gt_7_0 X wm_17 hP ix_27 dX7_dropOut_16 ?_
  refine lv_iload_n hx hb dX7_dropOut_19 rfl (lv_at hl 1 rfl) ?_
  obtain ⟨v3, M4, hv3, h⟩ := bP_e h
  refine mw_callVi X (c_X6_dropPageOut l E hA (by decide : 0 < 7) hv3) pk_X6_dropPageOut pv_X6_dropPageOut wm_456 ⟨Nat.le_of_ble_eq_true rfl, Nat.le_of_ble_eq_true rfl⟩ ⟨rfl, rfl⟩ hP hS (ms (by decide : 0 < 7) 0) rfl rfl rfl rfl hl.1 (Nat.le_of_ble_eq_true rfl) ⟨Nat.zero_le _, Nat.zero_le _⟩ rfl dX7_dropOut_20 (fun H locs hP hS => ?_)
  obtain ⟨v5, M6, hv5, h⟩ := bP_e h
  refine mw_callVi X (c_X1_keepUnlessError l E hA hv5) pk_X1_keepUnlessError pv_X1_keepUnlessError wm_345 ⟨Nat.le_of_ble_eq_true rfl, Nat.le_of_ble_eq_true rfl⟩ ⟨rfl, rfl⟩ hP hS ix_23 rfl rfl rfl rfl hl.1 (Nat.le_of_ble_eq_true rfl) ⟨Nat.zero_le _, Nat.zero_le _⟩ rfl dX7_dropOut_23 (fun H locs hP hS => ?_)
  have h := Option.some.inj h
  exact mw_iret X hr hlocks hP hS (congrArg Prod.fst h) (congrArg Prod.snd h) dX7_dropOut_26
/-! SealedGroups.checkpoint -/
noncomputable def f_X7_checkpoint  (M : Mem) : Option (Int32 × Mem) :=
bO (f_X1_prepare 0 M) (fun M2 =>
bP (f_X6_makeCheckpoint 0 M2) (fun v3 M4 =>
bP (f_X1_keepUnlessError M4 v3) (fun v5 M6 =>
some (v5, M6))))
theorem pk_X7_checkpoint : Pk "SealedGroups" yX7_checkpoint cX7_checkpoint 1 (some .int) 0 := ⟨wm_463, wm_2, rfl, by decide +kernel⟩
theorem pv_X7_checkpoint : Cond.instanceMethod yX7_checkpoint ∈ wsL_law ∧ Cond.selects "SealedGroups" yX7_checkpoint yX7_checkpoint ∈ wsL_law := ⟨wm_461, wm_462⟩
set_option maxHeartbeats 4000000 in
set_option maxRecDepth 100000 in
theorem c_X7_checkpoint (l : Launch) (E : En) (hA : AdOK E) {M : Mem} {r0 : Int32} {M0 : Mem}  (h : f_X7_checkpoint M = some (r0, M0)) : Met l yX7_checkpoint (Wm yX7_checkpoint cX7_checkpoint 1 (some .int)) ({ frames := 4, cells := 0, slots := 0, locals := 90 } : Room) (va_Pc [Value.ref (E.2.2 10 27)] (Wd E M)) (QI E r0 M0) 0 0 (AA E) := by
  refine Met.ofW (cc := cX7_checkpoint) (maxL := 1) (ret := (some .int)) (by decide +kernel) rfl ?_
  intro p e s m args below meth c s₁ B hml hv
  obtain ⟨rfl, hP, hK⟩ := hv
  have X : Cx E (AA E) p s m c _ cX7_checkpoint 1 RX7 := ⟨⟨B.exec, B.bytes, hml, findClass_of_methodNamed B.named, fun w hw => atoms_spec (ws := Wm yX7_checkpoint cX7_checkpoint 1 (some .int)) B.pre w (List.mem_cons_of_mem _ hw)⟩, hK, hA, fun _ h => h⟩
  have hx := B.exec
  have hb := B.bytes
  have hr := B.returns
  have hlocks := B.notSynchronized
  clear B hml
  have hS : va_S (AA E) s.heap s.heap [] := va_S.rf
  have hl := lv_entry ([Value.ref (E.2.2 10 27)]) (n := 1) (Nat.le_of_ble_eq_true rfl)
  rw [lg_entry_eq]
  generalize (lg_sl ([Value.ref (E.2.2 10 27)]) ++ List.replicate (1 - (lg_sl ([Value.ref (E.2.2 10 27)])).length) Slot.unset).toArray = ls at hl ⊢
  have hl : lv_has ls 1 [(0, .ref (E.2.2 10 27))] := hl
  unfold f_X7_checkpoint at h
  refine lv_aload_n hx hb dX7_checkpoint_0 rfl (lv_at hl 0 rfl) ?_
  refine gt_7_3 X wm_26 hP ix_27 dX7_checkpoint_1 ?_
  refine lv_aload_n hx hb dX7_checkpoint_4 rfl (lv_at hl 0 rfl) ?_
  refine gt_7_0 X wm_17 hP ix_27 dX7_checkpoint_5 ?_
  obtain ⟨M2, hv1, h⟩ := bO_e h
  refine mw_callVv X (c_X1_prepare l E hA (by decide : 0 < 7) hv1) pk_X1_prepare pv_X1_prepare wm_233 ⟨Nat.le_of_ble_eq_true rfl, Nat.le_of_ble_eq_true rfl⟩ ⟨rfl, rfl⟩ hP hS ix_23 rfl rfl rfl rfl hl.1 (Nat.le_of_ble_eq_true rfl) ⟨Nat.zero_le _, Nat.zero_le _⟩ rfl dX7_checkpoint_8 (fun H locs hP hS => ?_)
  refine lv_aload_n hx hb dX7_checkpoint_11 rfl (lv_at hl 0 rfl) ?_
  refine gt_7_3 X wm_26 hP ix_27 dX7_checkpoint_12 ?_
  refine lv_aload_n hx hb dX7_checkpoint_15 rfl (lv_at hl 0 rfl) ?_
  refine gt_7_0 X wm_17 hP ix_27 dX7_checkpoint_16 ?_
  obtain ⟨v3, M4, hv3, h⟩ := bP_e h
  refine mw_callVi X (c_X6_makeCheckpoint l E hA (by decide : 0 < 7) hv3) pk_X6_makeCheckpoint pv_X6_makeCheckpoint wm_464 ⟨Nat.le_of_ble_eq_true rfl, Nat.le_of_ble_eq_true rfl⟩ ⟨rfl, rfl⟩ hP hS (ms (by decide : 0 < 7) 0) rfl rfl rfl rfl hl.1 (Nat.le_of_ble_eq_true rfl) ⟨Nat.zero_le _, Nat.zero_le _⟩ rfl dX7_checkpoint_19 (fun H locs hP hS => ?_)
  obtain ⟨v5, M6, hv5, h⟩ := bP_e h
  refine mw_callVi X (c_X1_keepUnlessError l E hA hv5) pk_X1_keepUnlessError pv_X1_keepUnlessError wm_345 ⟨Nat.le_of_ble_eq_true rfl, Nat.le_of_ble_eq_true rfl⟩ ⟨rfl, rfl⟩ hP hS ix_23 rfl rfl rfl rfl hl.1 (Nat.le_of_ble_eq_true rfl) ⟨Nat.zero_le _, Nat.zero_le _⟩ rfl dX7_checkpoint_22 (fun H locs hP hS => ?_)
  have h := Option.some.inj h
  exact mw_iret X hr hlocks hP hS (congrArg Prod.fst h) (congrArg Prod.snd h) dX7_checkpoint_25
/-! SealedGroups.dropRecords -/
noncomputable def f_X7_dropRecords  (M : Mem) : Option (Int32 × Mem) :=
bO (f_X1_prepare 0 M) (fun M2 =>
bP (f_X6_dropOldRecords 0 M2) (fun v3 M4 =>
bP (f_X1_keepUnlessError M4 v3) (fun v5 M6 =>
some (v5, M6))))
theorem pk_X7_dropRecords : Pk "SealedGroups" yX7_dropRecords cX7_dropRecords 1 (some .int) 0 := ⟨wm_352, wm_2, rfl, by decide +kernel⟩
theorem pv_X7_dropRecords : Cond.instanceMethod yX7_dropRecords ∈ wsL_law ∧ Cond.selects "SealedGroups" yX7_dropRecords yX7_dropRecords ∈ wsL_law := ⟨wm_350, wm_351⟩
set_option maxHeartbeats 4000000 in
set_option maxRecDepth 100000 in
theorem c_X7_dropRecords (l : Launch) (E : En) (hA : AdOK E) {M : Mem} {r0 : Int32} {M0 : Mem}  (h : f_X7_dropRecords M = some (r0, M0)) : Met l yX7_dropRecords (Wm yX7_dropRecords cX7_dropRecords 1 (some .int)) ({ frames := 4, cells := 0, slots := 0, locals := 90 } : Room) (va_Pc [Value.ref (E.2.2 10 27)] (Wd E M)) (QI E r0 M0) 0 0 (AA E) := by
  refine Met.ofW (cc := cX7_dropRecords) (maxL := 1) (ret := (some .int)) (by decide +kernel) rfl ?_
  intro p e s m args below meth c s₁ B hml hv
  obtain ⟨rfl, hP, hK⟩ := hv
  have X : Cx E (AA E) p s m c _ cX7_dropRecords 1 RX7 := ⟨⟨B.exec, B.bytes, hml, findClass_of_methodNamed B.named, fun w hw => atoms_spec (ws := Wm yX7_dropRecords cX7_dropRecords 1 (some .int)) B.pre w (List.mem_cons_of_mem _ hw)⟩, hK, hA, fun _ h => h⟩
  have hx := B.exec
  have hb := B.bytes
  have hr := B.returns
  have hlocks := B.notSynchronized
  clear B hml
  have hS : va_S (AA E) s.heap s.heap [] := va_S.rf
  have hl := lv_entry ([Value.ref (E.2.2 10 27)]) (n := 1) (Nat.le_of_ble_eq_true rfl)
  rw [lg_entry_eq]
  generalize (lg_sl ([Value.ref (E.2.2 10 27)]) ++ List.replicate (1 - (lg_sl ([Value.ref (E.2.2 10 27)])).length) Slot.unset).toArray = ls at hl ⊢
  have hl : lv_has ls 1 [(0, .ref (E.2.2 10 27))] := hl
  unfold f_X7_dropRecords at h
  refine lv_aload_n hx hb dX7_dropRecords_0 rfl (lv_at hl 0 rfl) ?_
  refine gt_7_3 X wm_26 hP ix_27 dX7_dropRecords_1 ?_
  refine lv_aload_n hx hb dX7_dropRecords_4 rfl (lv_at hl 0 rfl) ?_
  refine gt_7_0 X wm_17 hP ix_27 dX7_dropRecords_5 ?_
  obtain ⟨M2, hv1, h⟩ := bO_e h
  refine mw_callVv X (c_X1_prepare l E hA (by decide : 0 < 7) hv1) pk_X1_prepare pv_X1_prepare wm_233 ⟨Nat.le_of_ble_eq_true rfl, Nat.le_of_ble_eq_true rfl⟩ ⟨rfl, rfl⟩ hP hS ix_23 rfl rfl rfl rfl hl.1 (Nat.le_of_ble_eq_true rfl) ⟨Nat.zero_le _, Nat.zero_le _⟩ rfl dX7_dropRecords_8 (fun H locs hP hS => ?_)
  refine lv_aload_n hx hb dX7_dropRecords_11 rfl (lv_at hl 0 rfl) ?_
  refine gt_7_3 X wm_26 hP ix_27 dX7_dropRecords_12 ?_
  refine lv_aload_n hx hb dX7_dropRecords_15 rfl (lv_at hl 0 rfl) ?_
  refine gt_7_0 X wm_17 hP ix_27 dX7_dropRecords_16 ?_
  obtain ⟨v3, M4, hv3, h⟩ := bP_e h
  refine mw_callVi X (c_X6_dropOldRecords l E hA (by decide : 0 < 7) hv3) pk_X6_dropOldRecords pv_X6_dropOldRecords wm_353 ⟨Nat.le_of_ble_eq_true rfl, Nat.le_of_ble_eq_true rfl⟩ ⟨rfl, rfl⟩ hP hS (ms (by decide : 0 < 7) 0) rfl rfl rfl rfl hl.1 (Nat.le_of_ble_eq_true rfl) ⟨Nat.zero_le _, Nat.zero_le _⟩ rfl dX7_dropRecords_19 (fun H locs hP hS => ?_)
  obtain ⟨v5, M6, hv5, h⟩ := bP_e h
  refine mw_callVi X (c_X1_keepUnlessError l E hA hv5) pk_X1_keepUnlessError pv_X1_keepUnlessError wm_345 ⟨Nat.le_of_ble_eq_true rfl, Nat.le_of_ble_eq_true rfl⟩ ⟨rfl, rfl⟩ hP hS ix_23 rfl rfl rfl rfl hl.1 (Nat.le_of_ble_eq_true rfl) ⟨Nat.zero_le _, Nat.zero_le _⟩ rfl dX7_dropRecords_22 (fun H locs hP hS => ?_)
  have h := Option.some.inj h
  exact mw_iret X hr hlocks hP hS (congrArg Prod.fst h) (congrArg Prod.snd h) dX7_dropRecords_25
/-! SealedGroups.force -/
noncomputable def f_X7_force  (M : Mem) : Option (Int32 × Mem) :=
bO (f_X1_prepare 0 M) (fun M2 =>
bP (f_X6_forceAll 0 M2) (fun v3 M4 =>
bP (f_X1_keepUnlessError M4 v3) (fun v5 M6 =>
some (v5, M6))))
theorem pk_X7_force : Pk "SealedGroups" yX7_force cX7_force 1 (some .int) 0 := ⟨wm_477, wm_2, rfl, by decide +kernel⟩
theorem pv_X7_force : Cond.instanceMethod yX7_force ∈ wsL_law ∧ Cond.selects "SealedGroups" yX7_force yX7_force ∈ wsL_law := ⟨wm_475, wm_476⟩
set_option maxHeartbeats 4000000 in
set_option maxRecDepth 100000 in
theorem c_X7_force (l : Launch) (E : En) (hA : AdOK E) {M : Mem} {r0 : Int32} {M0 : Mem}  (h : f_X7_force M = some (r0, M0)) : Met l yX7_force (Wm yX7_force cX7_force 1 (some .int)) ({ frames := 4, cells := 0, slots := 0, locals := 90 } : Room) (va_Pc [Value.ref (E.2.2 10 27)] (Wd E M)) (QI E r0 M0) 0 0 (AA E) := by
  refine Met.ofW (cc := cX7_force) (maxL := 1) (ret := (some .int)) (by decide +kernel) rfl ?_
  intro p e s m args below meth c s₁ B hml hv
  obtain ⟨rfl, hP, hK⟩ := hv
  have X : Cx E (AA E) p s m c _ cX7_force 1 RX7 := ⟨⟨B.exec, B.bytes, hml, findClass_of_methodNamed B.named, fun w hw => atoms_spec (ws := Wm yX7_force cX7_force 1 (some .int)) B.pre w (List.mem_cons_of_mem _ hw)⟩, hK, hA, fun _ h => h⟩
  have hx := B.exec
  have hb := B.bytes
  have hr := B.returns
  have hlocks := B.notSynchronized
  clear B hml
  have hS : va_S (AA E) s.heap s.heap [] := va_S.rf
  have hl := lv_entry ([Value.ref (E.2.2 10 27)]) (n := 1) (Nat.le_of_ble_eq_true rfl)
  rw [lg_entry_eq]
  generalize (lg_sl ([Value.ref (E.2.2 10 27)]) ++ List.replicate (1 - (lg_sl ([Value.ref (E.2.2 10 27)])).length) Slot.unset).toArray = ls at hl ⊢
  have hl : lv_has ls 1 [(0, .ref (E.2.2 10 27))] := hl
  unfold f_X7_force at h
  refine lv_aload_n hx hb dX7_force_0 rfl (lv_at hl 0 rfl) ?_
  refine gt_7_3 X wm_26 hP ix_27 dX7_force_1 ?_
  refine lv_aload_n hx hb dX7_force_4 rfl (lv_at hl 0 rfl) ?_
  refine gt_7_0 X wm_17 hP ix_27 dX7_force_5 ?_
  obtain ⟨M2, hv1, h⟩ := bO_e h
  refine mw_callVv X (c_X1_prepare l E hA (by decide : 0 < 7) hv1) pk_X1_prepare pv_X1_prepare wm_233 ⟨Nat.le_of_ble_eq_true rfl, Nat.le_of_ble_eq_true rfl⟩ ⟨rfl, rfl⟩ hP hS ix_23 rfl rfl rfl rfl hl.1 (Nat.le_of_ble_eq_true rfl) ⟨Nat.zero_le _, Nat.zero_le _⟩ rfl dX7_force_8 (fun H locs hP hS => ?_)
  refine lv_aload_n hx hb dX7_force_11 rfl (lv_at hl 0 rfl) ?_
  refine gt_7_3 X wm_26 hP ix_27 dX7_force_12 ?_
  refine lv_aload_n hx hb dX7_force_15 rfl (lv_at hl 0 rfl) ?_
  refine gt_7_0 X wm_17 hP ix_27 dX7_force_16 ?_
  obtain ⟨v3, M4, hv3, h⟩ := bP_e h
  refine mw_callVi X (c_X6_forceAll l E hA (by decide : 0 < 7) hv3) pk_X6_forceAll pv_X6_forceAll wm_478 ⟨Nat.le_of_ble_eq_true rfl, Nat.le_of_ble_eq_true rfl⟩ ⟨rfl, rfl⟩ hP hS (ms (by decide : 0 < 7) 0) rfl rfl rfl rfl hl.1 (Nat.le_of_ble_eq_true rfl) ⟨Nat.zero_le _, Nat.zero_le _⟩ rfl dX7_force_19 (fun H locs hP hS => ?_)
  obtain ⟨v5, M6, hv5, h⟩ := bP_e h
  refine mw_callVi X (c_X1_keepUnlessError l E hA hv5) pk_X1_keepUnlessError pv_X1_keepUnlessError wm_345 ⟨Nat.le_of_ble_eq_true rfl, Nat.le_of_ble_eq_true rfl⟩ ⟨rfl, rfl⟩ hP hS ix_23 rfl rfl rfl rfl hl.1 (Nat.le_of_ble_eq_true rfl) ⟨Nat.zero_le _, Nat.zero_le _⟩ rfl dX7_force_22 (fun H locs hP hS => ?_)
  have h := Option.some.inj h
  exact mw_iret X hr hlocks hP hS (congrArg Prod.fst h) (congrArg Prod.snd h) dX7_force_25
/-! SealedGroups.stop -/
noncomputable def f_X7_stop  (M : Mem) (a1 : Int32) : Option (Int32 × Mem) :=
bO (f_X1_prepare 0 M) (fun M2 =>
bP (f_X6_stopStore 0 M2 a1) (fun v3 M4 =>
bP (f_X1_keepUnlessError M4 v3) (fun v5 M6 =>
some (v5, M6))))
theorem pk_X7_stop : Pk "SealedGroups" yX7_stop cX7_stop 2 (some .int) 1 := ⟨wm_485, wm_2, rfl, by decide +kernel⟩
theorem pv_X7_stop : Cond.instanceMethod yX7_stop ∈ wsL_law ∧ Cond.selects "SealedGroups" yX7_stop yX7_stop ∈ wsL_law := ⟨wm_483, wm_484⟩
set_option maxHeartbeats 4000000 in
set_option maxRecDepth 100000 in
theorem c_X7_stop (l : Launch) (E : En) (hA : AdOK E) {M : Mem} {a1 : Int32} {r0 : Int32} {M0 : Mem}  (h : f_X7_stop M a1 = some (r0, M0)) : Met l yX7_stop (Wm yX7_stop cX7_stop 2 (some .int)) ({ frames := 4, cells := 0, slots := 0, locals := 90 } : Room) (va_Pc [Value.ref (E.2.2 10 27), Value.int a1] (Wd E M)) (QI E r0 M0) 0 0 (AA E) := by
  refine Met.ofW (cc := cX7_stop) (maxL := 2) (ret := (some .int)) (by decide +kernel) rfl ?_
  intro p e s m args below meth c s₁ B hml hv
  obtain ⟨rfl, hP, hK⟩ := hv
  have X : Cx E (AA E) p s m c _ cX7_stop 2 RX7 := ⟨⟨B.exec, B.bytes, hml, findClass_of_methodNamed B.named, fun w hw => atoms_spec (ws := Wm yX7_stop cX7_stop 2 (some .int)) B.pre w (List.mem_cons_of_mem _ hw)⟩, hK, hA, fun _ h => h⟩
  have hx := B.exec
  have hb := B.bytes
  have hr := B.returns
  have hlocks := B.notSynchronized
  clear B hml
  have hS : va_S (AA E) s.heap s.heap [] := va_S.rf
  have hl := lv_entry ([Value.ref (E.2.2 10 27), Value.int a1]) (n := 2) (Nat.le_of_ble_eq_true rfl)
  rw [lg_entry_eq]
  generalize (lg_sl ([Value.ref (E.2.2 10 27), Value.int a1]) ++ List.replicate (2 - (lg_sl ([Value.ref (E.2.2 10 27), Value.int a1])).length) Slot.unset).toArray = ls at hl ⊢
  have hl : lv_has ls 2 [(0, .ref (E.2.2 10 27)), (1, .int a1)] := hl
  unfold f_X7_stop at h
  refine lv_aload_n hx hb dX7_stop_0 rfl (lv_at hl 0 rfl) ?_
  refine gt_7_3 X wm_26 hP ix_27 dX7_stop_1 ?_
  refine lv_aload_n hx hb dX7_stop_4 rfl (lv_at hl 0 rfl) ?_
  refine gt_7_0 X wm_17 hP ix_27 dX7_stop_5 ?_
  obtain ⟨M2, hv1, h⟩ := bO_e h
  refine mw_callVv X (c_X1_prepare l E hA (by decide : 0 < 7) hv1) pk_X1_prepare pv_X1_prepare wm_233 ⟨Nat.le_of_ble_eq_true rfl, Nat.le_of_ble_eq_true rfl⟩ ⟨rfl, rfl⟩ hP hS ix_23 rfl rfl rfl rfl hl.1 (Nat.le_of_ble_eq_true rfl) ⟨Nat.zero_le _, Nat.zero_le _⟩ rfl dX7_stop_8 (fun H locs hP hS => ?_)
  refine lv_aload_n hx hb dX7_stop_11 rfl (lv_at hl 0 rfl) ?_
  refine gt_7_3 X wm_26 hP ix_27 dX7_stop_12 ?_
  refine lv_aload_n hx hb dX7_stop_15 rfl (lv_at hl 0 rfl) ?_
  refine gt_7_0 X wm_17 hP ix_27 dX7_stop_16 ?_
  refine lv_iload_n hx hb dX7_stop_19 rfl (lv_at hl 1 rfl) ?_
  obtain ⟨v3, M4, hv3, h⟩ := bP_e h
  refine mw_callVi X (c_X6_stopStore l E hA (by decide : 0 < 7) hv3) pk_X6_stopStore pv_X6_stopStore wm_486 ⟨Nat.le_of_ble_eq_true rfl, Nat.le_of_ble_eq_true rfl⟩ ⟨rfl, rfl⟩ hP hS (ms (by decide : 0 < 7) 0) rfl rfl rfl rfl hl.1 (Nat.le_of_ble_eq_true rfl) ⟨Nat.zero_le _, Nat.zero_le _⟩ rfl dX7_stop_20 (fun H locs hP hS => ?_)
  obtain ⟨v5, M6, hv5, h⟩ := bP_e h
  refine mw_callVi X (c_X1_keepUnlessError l E hA hv5) pk_X1_keepUnlessError pv_X1_keepUnlessError wm_345 ⟨Nat.le_of_ble_eq_true rfl, Nat.le_of_ble_eq_true rfl⟩ ⟨rfl, rfl⟩ hP hS ix_23 rfl rfl rfl rfl hl.1 (Nat.le_of_ble_eq_true rfl) ⟨Nat.zero_le _, Nat.zero_le _⟩ rfl dX7_stop_23 (fun H locs hP hS => ?_)
  have h := Option.some.inj h
  exact mw_iret X hr hlocks hP hS (congrArg Prod.fst h) (congrArg Prod.snd h) dX7_stop_26
/-! SealedGroups.restart -/
noncomputable def f_X7_restart  (M : Mem) : Option (Int32 × Mem) :=
bO (f_X1_prepare 0 M) (fun M2 =>
bP (f_X5_run 0 M2) (fun v3 M4 =>
bP (f_X1_keepUnlessError M4 v3) (fun v5 M6 =>
some (v5, M6))))
theorem pk_X7_restart : Pk "SealedGroups" yX7_restart cX7_restart 1 (some .int) 0 := ⟨wm_232, wm_2, rfl, by decide +kernel⟩
theorem pv_X7_restart : Cond.instanceMethod yX7_restart ∈ wsL_law ∧ Cond.selects "SealedGroups" yX7_restart yX7_restart ∈ wsL_law := ⟨wm_230, wm_231⟩
set_option maxHeartbeats 4000000 in
set_option maxRecDepth 100000 in
theorem c_X7_restart (l : Launch) (E : En) (hA : AdOK E) {M : Mem} {r0 : Int32} {M0 : Mem}  (h : f_X7_restart M = some (r0, M0)) : Met l yX7_restart (Wm yX7_restart cX7_restart 1 (some .int)) ({ frames := 5, cells := 0, slots := 0, locals := 108 } : Room) (va_Pc [Value.ref (E.2.2 10 27)] (Wd E M)) (QI E r0 M0) 0 0 (AA E) := by
  refine Met.ofW (cc := cX7_restart) (maxL := 1) (ret := (some .int)) (by decide +kernel) rfl ?_
  intro p e s m args below meth c s₁ B hml hv
  obtain ⟨rfl, hP, hK⟩ := hv
  have X : Cx E (AA E) p s m c _ cX7_restart 1 RX7 := ⟨⟨B.exec, B.bytes, hml, findClass_of_methodNamed B.named, fun w hw => atoms_spec (ws := Wm yX7_restart cX7_restart 1 (some .int)) B.pre w (List.mem_cons_of_mem _ hw)⟩, hK, hA, fun _ h => h⟩
  have hx := B.exec
  have hb := B.bytes
  have hr := B.returns
  have hlocks := B.notSynchronized
  clear B hml
  have hS : va_S (AA E) s.heap s.heap [] := va_S.rf
  have hl := lv_entry ([Value.ref (E.2.2 10 27)]) (n := 1) (Nat.le_of_ble_eq_true rfl)
  rw [lg_entry_eq]
  generalize (lg_sl ([Value.ref (E.2.2 10 27)]) ++ List.replicate (1 - (lg_sl ([Value.ref (E.2.2 10 27)])).length) Slot.unset).toArray = ls at hl ⊢
  have hl : lv_has ls 1 [(0, .ref (E.2.2 10 27))] := hl
  unfold f_X7_restart at h
  refine lv_aload_n hx hb dX7_restart_0 rfl (lv_at hl 0 rfl) ?_
  refine gt_7_3 X wm_26 hP ix_27 dX7_restart_1 ?_
  refine lv_aload_n hx hb dX7_restart_4 rfl (lv_at hl 0 rfl) ?_
  refine gt_7_0 X wm_17 hP ix_27 dX7_restart_5 ?_
  obtain ⟨M2, hv1, h⟩ := bO_e h
  refine mw_callVv X (c_X1_prepare l E hA (by decide : 0 < 7) hv1) pk_X1_prepare pv_X1_prepare wm_233 ⟨Nat.le_of_ble_eq_true rfl, Nat.le_of_ble_eq_true rfl⟩ ⟨rfl, rfl⟩ hP hS ix_23 rfl rfl rfl rfl hl.1 (Nat.le_of_ble_eq_true rfl) ⟨Nat.zero_le _, Nat.zero_le _⟩ rfl dX7_restart_8 (fun H locs hP hS => ?_)
  refine lv_aload_n hx hb dX7_restart_11 rfl (lv_at hl 0 rfl) ?_
  refine gt_7_3 X wm_26 hP ix_27 dX7_restart_12 ?_
  refine lv_aload_n hx hb dX7_restart_15 rfl (lv_at hl 0 rfl) ?_
  refine gt_7_2 X wm_22 hP ix_27 dX7_restart_16 ?_
  refine lv_aload_n hx hb dX7_restart_19 rfl (lv_at hl 0 rfl) ?_
  refine gt_7_0 X wm_17 hP ix_27 dX7_restart_20 ?_
  obtain ⟨v3, M4, hv3, h⟩ := bP_e h
  refine mw_callVi X (c_X5_run l E hA (by decide : 0 < 7) hv3) pk_X5_run pv_X5_run wm_271 ⟨Nat.le_of_ble_eq_true rfl, Nat.le_of_ble_eq_true rfl⟩ ⟨rfl, rfl⟩ hP hS ix_20 rfl rfl rfl rfl hl.1 (Nat.le_of_ble_eq_true rfl) ⟨Nat.zero_le _, Nat.zero_le _⟩ rfl dX7_restart_23 (fun H locs hP hS => ?_)
  obtain ⟨v5, M6, hv5, h⟩ := bP_e h
  refine mw_callVi X (c_X1_keepUnlessError l E hA hv5) pk_X1_keepUnlessError pv_X1_keepUnlessError wm_345 ⟨Nat.le_of_ble_eq_true rfl, Nat.le_of_ble_eq_true rfl⟩ ⟨rfl, rfl⟩ hP hS ix_23 rfl rfl rfl rfl hl.1 (Nat.le_of_ble_eq_true rfl) ⟨Nat.zero_le _, Nat.zero_le _⟩ rfl dX7_restart_26 (fun H locs hP hS => ?_)
  have h := Option.some.inj h
  exact mw_iret X hr hlocks hP hS (congrArg Prod.fst h) (congrArg Prod.snd h) dX7_restart_29
/-! SealedGroups.pageOf -/
noncomputable def f_X7_pageOf  (M : Mem) (a1 a2 : Int32) : Option Int32 :=
(if a1 < 0 then
some (-1000001 : Int32)
else
(if (8 : Int32) ≤ a1 then
some (-1000001 : Int32)
else
(if a2 < 0 then
some (-1000001 : Int32)
else
(if a2 ≤ (8 : Int32) then
(if a2 = (7 : Int32) then
bO (f_X0_holderOf 0 M a1) (fun v6 =>
some v6)
else if a2 = (8 : Int32) then
bO (f_X2_settledValueOf 0 M a1) (fun v8 =>
some v8)
else 
bO (f_X4_tell 0 M a1 a2) (fun v9 =>
some v9))
else
some (-1000001 : Int32)))))
theorem pk_X7_pageOf : Pk "SealedGroups" yX7_pageOf cX7_pageOf 3 (some .int) 2 := ⟨wm_104, wm_2, rfl, by decide +kernel⟩
theorem pv_X7_pageOf : Cond.instanceMethod yX7_pageOf ∈ wsL_law ∧ Cond.selects "SealedGroups" yX7_pageOf yX7_pageOf ∈ wsL_law := ⟨wm_102, wm_103⟩
set_option maxHeartbeats 4000000 in
set_option maxRecDepth 100000 in
theorem c_X7_pageOf (l : Launch) (E : En) (hA : AdOK E) {M : Mem} {a1 a2 : Int32} {r0 : Int32}  (h : f_X7_pageOf M a1 a2 = some r0) : Met l yX7_pageOf (Wm yX7_pageOf cX7_pageOf 3 (some .int)) ({ frames := 2, cells := 0, slots := 0, locals := 45 } : Room) (va_Pc [Value.ref (E.2.2 10 27), Value.int a1, Value.int a2] (Wd E M)) (QI E r0 M) 0 0 (AA E) := by
  refine Met.ofW (cc := cX7_pageOf) (maxL := 3) (ret := (some .int)) (by decide +kernel) rfl ?_
  intro p e s m args below meth c s₁ B hml hv
  obtain ⟨rfl, hP, hK⟩ := hv
  have X : Cx E (AA E) p s m c _ cX7_pageOf 3 RX7 := ⟨⟨B.exec, B.bytes, hml, findClass_of_methodNamed B.named, fun w hw => atoms_spec (ws := Wm yX7_pageOf cX7_pageOf 3 (some .int)) B.pre w (List.mem_cons_of_mem _ hw)⟩, hK, hA, fun _ h => h⟩
  have hx := B.exec
  have hb := B.bytes
  have hr := B.returns
  have hlocks := B.notSynchronized
  clear B hml
  have hS : va_S (AA E) s.heap s.heap [] := va_S.rf
  have hl := lv_entry ([Value.ref (E.2.2 10 27), Value.int a1, Value.int a2]) (n := 3) (Nat.le_of_ble_eq_true rfl)
  rw [lg_entry_eq]
  generalize (lg_sl ([Value.ref (E.2.2 10 27), Value.int a1, Value.int a2]) ++ List.replicate (3 - (lg_sl ([Value.ref (E.2.2 10 27), Value.int a1, Value.int a2])).length) Slot.unset).toArray = ls at hl ⊢
  have hl : lv_has ls 3 [(0, .ref (E.2.2 10 27)), (1, .int a1), (2, .int a2)] := hl
  unfold f_X7_pageOf at h
  refine lv_iload_n hx hb dX7_pageOf_0 rfl (lv_at hl 1 rfl) ?_
  refine lv_if_lt (tgt := 20) hx hb dX7_pageOf_1 (by decide) (fun c1 => ?_) (fun c1 => ?_)
  · have h := br_1 h c1
    refine lv_ldc hx hb X.1.2.2.2.1 (X.1.2.2.2.2 _ wm_105) dX7_pageOf_20 ?_
    exact mw_iret X hr hlocks hP hS (Option.some.inj h) rfl dX7_pageOf_22
  · have h := br_0 h c1
    refine lv_iload_n hx hb dX7_pageOf_4 rfl (lv_at hl 1 rfl) ?_
    refine lv_bipush (v := 8) hx hb dX7_pageOf_5 (by decide) ?_
    refine lv_icmp_ge (tgt := 20) hx hb dX7_pageOf_7 (by decide) (fun c2 => ?_) (fun c2 => ?_)
    · have h := br_1 h c2
      refine lv_ldc hx hb X.1.2.2.2.1 (X.1.2.2.2.2 _ wm_105) dX7_pageOf_20 ?_
      exact mw_iret X hr hlocks hP hS (Option.some.inj h) rfl dX7_pageOf_22
    · have h := br_0 h c2
      refine lv_iload_n hx hb dX7_pageOf_10 rfl (lv_at hl 2 rfl) ?_
      refine lv_if_lt (tgt := 20) hx hb dX7_pageOf_11 (by decide) (fun c3 => ?_) (fun c3 => ?_)
      · have h := br_1 h c3
        refine lv_ldc hx hb X.1.2.2.2.1 (X.1.2.2.2.2 _ wm_105) dX7_pageOf_20 ?_
        exact mw_iret X hr hlocks hP hS (Option.some.inj h) rfl dX7_pageOf_22
      · have h := br_0 h c3
        refine lv_iload_n hx hb dX7_pageOf_14 rfl (lv_at hl 2 rfl) ?_
        refine lv_bipush (v := 8) hx hb dX7_pageOf_15 (by decide) ?_
        refine lv_icmp_le (tgt := 23) hx hb dX7_pageOf_17 (by decide) (fun c4 => ?_) (fun c4 => ?_)
        · have h := br_1 h c4
          refine lv_iload_n hx hb dX7_pageOf_23 rfl (lv_at hl 2 rfl) ?_
          by_cases c5 : a2 = (7 : Int32)
          · have h := br_1 h c5
            refine lv_lookup (tgt := 52) hx hb dX7_pageOf_24 (by decide) (by rw [c5] <;> rfl) (by decide) ?_
            refine lv_aload_n hx hb dX7_pageOf_52 rfl (lv_at hl 0 rfl) ?_
            refine gt_7_0 X wm_17 hP ix_27 dX7_pageOf_53 ?_
            refine gn_6_1 X nf_27 hP (ms (by decide : 0 < 7) 0) dX7_pageOf_56 ?_
            refine lv_iload_n hx hb dX7_pageOf_59 rfl (lv_at hl 1 rfl) ?_
            obtain ⟨v6, hv6, h⟩ := bO_e h
            refine mw_callVi X (c_X0_holderOf l E hA (by decide : 0 < 7) hv6) pk_X0_holderOf pv_X0_holderOf wm_106 ⟨Nat.le_of_ble_eq_true rfl, Nat.le_of_ble_eq_true rfl⟩ ⟨rfl, rfl⟩ hP hS (ms (by decide : 0 < 7) 7) rfl rfl rfl rfl hl.1 (Nat.le_of_ble_eq_true rfl) ⟨Nat.zero_le _, Nat.zero_le _⟩ rfl dX7_pageOf_60 (fun H locs hP hS => ?_)
            exact mw_iret X hr hlocks hP hS (Option.some.inj h) rfl dX7_pageOf_63
          have h := br_0 h c5
          by_cases c7 : a2 = (8 : Int32)
          · have h := br_1 h c7
            refine lv_lookup (tgt := 64) hx hb dX7_pageOf_24 (by decide) (by rw [c7] <;> rfl) (by decide) ?_
            refine lv_aload_n hx hb dX7_pageOf_64 rfl (lv_at hl 0 rfl) ?_
            refine gt_7_0 X wm_17 hP ix_27 dX7_pageOf_65 ?_
            refine gn_6_2 X nf_29 hP (ms (by decide : 0 < 7) 0) dX7_pageOf_68 ?_
            refine lv_iload_n hx hb dX7_pageOf_71 rfl (lv_at hl 1 rfl) ?_
            obtain ⟨v8, hv8, h⟩ := bO_e h
            refine mw_callVi X (c_X2_settledValueOf l E hA (by decide : 0 < 7) hv8) pk_X2_settledValueOf pv_X2_settledValueOf wm_112 ⟨Nat.le_of_ble_eq_true rfl, Nat.le_of_ble_eq_true rfl⟩ ⟨rfl, rfl⟩ hP hS (ms (by decide : 0 < 7) 11) rfl rfl rfl rfl hl.1 (Nat.le_of_ble_eq_true rfl) ⟨Nat.zero_le _, Nat.zero_le _⟩ rfl dX7_pageOf_72 (fun H locs hP hS => ?_)
            exact mw_iret X hr hlocks hP hS (Option.some.inj h) rfl dX7_pageOf_75
          have h := br_0 h c7
          have qc5 := sw_ne c5 (v := 7) rfl
          have qc7 := sw_ne c7 (v := 8) rfl
          refine lv_lookup (tgt := 76) hx hb dX7_pageOf_24 (by decide) (by simp only [Op.lookupswitch.offset_cons, Op.lookupswitch.offset_nil, if_neg (Ne.symm qc5), if_neg (Ne.symm qc7)]; rfl) (by decide) ?_
          refine lv_aload_n hx hb dX7_pageOf_76 rfl (lv_at hl 0 rfl) ?_
          refine gt_7_0 X wm_17 hP ix_27 dX7_pageOf_77 ?_
          refine gn_6_0 X nf_26 hP (ms (by decide : 0 < 7) 0) dX7_pageOf_80 ?_
          refine lv_iload_n hx hb dX7_pageOf_83 rfl (lv_at hl 1 rfl) ?_
          refine lv_iload_n hx hb dX7_pageOf_84 rfl (lv_at hl 2 rfl) ?_
          obtain ⟨v9, hv9, h⟩ := bO_e h
          refine mw_callVi X (c_X4_tell l E hA (by decide : 0 < 7) hv9) pk_X4_tell pv_X4_tell wm_122 ⟨Nat.le_of_ble_eq_true rfl, Nat.le_of_ble_eq_true rfl⟩ ⟨rfl, rfl⟩ hP hS (ms (by decide : 0 < 7) 1) rfl rfl rfl rfl hl.1 (Nat.le_of_ble_eq_true rfl) ⟨Nat.zero_le _, Nat.zero_le _⟩ rfl dX7_pageOf_85 (fun H locs hP hS => ?_)
          exact mw_iret X hr hlocks hP hS (Option.some.inj h) rfl dX7_pageOf_88
        · have h := br_0 h c4
          refine lv_ldc hx hb X.1.2.2.2.1 (X.1.2.2.2.2 _ wm_105) dX7_pageOf_20 ?_
          exact mw_iret X hr hlocks hP hS (Option.some.inj h) rfl dX7_pageOf_22
/-! SealedGroups.recordOf -/
noncomputable def f_X7_recordOf  (M : Mem) (a1 a2 : Int32) : Option Int32 :=
(if a1 < (1 : Int32) then
some (-1000001 : Int32)
else
(if a2 < 0 then
some (-1000001 : Int32)
else
(if a2 ≤ (8 : Int32) then
bO (f_X2_tell 0 M a1 a2) (fun v4 =>
some v4)
else
some (-1000001 : Int32))))
theorem pk_X7_recordOf : Pk "SealedGroups" yX7_recordOf cX7_recordOf 3 (some .int) 2 := ⟨wm_181, wm_2, rfl, by decide +kernel⟩
theorem pv_X7_recordOf : Cond.instanceMethod yX7_recordOf ∈ wsL_law ∧ Cond.selects "SealedGroups" yX7_recordOf yX7_recordOf ∈ wsL_law := ⟨wm_179, wm_180⟩
set_option maxHeartbeats 4000000 in
set_option maxRecDepth 100000 in
theorem c_X7_recordOf (l : Launch) (E : En) (hA : AdOK E) {M : Mem} {a1 a2 : Int32} {r0 : Int32}  (h : f_X7_recordOf M a1 a2 = some r0) : Met l yX7_recordOf (Wm yX7_recordOf cX7_recordOf 3 (some .int)) ({ frames := 2, cells := 0, slots := 0, locals := 47 } : Room) (va_Pc [Value.ref (E.2.2 10 27), Value.int a1, Value.int a2] (Wd E M)) (QI E r0 M) 0 0 (AA E) := by
  refine Met.ofW (cc := cX7_recordOf) (maxL := 3) (ret := (some .int)) (by decide +kernel) rfl ?_
  intro p e s m args below meth c s₁ B hml hv
  obtain ⟨rfl, hP, hK⟩ := hv
  have X : Cx E (AA E) p s m c _ cX7_recordOf 3 RX7 := ⟨⟨B.exec, B.bytes, hml, findClass_of_methodNamed B.named, fun w hw => atoms_spec (ws := Wm yX7_recordOf cX7_recordOf 3 (some .int)) B.pre w (List.mem_cons_of_mem _ hw)⟩, hK, hA, fun _ h => h⟩
  have hx := B.exec
  have hb := B.bytes
  have hr := B.returns
  have hlocks := B.notSynchronized
  clear B hml
  have hS : va_S (AA E) s.heap s.heap [] := va_S.rf
  have hl := lv_entry ([Value.ref (E.2.2 10 27), Value.int a1, Value.int a2]) (n := 3) (Nat.le_of_ble_eq_true rfl)
  rw [lg_entry_eq]
  generalize (lg_sl ([Value.ref (E.2.2 10 27), Value.int a1, Value.int a2]) ++ List.replicate (3 - (lg_sl ([Value.ref (E.2.2 10 27), Value.int a1, Value.int a2])).length) Slot.unset).toArray = ls at hl ⊢
  have hl : lv_has ls 3 [(0, .ref (E.2.2 10 27)), (1, .int a1), (2, .int a2)] := hl
  unfold f_X7_recordOf at h
  refine lv_iload_n hx hb dX7_recordOf_0 rfl (lv_at hl 1 rfl) ?_
  refine lv_iconst (v := 1) hx hb dX7_recordOf_1 (by decide) ?_
  refine lv_icmp_lt (tgt := 15) hx hb dX7_recordOf_2 (by decide) (fun c1 => ?_) (fun c1 => ?_)
  · have h := br_1 h c1
    refine lv_ldc hx hb X.1.2.2.2.1 (X.1.2.2.2.2 _ wm_105) dX7_recordOf_15 ?_
    exact mw_iret X hr hlocks hP hS (Option.some.inj h) rfl dX7_recordOf_17
  · have h := br_0 h c1
    refine lv_iload_n hx hb dX7_recordOf_5 rfl (lv_at hl 2 rfl) ?_
    refine lv_if_lt (tgt := 15) hx hb dX7_recordOf_6 (by decide) (fun c2 => ?_) (fun c2 => ?_)
    · have h := br_1 h c2
      refine lv_ldc hx hb X.1.2.2.2.1 (X.1.2.2.2.2 _ wm_105) dX7_recordOf_15 ?_
      exact mw_iret X hr hlocks hP hS (Option.some.inj h) rfl dX7_recordOf_17
    · have h := br_0 h c2
      refine lv_iload_n hx hb dX7_recordOf_9 rfl (lv_at hl 2 rfl) ?_
      refine lv_bipush (v := 8) hx hb dX7_recordOf_10 (by decide) ?_
      refine lv_icmp_le (tgt := 18) hx hb dX7_recordOf_12 (by decide) (fun c3 => ?_) (fun c3 => ?_)
      · have h := br_1 h c3
        refine lv_aload_n hx hb dX7_recordOf_18 rfl (lv_at hl 0 rfl) ?_
        refine gt_7_0 X wm_17 hP ix_27 dX7_recordOf_19 ?_
        refine gn_6_2 X nf_29 hP (ms (by decide : 0 < 7) 0) dX7_recordOf_22 ?_
        refine lv_iload_n hx hb dX7_recordOf_25 rfl (lv_at hl 1 rfl) ?_
        refine lv_iload_n hx hb dX7_recordOf_26 rfl (lv_at hl 2 rfl) ?_
        obtain ⟨v4, hv4, h⟩ := bO_e h
        refine mw_callVi X (c_X2_tell l E hA (by decide : 0 < 7) hv4) pk_X2_tell pv_X2_tell wm_182 ⟨Nat.le_of_ble_eq_true rfl, Nat.le_of_ble_eq_true rfl⟩ ⟨rfl, rfl⟩ hP hS (ms (by decide : 0 < 7) 11) rfl rfl rfl rfl hl.1 (Nat.le_of_ble_eq_true rfl) ⟨Nat.zero_le _, Nat.zero_le _⟩ rfl dX7_recordOf_27 (fun H locs hP hS => ?_)
        exact mw_iret X hr hlocks hP hS (Option.some.inj h) rfl dX7_recordOf_30
      · have h := br_0 h c3
        refine lv_ldc hx hb X.1.2.2.2.1 (X.1.2.2.2.2 _ wm_105) dX7_recordOf_15 ?_
        exact mw_iret X hr hlocks hP hS (Option.some.inj h) rfl dX7_recordOf_17
/-! SealedGroups.groupOf -/
noncomputable def f_X7_groupOf  (M : Mem) (a1 a2 : Int32) : Option Int32 :=
(if a1 < 0 then
some (-1000001 : Int32)
else
(if (4 : Int32) ≤ a1 then
some (-1000001 : Int32)
else
(if a2 < 0 then
some (-1000001 : Int32)
else
(if a2 ≤ (3 : Int32) then
bO (f_X0_tell 0 M a1 a2) (fun v5 =>
some v5)
else
some (-1000001 : Int32)))))
theorem pk_X7_groupOf : Pk "SealedGroups" yX7_groupOf cX7_groupOf 3 (some .int) 2 := ⟨wm_148, wm_2, rfl, by decide +kernel⟩
theorem pv_X7_groupOf : Cond.instanceMethod yX7_groupOf ∈ wsL_law ∧ Cond.selects "SealedGroups" yX7_groupOf yX7_groupOf ∈ wsL_law := ⟨wm_146, wm_147⟩
set_option maxHeartbeats 4000000 in
set_option maxRecDepth 100000 in
theorem c_X7_groupOf (l : Launch) (E : En) (hA : AdOK E) {M : Mem} {a1 a2 : Int32} {r0 : Int32}  (h : f_X7_groupOf M a1 a2 = some r0) : Met l yX7_groupOf (Wm yX7_groupOf cX7_groupOf 3 (some .int)) ({ frames := 2, cells := 0, slots := 0, locals := 43 } : Room) (va_Pc [Value.ref (E.2.2 10 27), Value.int a1, Value.int a2] (Wd E M)) (QI E r0 M) 0 0 (AA E) := by
  refine Met.ofW (cc := cX7_groupOf) (maxL := 3) (ret := (some .int)) (by decide +kernel) rfl ?_
  intro p e s m args below meth c s₁ B hml hv
  obtain ⟨rfl, hP, hK⟩ := hv
  have X : Cx E (AA E) p s m c _ cX7_groupOf 3 RX7 := ⟨⟨B.exec, B.bytes, hml, findClass_of_methodNamed B.named, fun w hw => atoms_spec (ws := Wm yX7_groupOf cX7_groupOf 3 (some .int)) B.pre w (List.mem_cons_of_mem _ hw)⟩, hK, hA, fun _ h => h⟩
  have hx := B.exec
  have hb := B.bytes
  have hr := B.returns
  have hlocks := B.notSynchronized
  clear B hml
  have hS : va_S (AA E) s.heap s.heap [] := va_S.rf
  have hl := lv_entry ([Value.ref (E.2.2 10 27), Value.int a1, Value.int a2]) (n := 3) (Nat.le_of_ble_eq_true rfl)
  rw [lg_entry_eq]
  generalize (lg_sl ([Value.ref (E.2.2 10 27), Value.int a1, Value.int a2]) ++ List.replicate (3 - (lg_sl ([Value.ref (E.2.2 10 27), Value.int a1, Value.int a2])).length) Slot.unset).toArray = ls at hl ⊢
  have hl : lv_has ls 3 [(0, .ref (E.2.2 10 27)), (1, .int a1), (2, .int a2)] := hl
  unfold f_X7_groupOf at h
  refine lv_iload_n hx hb dX7_groupOf_0 rfl (lv_at hl 1 rfl) ?_
  refine lv_if_lt (tgt := 18) hx hb dX7_groupOf_1 (by decide) (fun c1 => ?_) (fun c1 => ?_)
  · have h := br_1 h c1
    refine lv_ldc hx hb X.1.2.2.2.1 (X.1.2.2.2.2 _ wm_105) dX7_groupOf_18 ?_
    exact mw_iret X hr hlocks hP hS (Option.some.inj h) rfl dX7_groupOf_20
  · have h := br_0 h c1
    refine lv_iload_n hx hb dX7_groupOf_4 rfl (lv_at hl 1 rfl) ?_
    refine lv_iconst (v := 4) hx hb dX7_groupOf_5 (by decide) ?_
    refine lv_icmp_ge (tgt := 18) hx hb dX7_groupOf_6 (by decide) (fun c2 => ?_) (fun c2 => ?_)
    · have h := br_1 h c2
      refine lv_ldc hx hb X.1.2.2.2.1 (X.1.2.2.2.2 _ wm_105) dX7_groupOf_18 ?_
      exact mw_iret X hr hlocks hP hS (Option.some.inj h) rfl dX7_groupOf_20
    · have h := br_0 h c2
      refine lv_iload_n hx hb dX7_groupOf_9 rfl (lv_at hl 2 rfl) ?_
      refine lv_if_lt (tgt := 18) hx hb dX7_groupOf_10 (by decide) (fun c3 => ?_) (fun c3 => ?_)
      · have h := br_1 h c3
        refine lv_ldc hx hb X.1.2.2.2.1 (X.1.2.2.2.2 _ wm_105) dX7_groupOf_18 ?_
        exact mw_iret X hr hlocks hP hS (Option.some.inj h) rfl dX7_groupOf_20
      · have h := br_0 h c3
        refine lv_iload_n hx hb dX7_groupOf_13 rfl (lv_at hl 2 rfl) ?_
        refine lv_iconst (v := 3) hx hb dX7_groupOf_14 (by decide) ?_
        refine lv_icmp_le (tgt := 21) hx hb dX7_groupOf_15 (by decide) (fun c4 => ?_) (fun c4 => ?_)
        · have h := br_1 h c4
          refine lv_aload_n hx hb dX7_groupOf_21 rfl (lv_at hl 0 rfl) ?_
          refine gt_7_0 X wm_17 hP ix_27 dX7_groupOf_22 ?_
          refine gn_6_1 X nf_27 hP (ms (by decide : 0 < 7) 0) dX7_groupOf_25 ?_
          refine lv_iload_n hx hb dX7_groupOf_28 rfl (lv_at hl 1 rfl) ?_
          refine lv_iload_n hx hb dX7_groupOf_29 rfl (lv_at hl 2 rfl) ?_
          obtain ⟨v5, hv5, h⟩ := bO_e h
          refine mw_callVi X (c_X0_tell l E hA (by decide : 0 < 7) hv5) pk_X0_tell pv_X0_tell wm_149 ⟨Nat.le_of_ble_eq_true rfl, Nat.le_of_ble_eq_true rfl⟩ ⟨rfl, rfl⟩ hP hS (ms (by decide : 0 < 7) 7) rfl rfl rfl rfl hl.1 (Nat.le_of_ble_eq_true rfl) ⟨Nat.zero_le _, Nat.zero_le _⟩ rfl dX7_groupOf_30 (fun H locs hP hS => ?_)
          exact mw_iret X hr hlocks hP hS (Option.some.inj h) rfl dX7_groupOf_33
        · have h := br_0 h c4
          refine lv_ldc hx hb X.1.2.2.2.1 (X.1.2.2.2.2 _ wm_105) dX7_groupOf_18 ?_
          exact mw_iret X hr hlocks hP hS (Option.some.inj h) rfl dX7_groupOf_20
/-! SealedGroups.would -/
noncomputable def f_X7_would_L43  (M : Mem) (y1 y2 y3 : Int32) : Option (Int32 × Mem) :=
(if (M 0 0 3) = 0 then
bO (f_X6_copyFrom 1 0 M) (fun M8 =>
bP (f_X6_stopStore 1 M8 y1) (fun v9 M10 =>
bP (f_X5_run 1 M10) (fun v11 M12 =>
(if y3 = 0 then
(if y2 = 0 then
some (v9, M12)
else
bO (f_X5_tell M12 y2) (fun v15 =>
some (v15, M12)))
else
bO (f_X4_valueOf 1 M12 (y2 - (10 : Int32))) (fun v16 =>
some (v16, M12))))))
else
some ((-1000002 : Int32), M))
noncomputable def f_X7_would_L17  (M : Mem) (y1 y2 z0 : Int32) : Option (Int32 × Mem) :=
(if y1 < 0 then
some ((-1000001 : Int32), M)
else
(if (1 : Int32) < y1 then
some ((-1000001 : Int32), M)
else
(if y2 < 0 then
some ((-1000001 : Int32), M)
else
(if y2 ≤ (4 : Int32) then
f_X7_would_L43 M y1 y2 z0
else
(if z0 = 0 then
some ((-1000001 : Int32), M)
else
f_X7_would_L43 M y1 y2 z0)))))
noncomputable def f_X7_would_L16  (M : Mem) (y1 y2 : Int32) : Option (Int32 × Mem) :=
f_X7_would_L17 M y1 y2 (0 : Int32)
noncomputable def f_X7_would  (M : Mem) (a1 a2 : Int32) : Option (Int32 × Mem) :=
(if a2 < (10 : Int32) then
f_X7_would_L16 M a1 a2
else
(if (18 : Int32) ≤ a2 then
f_X7_would_L16 M a1 a2
else
f_X7_would_L17 M a1 a2 (1 : Int32)))
theorem pk_X7_would : Pk "SealedGroups" yX7_would cX7_would 5 (some .int) 2 := ⟨wm_506, wm_2, rfl, by decide +kernel⟩
theorem pv_X7_would : Cond.instanceMethod yX7_would ∈ wsL_law ∧ Cond.selects "SealedGroups" yX7_would yX7_would ∈ wsL_law := ⟨wm_504, wm_505⟩
set_option maxHeartbeats 4000000 in
set_option maxRecDepth 100000 in
theorem c_X7_would (l : Launch) (E : En) (hA : AdOK E) {M : Mem} {a1 a2 : Int32} {r0 : Int32} {M0 : Mem}  (h : f_X7_would M a1 a2 = some (r0, M0)) : Met l yX7_would (Wm yX7_would cX7_would 5 (some .int)) ({ frames := 5, cells := 0, slots := 0, locals := 108 } : Room) (va_Pc [Value.ref (E.2.2 10 27), Value.int a1, Value.int a2] (Wd E M)) (QI E r0 M0) 0 0 (AA E) := by
  refine Met.ofW (cc := cX7_would) (maxL := 5) (ret := (some .int)) (by decide +kernel) rfl ?_
  intro p e s m args below meth c s₁ B hml hv
  obtain ⟨rfl, hP, hK⟩ := hv
  have X : Cx E (AA E) p s m c _ cX7_would 5 RX7 := ⟨⟨B.exec, B.bytes, hml, findClass_of_methodNamed B.named, fun w hw => atoms_spec (ws := Wm yX7_would cX7_would 5 (some .int)) B.pre w (List.mem_cons_of_mem _ hw)⟩, hK, hA, fun _ h => h⟩
  have hx := B.exec
  have hb := B.bytes
  have hr := B.returns
  have hlocks := B.notSynchronized
  clear B hml
  have hS : va_S (AA E) s.heap s.heap [] := va_S.rf
  have hl := lv_entry ([Value.ref (E.2.2 10 27), Value.int a1, Value.int a2]) (n := 5) (Nat.le_of_ble_eq_true rfl)
  rw [lg_entry_eq]
  generalize (lg_sl ([Value.ref (E.2.2 10 27), Value.int a1, Value.int a2]) ++ List.replicate (5 - (lg_sl ([Value.ref (E.2.2 10 27), Value.int a1, Value.int a2])).length) Slot.unset).toArray = ls at hl ⊢
  have hl : lv_has ls 5 [(0, .ref (E.2.2 10 27)), (1, .int a1), (2, .int a2)] := hl
  have w_L43 : ∀ (M : Mem) (y1 y2 y3 : Int32) (H : Heap) (locs : List Loc) (ls : Array Slot), f_X7_would_L43  M y1 y2 y3 = some (r0, M0) → va_P E.1 vwCl (wl E M) H → va_S (AA E) s.heap H locs → lv_has ls 5 [(0, .ref (E.2.2 10 27)), (1, .int y1), (2, .int y2), (3, .int y3)] → W p l e (headSpec (Wm yX7_would cX7_would 5 (some .int)) ({ frames := 5, cells := 0, slots := 0, locals := 108 } : Room)).room s m ([Value.ref (E.2.2 10 27), Value.int a1, Value.int a2] : List Value).toArray below meth c H locs 0 0 (MQ below (QI E r0 M0) ([Value.ref (E.2.2 10 27), Value.int a1, Value.int a2] : List Value).toArray s 0 0 (AA E)) (F0 m 43 ls []) := by
    intro M y1 y2 y3 H locs ls h hP hS hl
    unfold f_X7_would_L43 at h
    refine lv_aload_n hx hb dX7_would_43 rfl (lv_at hl 0 rfl) ?_
    refine gt_7_0 X wm_17 hP ix_27 dX7_would_44 ?_
    refine gn_6_3 X nf_31 hP (ms (by decide : 0 < 7) 0) dX7_would_47 ?_
    refine lv_if_eq (tgt := 56) hx hb dX7_would_50 (by decide) (fun c6 => ?_) (fun c6 => ?_)
    · have h := br_1 h c6
      refine lv_aload_n hx hb dX7_would_56 rfl (lv_at hl 0 rfl) ?_
      refine gt_7_1 X wm_18 hP ix_27 dX7_would_57 ?_
      refine lv_aload_n hx hb dX7_would_60 rfl (lv_at hl 0 rfl) ?_
      refine gt_7_0 X wm_17 hP ix_27 dX7_would_61 ?_
      obtain ⟨M8, hv7, h⟩ := bO_e h
      refine mw_callVv X (c_X6_copyFrom l E hA (by decide : 1 < 7) (by decide : 0 < 7) hv7) pk_X6_copyFrom pv_X6_copyFrom wm_508 ⟨Nat.le_of_ble_eq_true rfl, Nat.le_of_ble_eq_true rfl⟩ ⟨rfl, rfl⟩ hP hS (ms (by decide : 1 < 7) 0) rfl rfl rfl rfl hl.1 (Nat.le_of_ble_eq_true rfl) ⟨Nat.zero_le _, Nat.zero_le _⟩ rfl dX7_would_64 (fun H locs hP hS => ?_)
      refine lv_aload_n hx hb dX7_would_67 rfl (lv_at hl 0 rfl) ?_
      refine gt_7_1 X wm_18 hP ix_27 dX7_would_68 ?_
      refine lv_iload_n hx hb dX7_would_71 rfl (lv_at hl 1 rfl) ?_
      obtain ⟨v9, M10, hv9, h⟩ := bP_e h
      refine mw_callVi X (c_X6_stopStore l E hA (by decide : 1 < 7) hv9) pk_X6_stopStore pv_X6_stopStore wm_486 ⟨Nat.le_of_ble_eq_true rfl, Nat.le_of_ble_eq_true rfl⟩ ⟨rfl, rfl⟩ hP hS (ms (by decide : 1 < 7) 0) rfl rfl rfl rfl hl.1 (Nat.le_of_ble_eq_true rfl) ⟨Nat.zero_le _, Nat.zero_le _⟩ rfl dX7_would_72 (fun H locs hP hS => ?_)
      refine lv_istore (lv' := [(4, .int v9), (0, .ref (E.2.2 10 27)), (1, .int y1), (2, .int y2), (3, .int y3)]) hx hb dX7_would_75 hl (by decide) rfl (fun ls hl => ?_)
      refine lv_aload_n hx hb dX7_would_77 rfl (lv_at hl 1 rfl) ?_
      refine gt_7_2 X wm_22 hP ix_27 dX7_would_78 ?_
      refine lv_aload_n hx hb dX7_would_81 rfl (lv_at hl 1 rfl) ?_
      refine gt_7_1 X wm_18 hP ix_27 dX7_would_82 ?_
      obtain ⟨v11, M12, hv11, h⟩ := bP_e h
      refine mw_callVi X (c_X5_run l E hA (by decide : 1 < 7) hv11) pk_X5_run pv_X5_run wm_271 ⟨Nat.le_of_ble_eq_true rfl, Nat.le_of_ble_eq_true rfl⟩ ⟨rfl, rfl⟩ hP hS ix_20 rfl rfl rfl rfl hl.1 (Nat.le_of_ble_eq_true rfl) ⟨Nat.zero_le _, Nat.zero_le _⟩ rfl dX7_would_85 (fun H locs hP hS => ?_)
      refine lv_pop hx hb dX7_would_88 rfl ?_
      refine lv_iload_n hx hb dX7_would_89 rfl (lv_at hl 4 rfl) ?_
      refine lv_if_eq (tgt := 108) hx hb dX7_would_90 (by decide) (fun c13 => ?_) (fun c13 => ?_)
      · have h := br_1 h c13
        refine lv_iload_n hx hb dX7_would_108 rfl (lv_at hl 3 rfl) ?_
        refine lv_if_ne (tgt := 117) hx hb dX7_would_109 (by decide) (fun c14 => ?_) (fun c14 => ?_)
        · have h := br_0 h c14
          refine lv_aload_n hx hb dX7_would_117 rfl (lv_at hl 1 rfl) ?_
          refine gt_7_2 X wm_22 hP ix_27 dX7_would_118 ?_
          refine lv_iload_n hx hb dX7_would_121 rfl (lv_at hl 3 rfl) ?_
          obtain ⟨v15, hv15, h⟩ := bO_e h
          refine mw_callVi X (c_X5_tell l E hA hv15) pk_X5_tell pv_X5_tell wm_510 ⟨Nat.le_of_ble_eq_true rfl, Nat.le_of_ble_eq_true rfl⟩ ⟨rfl, rfl⟩ hP hS ix_20 rfl rfl rfl rfl hl.1 (Nat.le_of_ble_eq_true rfl) ⟨Nat.zero_le _, Nat.zero_le _⟩ rfl dX7_would_122 (fun H locs hP hS => ?_)
          have h := Option.some.inj h
          exact mw_iret X hr hlocks hP hS (congrArg Prod.fst h) (congrArg Prod.snd h) dX7_would_125
        · have h := br_1 h c14
          refine lv_iload hx hb dX7_would_112 (lv_at hl 0 rfl) ?_
          refine lv_goto (tgt := 125) hx hb dX7_would_114 (by decide) ?_
          have h := Option.some.inj h
          exact mw_iret X hr hlocks hP hS (congrArg Prod.fst h) (congrArg Prod.snd h) dX7_would_125
      · have h := br_0 h c13
        refine lv_aload_n hx hb dX7_would_93 rfl (lv_at hl 1 rfl) ?_
        refine gt_7_1 X wm_18 hP ix_27 dX7_would_94 ?_
        refine gn_6_0 X nf_26 hP (ms (by decide : 1 < 7) 0) dX7_would_97 ?_
        refine lv_iload_n hx hb dX7_would_100 rfl (lv_at hl 3 rfl) ?_
        refine lv_bipush (v := 10) hx hb dX7_would_101 (by decide) ?_
        refine lv_isub hx hb dX7_would_103 ?_
        obtain ⟨v16, hv16, h⟩ := bO_e h
        refine mw_callVi X (c_X4_valueOf l E hA (by decide : 1 < 7) hv16) pk_X4_valueOf pv_X4_valueOf wm_509 ⟨Nat.le_of_ble_eq_true rfl, Nat.le_of_ble_eq_true rfl⟩ ⟨rfl, rfl⟩ hP hS (ms (by decide : 1 < 7) 1) rfl rfl rfl rfl hl.1 (Nat.le_of_ble_eq_true rfl) ⟨Nat.zero_le _, Nat.zero_le _⟩ rfl dX7_would_104 (fun H locs hP hS => ?_)
        have h := Option.some.inj h
        exact mw_iret X hr hlocks hP hS (congrArg Prod.fst h) (congrArg Prod.snd h) dX7_would_107
    · have h := br_0 h c6
      refine lv_ldc hx hb X.1.2.2.2.1 (X.1.2.2.2.2 _ wm_507) dX7_would_53 ?_
      have h := Option.some.inj h
      exact mw_iret X hr hlocks hP hS (congrArg Prod.fst h) (congrArg Prod.snd h) dX7_would_55
  have w_L17 : ∀ (M : Mem) (y1 y2 z0 : Int32) (H : Heap) (locs : List Loc) (ls : Array Slot), f_X7_would_L17  M y1 y2 z0 = some (r0, M0) → va_P E.1 vwCl (wl E M) H → va_S (AA E) s.heap H locs → lv_has ls 5 [(0, .ref (E.2.2 10 27)), (1, .int y1), (2, .int y2)] → W p l e (headSpec (Wm yX7_would cX7_would 5 (some .int)) ({ frames := 5, cells := 0, slots := 0, locals := 108 } : Room)).room s m ([Value.ref (E.2.2 10 27), Value.int a1, Value.int a2] : List Value).toArray below meth c H locs 0 0 (MQ below (QI E r0 M0) ([Value.ref (E.2.2 10 27), Value.int a1, Value.int a2] : List Value).toArray s 0 0 (AA E)) (F0 m 17 ls [.int z0]) := by
    intro M y1 y2 z0 H locs ls h hP hS hl
    unfold f_X7_would_L17 at h
    refine lv_istore_n (lv' := [(3, .int z0), (0, .ref (E.2.2 10 27)), (1, .int y1), (2, .int y2)]) hx hb dX7_would_17 rfl hl (by decide) rfl (fun ls hl => ?_)
    refine lv_iload_n hx hb dX7_would_18 rfl (lv_at hl 2 rfl) ?_
    refine lv_if_lt (tgt := 40) hx hb dX7_would_19 (by decide) (fun c2 => ?_) (fun c2 => ?_)
    · have h := br_1 h c2
      refine lv_ldc hx hb X.1.2.2.2.1 (X.1.2.2.2.2 _ wm_105) dX7_would_40 ?_
      have h := Option.some.inj h
      exact mw_iret X hr hlocks hP hS (congrArg Prod.fst h) (congrArg Prod.snd h) dX7_would_42
    · have h := br_0 h c2
      refine lv_iload_n hx hb dX7_would_22 rfl (lv_at hl 2 rfl) ?_
      refine lv_iconst (v := 1) hx hb dX7_would_23 (by decide) ?_
      refine lv_icmp_gt (tgt := 40) hx hb dX7_would_24 (by decide) (fun c3 => ?_) (fun c3 => ?_)
      · have h := br_1 h c3
        refine lv_ldc hx hb X.1.2.2.2.1 (X.1.2.2.2.2 _ wm_105) dX7_would_40 ?_
        have h := Option.some.inj h
        exact mw_iret X hr hlocks hP hS (congrArg Prod.fst h) (congrArg Prod.snd h) dX7_would_42
      · have h := br_0 h c3
        refine lv_iload_n hx hb dX7_would_27 rfl (lv_at hl 3 rfl) ?_
        refine lv_if_lt (tgt := 40) hx hb dX7_would_28 (by decide) (fun c4 => ?_) (fun c4 => ?_)
        · have h := br_1 h c4
          refine lv_ldc hx hb X.1.2.2.2.1 (X.1.2.2.2.2 _ wm_105) dX7_would_40 ?_
          have h := Option.some.inj h
          exact mw_iret X hr hlocks hP hS (congrArg Prod.fst h) (congrArg Prod.snd h) dX7_would_42
        · have h := br_0 h c4
          refine lv_iload_n hx hb dX7_would_31 rfl (lv_at hl 3 rfl) ?_
          refine lv_iconst (v := 4) hx hb dX7_would_32 (by decide) ?_
          refine lv_icmp_le (tgt := 43) hx hb dX7_would_33 (by decide) (fun c5 => ?_) (fun c5 => ?_)
          · have h := br_1 h c5
            exact w_L43 _ _ _ _ _ _ _ h hP hS (lv_sub hl [1, 2, 3, 0] rfl)
          · have h := br_0 h c5
            refine lv_iload_n hx hb dX7_would_36 rfl (lv_at hl 0 rfl) ?_
            refine lv_if_ne (tgt := 43) hx hb dX7_would_37 (by decide) (fun c17 => ?_) (fun c17 => ?_)
            · have h := br_0 h c17
              exact w_L43 _ _ _ _ _ _ _ h hP hS (lv_sub hl [1, 2, 3, 0] rfl)
            · have h := br_1 h c17
              refine lv_ldc hx hb X.1.2.2.2.1 (X.1.2.2.2.2 _ wm_105) dX7_would_40 ?_
              have h := Option.some.inj h
              exact mw_iret X hr hlocks hP hS (congrArg Prod.fst h) (congrArg Prod.snd h) dX7_would_42
  have w_L16 : ∀ (M : Mem) (y1 y2 : Int32) (H : Heap) (locs : List Loc) (ls : Array Slot), f_X7_would_L16  M y1 y2 = some (r0, M0) → va_P E.1 vwCl (wl E M) H → va_S (AA E) s.heap H locs → lv_has ls 5 [(0, .ref (E.2.2 10 27)), (1, .int y1), (2, .int y2)] → W p l e (headSpec (Wm yX7_would cX7_would 5 (some .int)) ({ frames := 5, cells := 0, slots := 0, locals := 108 } : Room)).room s m ([Value.ref (E.2.2 10 27), Value.int a1, Value.int a2] : List Value).toArray below meth c H locs 0 0 (MQ below (QI E r0 M0) ([Value.ref (E.2.2 10 27), Value.int a1, Value.int a2] : List Value).toArray s 0 0 (AA E)) (F0 m 16 ls []) := by
    intro M y1 y2 H locs ls h hP hS hl
    unfold f_X7_would_L16 at h
    refine lv_iconst (v := 0) hx hb dX7_would_16 (by decide) ?_
    exact w_L17 _ _ _ _ _ _ _ h hP hS (lv_sub hl [0, 1, 2] rfl)
  unfold f_X7_would at h
  refine lv_iload_n hx hb dX7_would_0 rfl (lv_at hl 2 rfl) ?_
  refine lv_bipush (v := 10) hx hb dX7_would_1 (by decide) ?_
  refine lv_icmp_lt (tgt := 16) hx hb dX7_would_3 (by decide) (fun c1 => ?_) (fun c1 => ?_)
  · have h := br_1 h c1
    exact w_L16 _ _ _ _ _ _ h hP hS (lv_sub hl [0, 1, 2] rfl)
  · have h := br_0 h c1
    refine lv_iload_n hx hb dX7_would_6 rfl (lv_at hl 2 rfl) ?_
    refine lv_bipush (v := 18) hx hb dX7_would_7 (by decide) ?_
    refine lv_icmp_ge (tgt := 16) hx hb dX7_would_9 (by decide) (fun c18 => ?_) (fun c18 => ?_)
    · have h := br_1 h c18
      exact w_L16 _ _ _ _ _ _ h hP hS (lv_sub hl [0, 1, 2] rfl)
    · have h := br_0 h c18
      refine lv_iconst (v := 1) hx hb dX7_would_12 (by decide) ?_
      refine lv_goto (tgt := 17) hx hb dX7_would_13 (by decide) ?_
      exact w_L17 _ _ _ _ _ _ _ h hP hS (lv_sub hl [0, 1, 2] rfl)
/-! SealedGroups.count -/
noncomputable def f_X7_count_L125  (M : Mem) (y1 : Int32) : Option Int32 :=
bO (f_X2_tellNumber 0 M y1) (fun v7 =>
some v7)
noncomputable def f_X7_count  (M : Mem) (a1 : Int32) : Option Int32 :=
(if a1 = (4 : Int32) then
some (M 0 7 3)
else if a1 = (5 : Int32) then
some (M 0 1 5)
else if a1 = (6 : Int32) then
some (M 0 1 6)
else if a1 = (7 : Int32) then
(if (M 0 0 3) = 0 then
some (0 : Int32)
else
some (1 : Int32))
else if a1 = (8 : Int32) then
f_X7_count_L125 M a1
else if a1 = (9 : Int32) then
f_X7_count_L125 M a1
else if a1 = (10 : Int32) then
some (M 0 0 4)
else if a1 = (11 : Int32) then
some (M 8 23 2)
else if a1 = (12 : Int32) then
some (M 9 25 1)
else 
f_X7_count_L125 M a1)
theorem pk_X7_count : Pk "SealedGroups" yX7_count cX7_count 2 (some .int) 1 := ⟨wm_198, wm_2, rfl, by decide +kernel⟩
theorem pv_X7_count : Cond.instanceMethod yX7_count ∈ wsL_law ∧ Cond.selects "SealedGroups" yX7_count yX7_count ∈ wsL_law := ⟨wm_196, wm_197⟩
set_option maxHeartbeats 4000000 in
set_option maxRecDepth 100000 in
theorem c_X7_count (l : Launch) (E : En) (hA : AdOK E) {M : Mem} {a1 : Int32} {r0 : Int32}  (h : f_X7_count M a1 = some r0) : Met l yX7_count (Wm yX7_count cX7_count 2 (some .int)) ({ frames := 3, cells := 0, slots := 0, locals := 62 } : Room) (va_Pc [Value.ref (E.2.2 10 27), Value.int a1] (Wd E M)) (QI E r0 M) 0 0 (AA E) := by
  refine Met.ofW (cc := cX7_count) (maxL := 2) (ret := (some .int)) (by decide +kernel) rfl ?_
  intro p e s m args below meth c s₁ B hml hv
  obtain ⟨rfl, hP, hK⟩ := hv
  have X : Cx E (AA E) p s m c _ cX7_count 2 RX7 := ⟨⟨B.exec, B.bytes, hml, findClass_of_methodNamed B.named, fun w hw => atoms_spec (ws := Wm yX7_count cX7_count 2 (some .int)) B.pre w (List.mem_cons_of_mem _ hw)⟩, hK, hA, fun _ h => h⟩
  have hx := B.exec
  have hb := B.bytes
  have hr := B.returns
  have hlocks := B.notSynchronized
  clear B hml
  have hS : va_S (AA E) s.heap s.heap [] := va_S.rf
  have hl := lv_entry ([Value.ref (E.2.2 10 27), Value.int a1]) (n := 2) (Nat.le_of_ble_eq_true rfl)
  rw [lg_entry_eq]
  generalize (lg_sl ([Value.ref (E.2.2 10 27), Value.int a1]) ++ List.replicate (2 - (lg_sl ([Value.ref (E.2.2 10 27), Value.int a1])).length) Slot.unset).toArray = ls at hl ⊢
  have hl : lv_has ls 2 [(0, .ref (E.2.2 10 27)), (1, .int a1)] := hl
  have w_L125 : ∀  (y1 : Int32) (H : Heap) (locs : List Loc) (ls : Array Slot), f_X7_count_L125 M y1 = some r0 → va_P E.1 vwCl (wl E M) H → va_S (AA E) s.heap H locs → lv_has ls 2 [(0, .ref (E.2.2 10 27)), (1, .int y1)] → W p l e (headSpec (Wm yX7_count cX7_count 2 (some .int)) ({ frames := 3, cells := 0, slots := 0, locals := 62 } : Room)).room s m ([Value.ref (E.2.2 10 27), Value.int a1] : List Value).toArray below meth c H locs 0 0 (MQ below (QI E r0 M) ([Value.ref (E.2.2 10 27), Value.int a1] : List Value).toArray s 0 0 (AA E)) (F0 m 125 ls []) := by
    intro y1 H locs ls h hP hS hl
    unfold f_X7_count_L125 at h
    refine lv_aload_n hx hb dX7_count_125 rfl (lv_at hl 0 rfl) ?_
    refine gt_7_0 X wm_17 hP ix_27 dX7_count_126 ?_
    refine gn_6_2 X nf_29 hP (ms (by decide : 0 < 7) 0) dX7_count_129 ?_
    refine lv_iload_n hx hb dX7_count_132 rfl (lv_at hl 1 rfl) ?_
    obtain ⟨v7, hv7, h⟩ := bO_e h
    refine mw_callVi X (c_X2_tellNumber l E hA (by decide : 0 < 7) hv7) pk_X2_tellNumber pv_X2_tellNumber wm_199 ⟨Nat.le_of_ble_eq_true rfl, Nat.le_of_ble_eq_true rfl⟩ ⟨rfl, rfl⟩ hP hS (ms (by decide : 0 < 7) 11) rfl rfl rfl rfl hl.1 (Nat.le_of_ble_eq_true rfl) ⟨Nat.zero_le _, Nat.zero_le _⟩ rfl dX7_count_133 (fun H locs hP hS => ?_)
    exact mw_iret X hr hlocks hP hS (Option.some.inj h) rfl dX7_count_136
  unfold f_X7_count at h
  refine lv_iload_n hx hb dX7_count_0 rfl (lv_at hl 1 rfl) ?_
  by_cases c1 : a1 = (4 : Int32)
  · have h := br_1 h c1
    refine lv_tableIn (tgt := 52) hx hb dX7_count_1 (by rw [c1] <;> decide) (by rw [c1] <;> decide) (by rw [c1] <;> rfl) (by decide) ?_
    refine lv_aload_n hx hb dX7_count_52 rfl (lv_at hl 0 rfl) ?_
    refine gt_7_0 X wm_17 hP ix_27 dX7_count_53 ?_
    refine gn_6_1 X nf_27 hP (ms (by decide : 0 < 7) 0) dX7_count_56 ?_
    refine gn_0_3 X nf_9 hP (ms (by decide : 0 < 7) 7) dX7_count_59 ?_
    exact mw_iret X hr hlocks hP hS (Option.some.inj h) rfl dX7_count_62
  have h := br_0 h c1
  by_cases c2 : a1 = (5 : Int32)
  · have h := br_1 h c2
    refine lv_tableIn (tgt := 63) hx hb dX7_count_1 (by rw [c2] <;> decide) (by rw [c2] <;> decide) (by rw [c2] <;> rfl) (by decide) ?_
    refine lv_aload_n hx hb dX7_count_63 rfl (lv_at hl 0 rfl) ?_
    refine gt_7_0 X wm_17 hP ix_27 dX7_count_64 ?_
    refine gn_6_0 X nf_26 hP (ms (by decide : 0 < 7) 0) dX7_count_67 ?_
    refine gn_4_5 X nf_2 hP (ms (by decide : 0 < 7) 1) dX7_count_70 ?_
    exact mw_iret X hr hlocks hP hS (Option.some.inj h) rfl dX7_count_73
  have h := br_0 h c2
  by_cases c3 : a1 = (6 : Int32)
  · have h := br_1 h c3
    refine lv_tableIn (tgt := 74) hx hb dX7_count_1 (by rw [c3] <;> decide) (by rw [c3] <;> decide) (by rw [c3] <;> rfl) (by decide) ?_
    refine lv_aload_n hx hb dX7_count_74 rfl (lv_at hl 0 rfl) ?_
    refine gt_7_0 X wm_17 hP ix_27 dX7_count_75 ?_
    refine gn_6_0 X nf_26 hP (ms (by decide : 0 < 7) 0) dX7_count_78 ?_
    refine gn_4_6 X nf_5 hP (ms (by decide : 0 < 7) 1) dX7_count_81 ?_
    exact mw_iret X hr hlocks hP hS (Option.some.inj h) rfl dX7_count_84
  have h := br_0 h c3
  by_cases c4 : a1 = (7 : Int32)
  · have h := br_1 h c4
    refine lv_tableIn (tgt := 85) hx hb dX7_count_1 (by rw [c4] <;> decide) (by rw [c4] <;> decide) (by rw [c4] <;> rfl) (by decide) ?_
    refine lv_aload_n hx hb dX7_count_85 rfl (lv_at hl 0 rfl) ?_
    refine gt_7_0 X wm_17 hP ix_27 dX7_count_86 ?_
    refine gn_6_3 X nf_31 hP (ms (by decide : 0 < 7) 0) dX7_count_89 ?_
    refine lv_if_eq (tgt := 99) hx hb dX7_count_92 (by decide) (fun c5 => ?_) (fun c5 => ?_)
    · have h := br_1 h c5
      refine lv_iconst (v := 0) hx hb dX7_count_99 (by decide) ?_
      exact mw_iret X hr hlocks hP hS (Option.some.inj h) rfl dX7_count_100
    · have h := br_0 h c5
      refine lv_iconst (v := 1) hx hb dX7_count_95 (by decide) ?_
      refine lv_goto (tgt := 100) hx hb dX7_count_96 (by decide) ?_
      exact mw_iret X hr hlocks hP hS (Option.some.inj h) rfl dX7_count_100
  have h := br_0 h c4
  by_cases c6 : a1 = (8 : Int32)
  · have h := br_1 h c6
    refine lv_tableIn (tgt := 125) hx hb dX7_count_1 (by rw [c6] <;> decide) (by rw [c6] <;> decide) (by rw [c6] <;> rfl) (by decide) ?_
    exact w_L125 _ _ _ _ h hP hS (lv_sub hl [0, 1] rfl)
  have h := br_0 h c6
  by_cases c8 : a1 = (9 : Int32)
  · have h := br_1 h c8
    refine lv_tableIn (tgt := 125) hx hb dX7_count_1 (by rw [c8] <;> decide) (by rw [c8] <;> decide) (by rw [c8] <;> rfl) (by decide) ?_
    exact w_L125 _ _ _ _ h hP hS (lv_sub hl [0, 1] rfl)
  have h := br_0 h c8
  by_cases c9 : a1 = (10 : Int32)
  · have h := br_1 h c9
    refine lv_tableIn (tgt := 101) hx hb dX7_count_1 (by rw [c9] <;> decide) (by rw [c9] <;> decide) (by rw [c9] <;> rfl) (by decide) ?_
    refine lv_aload_n hx hb dX7_count_101 rfl (lv_at hl 0 rfl) ?_
    refine gt_7_0 X wm_17 hP ix_27 dX7_count_102 ?_
    refine gn_6_4 X nf_33 hP (ms (by decide : 0 < 7) 0) dX7_count_105 ?_
    exact mw_iret X hr hlocks hP hS (Option.some.inj h) rfl dX7_count_108
  have h := br_0 h c9
  by_cases c10 : a1 = (11 : Int32)
  · have h := br_1 h c10
    refine lv_tableIn (tgt := 109) hx hb dX7_count_1 (by rw [c10] <;> decide) (by rw [c10] <;> decide) (by rw [c10] <;> rfl) (by decide) ?_
    refine lv_aload_n hx hb dX7_count_109 rfl (lv_at hl 0 rfl) ?_
    refine gt_7_3 X wm_26 hP ix_27 dX7_count_110 ?_
    refine gn_1_2 X nf_34 hP ix_23 dX7_count_113 ?_
    exact mw_iret X hr hlocks hP hS (Option.some.inj h) rfl dX7_count_116
  have h := br_0 h c10
  by_cases c11 : a1 = (12 : Int32)
  · have h := br_1 h c11
    refine lv_tableIn (tgt := 117) hx hb dX7_count_1 (by rw [c11] <;> decide) (by rw [c11] <;> decide) (by rw [c11] <;> rfl) (by decide) ?_
    refine lv_aload_n hx hb dX7_count_117 rfl (lv_at hl 0 rfl) ?_
    refine gt_7_4 X wm_30 hP ix_27 dX7_count_118 ?_
    refine gn_3_1 X nf_35 hP ix_25 dX7_count_121 ?_
    exact mw_iret X hr hlocks hP hS (Option.some.inj h) rfl dX7_count_124
  have h := br_0 h c11
  have qc1 := sw_ne c1 (v := 4) rfl
  have qc2 := sw_ne c2 (v := 5) rfl
  have qc3 := sw_ne c3 (v := 6) rfl
  have qc4 := sw_ne c4 (v := 7) rfl
  have qc6 := sw_ne c6 (v := 8) rfl
  have qc8 := sw_ne c8 (v := 9) rfl
  have qc9 := sw_ne c9 (v := 10) rfl
  have qc10 := sw_ne c10 (v := 11) rfl
  have qc11 := sw_ne c11 (v := 12) rfl
  refine lv_tableOut (tgt := 125) hx hb dX7_count_1 (by omega) (by decide) ?_
  exact w_L125 _ _ _ _ h hP hS (lv_sub hl [0, 1] rfl)
