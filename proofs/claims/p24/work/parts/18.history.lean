/-! SealedGroups$History.rowAt -/
noncomputable def f_X1_rowAt  (M : Mem) (a1 : Int32) : Option Nat :=
bO (f_J9_floorMod_7cf53 M ((M 8 23 1) + a1) (5 : Int32)) (fun v1 =>
(if (5 : Int32) ≤ v1 then
none
else
gd (inb v1 5) (
some (2 + (v1).toNatClampNeg))))
theorem pk_X1_rowAt : Pk "SealedGroups$History" yX1_rowAt cX1_rowAt 3 (some (.object "SealedGroups$Store")) 1 := ⟨wm_241, wm_25, rfl, by decide +kernel⟩
theorem pv_X1_rowAt : Cond.instanceMethod yX1_rowAt ∈ wsL_law ∧ Cond.selects "SealedGroups$History" yX1_rowAt yX1_rowAt ∈ wsL_law := ⟨wm_239, wm_240⟩
set_option maxHeartbeats 4000000 in
set_option maxRecDepth 100000 in
theorem c_X1_rowAt (l : Launch) (E : En) (hA : AdOK E) {M : Mem} {a1 : Int32} {g0 : Nat}  (h : f_X1_rowAt M a1 = some g0) : Met l yX1_rowAt (Wm yX1_rowAt cX1_rowAt 3 (some (.object "SealedGroups$Store"))) ({ frames := 1, cells := 0, slots := 0, locals := 22 } : Room) (va_Pc [Value.ref (E.2.2 8 23), Value.int a1] (Wd E M)) (QR E g0 M) 0 0 (AA E) := by
  refine Met.ofW (cc := cX1_rowAt) (maxL := 3) (ret := (some (.object "SealedGroups$Store"))) (by decide +kernel) rfl ?_
  intro p e s m args below meth c s₁ B hml hv
  obtain ⟨rfl, hP, hK⟩ := hv
  have X : Cx E (AA E) p s m c _ cX1_rowAt 3 RX1 := ⟨⟨B.exec, B.bytes, hml, findClass_of_methodNamed B.named, fun w hw => atoms_spec (ws := Wm yX1_rowAt cX1_rowAt 3 (some (.object "SealedGroups$Store"))) B.pre w (List.mem_cons_of_mem _ hw)⟩, hK, hA, fun _ h => h⟩
  have hx := B.exec
  have hb := B.bytes
  have hr := B.returns
  have hlocks := B.notSynchronized
  clear B hml
  have hS : va_S (AA E) s.heap s.heap [] := va_S.rf
  have hl := lv_entry ([Value.ref (E.2.2 8 23), Value.int a1]) (n := 3) (Nat.le_of_ble_eq_true rfl)
  rw [lg_entry_eq]
  generalize (lg_sl ([Value.ref (E.2.2 8 23), Value.int a1]) ++ List.replicate (3 - (lg_sl ([Value.ref (E.2.2 8 23), Value.int a1])).length) Slot.unset).toArray = ls at hl ⊢
  have hl : lv_has ls 3 [(0, .ref (E.2.2 8 23)), (1, .int a1)] := hl
  unfold f_X1_rowAt at h
  refine lv_aload_n hx hb dX1_rowAt_0 rfl (lv_at hl 0 rfl) ?_
  refine gt_1_1 X wm_242 hP ix_23 dX1_rowAt_1 ?_
  refine lv_iload_n hx hb dX1_rowAt_4 rfl (lv_at hl 1 rfl) ?_
  refine lv_iadd hx hb dX1_rowAt_5 ?_
  refine lv_iconst (v := 5) hx hb dX1_rowAt_6 (by decide) ?_
  obtain ⟨v1, hv1, h⟩ := bO_e h
  refine mw_callSi X (c_J9_floorMod_7cf53 l E hA hv1) pk_J9_floorMod_7cf53 wm_244 wm_243 ⟨Nat.le_of_ble_eq_true rfl, Nat.le_of_ble_eq_true rfl⟩ ⟨rfl, rfl⟩ hP hS rfl hl.1 (Nat.le_of_ble_eq_true rfl) ⟨Nat.zero_le _, Nat.zero_le _⟩ rfl dX1_rowAt_7 (fun H locs hP hS => ?_)
  refine lv_istore_n (lv' := [(2, .int v1), (0, .ref (E.2.2 8 23)), (1, .int a1)]) hx hb dX1_rowAt_10 rfl hl (by decide) rfl (fun ls hl => ?_)
  refine lv_iload_n hx hb dX1_rowAt_11 rfl (lv_at hl 0 rfl) ?_
  refine lv_iconst (v := 5) hx hb dX1_rowAt_12 (by decide) ?_
  refine lv_icmp_ge (tgt := 25) hx hb dX1_rowAt_13 (by decide) (fun c2 => ?_) (fun c2 => ?_)
  · have h := br_1 h c2
    cases h
  · have h := br_0 h c2
    refine lv_aload_n hx hb dX1_rowAt_16 rfl (lv_at hl 1 rfl) ?_
    refine gt_1_0 X wm_81 hP ix_23 dX1_rowAt_17 ?_
    refine lv_iload_n hx hb dX1_rowAt_20 rfl (lv_at hl 0 rfl) ?_
    obtain ⟨g3, h⟩ := gd_e h
    refine mw_ald X hP (inb_vp g3) dX1_rowAt_21 ?_
    refine lv_goto (tgt := 26) hx hb dX1_rowAt_22 (by decide) ?_
    exact mw_aret X hr hlocks hP hS (Option.some.inj h) rfl dX1_rowAt_26
/-! SealedGroups$History.prepare -/
noncomputable def f_X1_prepare (j : Nat) (M : Mem) : Option Mem :=
bO (f_X1_rowAt M (M 8 23 2)) (fun gv1 =>
gd (gv1 < 7) (
bO (f_X6_copyFrom gv1 j M) (fun M3 =>
some M3)))
theorem pk_X1_prepare : Pk "SealedGroups$History" yX1_prepare cX1_prepare 3 none 1 := ⟨wm_236, wm_25, rfl, by decide +kernel⟩
theorem pv_X1_prepare : Cond.instanceMethod yX1_prepare ∈ wsL_law ∧ Cond.selects "SealedGroups$History" yX1_prepare yX1_prepare ∈ wsL_law := ⟨wm_234, wm_235⟩
set_option maxHeartbeats 4000000 in
set_option maxRecDepth 100000 in
theorem c_X1_prepare (l : Launch) (E : En) (hA : AdOK E) {j : Nat} {M : Mem} {M0 : Mem} (hj : j < 7) (h : f_X1_prepare j M = some M0) : Met l yX1_prepare (Wm yX1_prepare cX1_prepare 3 none) ({ frames := 3, cells := 0, slots := 0, locals := 68 } : Room) (va_Pc [Value.ref (E.2.2 8 23), Value.ref (E.2.2 j 0)] (Wd E M)) (QV E M0) 0 0 (AA E) := by
  refine Met.ofW (cc := cX1_prepare) (maxL := 3) (ret := none) (by decide +kernel) rfl ?_
  intro p e s m args below meth c s₁ B hml hv
  obtain ⟨rfl, hP, hK⟩ := hv
  have X : Cx E (AA E) p s m c _ cX1_prepare 3 RX1 := ⟨⟨B.exec, B.bytes, hml, findClass_of_methodNamed B.named, fun w hw => atoms_spec (ws := Wm yX1_prepare cX1_prepare 3 none) B.pre w (List.mem_cons_of_mem _ hw)⟩, hK, hA, fun _ h => h⟩
  have hx := B.exec
  have hb := B.bytes
  have hr := B.returns
  have hlocks := B.notSynchronized
  clear B hml
  have hS : va_S (AA E) s.heap s.heap [] := va_S.rf
  have hl := lv_entry ([Value.ref (E.2.2 8 23), Value.ref (E.2.2 j 0)]) (n := 3) (Nat.le_of_ble_eq_true rfl)
  rw [lg_entry_eq]
  generalize (lg_sl ([Value.ref (E.2.2 8 23), Value.ref (E.2.2 j 0)]) ++ List.replicate (3 - (lg_sl ([Value.ref (E.2.2 8 23), Value.ref (E.2.2 j 0)])).length) Slot.unset).toArray = ls at hl ⊢
  have hl : lv_has ls 3 [(0, .ref (E.2.2 8 23)), (1, .ref (E.2.2 j 0))] := hl
  unfold f_X1_prepare at h
  refine lv_aload_n hx hb dX1_prepare_0 rfl (lv_at hl 0 rfl) ?_
  refine lv_aload_n hx hb dX1_prepare_1 rfl (lv_at hl 0 rfl) ?_
  refine gt_1_2 X wm_237 hP ix_23 dX1_prepare_2 ?_
  obtain ⟨gv1, hv1, h⟩ := bO_e h
  obtain ⟨hgv1, h⟩ := gd_e h
  refine mw_callVr X (c_X1_rowAt l E hA hv1) pk_X1_rowAt pv_X1_rowAt wm_238 ⟨Nat.le_of_ble_eq_true rfl, Nat.le_of_ble_eq_true rfl⟩ ⟨rfl, rfl⟩ hP hS ix_23 rfl rfl rfl rfl hl.1 (Nat.le_of_ble_eq_true rfl) ⟨Nat.zero_le _, Nat.zero_le _⟩ rfl dX1_prepare_5 (fun H locs hP hS => ?_)
  refine lv_astore_n (lv' := [(2, .ref (E.2.2 gv1 0)), (0, .ref (E.2.2 8 23)), (1, .ref (E.2.2 j 0))]) hx hb dX1_prepare_8 rfl hl (by decide) rfl (fun ls hl => ?_)
  refine lv_aload_n hx hb dX1_prepare_9 rfl (lv_at hl 0 rfl) ?_
  refine lv_ifnull hx hb dX1_prepare_10 ?_
  refine lv_aload_n hx hb dX1_prepare_13 rfl (lv_at hl 0 rfl) ?_
  refine lv_aload_n hx hb dX1_prepare_14 rfl (lv_at hl 2 rfl) ?_
  obtain ⟨M3, hv2, h⟩ := bO_e h
  refine mw_callVv X (c_X6_copyFrom l E hA hgv1 hj hv2) pk_X6_copyFrom pv_X6_copyFrom wm_247 ⟨Nat.le_of_ble_eq_true rfl, Nat.le_of_ble_eq_true rfl⟩ ⟨rfl, rfl⟩ hP hS (ms hgv1 0) rfl rfl rfl rfl hl.1 (Nat.le_of_ble_eq_true rfl) ⟨Nat.zero_le _, Nat.zero_le _⟩ rfl dX1_prepare_15 (fun H locs hP hS => ?_)
  exact mw_vret X hr hlocks hP hS (Option.some.inj h) dX1_prepare_18
/-! SealedGroups$History.keepUnlessError -/
noncomputable def f_X1_keepUnlessError  (M : Mem) (a1 : Int32) : Option (Int32 × Mem) :=
(if 0 ≤ a1 then
(if (4 : Int32) ≤ (M 8 23 2) then
gd (¬ (5 : Int32) = 0) (
bd (st M 8 23 1 (((M 8 23 1) + (1 : Int32)) - ((M 8 23 1) + (1 : Int32)) / (5 : Int32) * (5 : Int32))) (fun M4 =>
some (a1, M4)))
else
bd (st M 8 23 2 ((M 8 23 2) + (1 : Int32))) (fun M5 =>
some (a1, M5)))
else
some (a1, M))
theorem pk_X1_keepUnlessError : Pk "SealedGroups$History" yX1_keepUnlessError cX1_keepUnlessError 2 (some .int) 1 := ⟨wm_348, wm_25, rfl, by decide +kernel⟩
theorem pv_X1_keepUnlessError : Cond.instanceMethod yX1_keepUnlessError ∈ wsL_law ∧ Cond.selects "SealedGroups$History" yX1_keepUnlessError yX1_keepUnlessError ∈ wsL_law := ⟨wm_346, wm_347⟩
set_option maxHeartbeats 4000000 in
set_option maxRecDepth 100000 in
theorem c_X1_keepUnlessError (l : Launch) (E : En) (hA : AdOK E) {M : Mem} {a1 : Int32} {r0 : Int32} {M0 : Mem}  (h : f_X1_keepUnlessError M a1 = some (r0, M0)) : Met l yX1_keepUnlessError (Wm yX1_keepUnlessError cX1_keepUnlessError 2 (some .int)) ({ frames := 0, cells := 0, slots := 0, locals := 0 } : Room) (va_Pc [Value.ref (E.2.2 8 23), Value.int a1] (Wd E M)) (QI E r0 M0) 0 0 (AA E) := by
  refine Met.ofW (cc := cX1_keepUnlessError) (maxL := 2) (ret := (some .int)) (by decide +kernel) rfl ?_
  intro p e s m args below meth c s₁ B hml hv
  obtain ⟨rfl, hP, hK⟩ := hv
  have X : Cx E (AA E) p s m c _ cX1_keepUnlessError 2 RX1 := ⟨⟨B.exec, B.bytes, hml, findClass_of_methodNamed B.named, fun w hw => atoms_spec (ws := Wm yX1_keepUnlessError cX1_keepUnlessError 2 (some .int)) B.pre w (List.mem_cons_of_mem _ hw)⟩, hK, hA, fun _ h => h⟩
  have hx := B.exec
  have hb := B.bytes
  have hr := B.returns
  have hlocks := B.notSynchronized
  clear B hml
  have hS : va_S (AA E) s.heap s.heap [] := va_S.rf
  have hl := lv_entry ([Value.ref (E.2.2 8 23), Value.int a1]) (n := 2) (Nat.le_of_ble_eq_true rfl)
  rw [lg_entry_eq]
  generalize (lg_sl ([Value.ref (E.2.2 8 23), Value.int a1]) ++ List.replicate (2 - (lg_sl ([Value.ref (E.2.2 8 23), Value.int a1])).length) Slot.unset).toArray = ls at hl ⊢
  have hl : lv_has ls 2 [(0, .ref (E.2.2 8 23)), (1, .int a1)] := hl
  unfold f_X1_keepUnlessError at h
  refine lv_iload_n hx hb dX1_keepUnlessError_0 rfl (lv_at hl 1 rfl) ?_
  refine lv_if_ge (tgt := 6) hx hb dX1_keepUnlessError_1 (by decide) (fun c1 => ?_) (fun c1 => ?_)
  · have h := br_1 h c1
    refine lv_aload_n hx hb dX1_keepUnlessError_6 rfl (lv_at hl 0 rfl) ?_
    refine gt_1_2 X wm_237 hP ix_23 dX1_keepUnlessError_7 ?_
    refine lv_iconst (v := 4) hx hb dX1_keepUnlessError_10 (by decide) ?_
    refine lv_icmp_ge (tgt := 27) hx hb dX1_keepUnlessError_11 (by decide) (fun c2 => ?_) (fun c2 => ?_)
    · have h := br_1 h c2
      refine lv_aload_n hx hb dX1_keepUnlessError_27 rfl (lv_at hl 0 rfl) ?_
      refine lv_aload_n hx hb dX1_keepUnlessError_28 rfl (lv_at hl 0 rfl) ?_
      refine gt_1_1 X wm_242 hP ix_23 dX1_keepUnlessError_29 ?_
      refine lv_iconst (v := 1) hx hb dX1_keepUnlessError_32 (by decide) ?_
      refine lv_iadd hx hb dX1_keepUnlessError_33 ?_
      refine lv_iconst (v := 5) hx hb dX1_keepUnlessError_34 (by decide) ?_
      obtain ⟨g3, h⟩ := gd_e h
      refine lv_irem hx hb dX1_keepUnlessError_35 g3 ?_
      refine pt_1_1 X wm_242 hP hS ix_23 dX1_keepUnlessError_36 (fun H locs M4 eM4 hP hS => ?_)
      have h := bd_e h eM4
      refine lv_iload_n hx hb dX1_keepUnlessError_39 rfl (lv_at hl 1 rfl) ?_
      have h := Option.some.inj h
      exact mw_iret X hr hlocks hP hS (congrArg Prod.fst h) (congrArg Prod.snd h) dX1_keepUnlessError_40
    · have h := br_0 h c2
      refine lv_aload_n hx hb dX1_keepUnlessError_14 rfl (lv_at hl 0 rfl) ?_
      refine lv_dup hx hb dX1_keepUnlessError_15 rfl ?_
      refine gt_1_2 X wm_237 hP ix_23 dX1_keepUnlessError_16 ?_
      refine lv_iconst (v := 1) hx hb dX1_keepUnlessError_19 (by decide) ?_
      refine lv_iadd hx hb dX1_keepUnlessError_20 ?_
      refine pt_1_2 X wm_237 hP hS ix_23 dX1_keepUnlessError_21 (fun H locs M5 eM5 hP hS => ?_)
      have h := bd_e h eM5
      refine lv_goto (tgt := 39) hx hb dX1_keepUnlessError_24 (by decide) ?_
      refine lv_iload_n hx hb dX1_keepUnlessError_39 rfl (lv_at hl 1 rfl) ?_
      have h := Option.some.inj h
      exact mw_iret X hr hlocks hP hS (congrArg Prod.fst h) (congrArg Prod.snd h) dX1_keepUnlessError_40
  · have h := br_0 h c1
    refine lv_iload_n hx hb dX1_keepUnlessError_4 rfl (lv_at hl 1 rfl) ?_
    have h := Option.some.inj h
    exact mw_iret X hr hlocks hP hS (congrArg Prod.fst h) (congrArg Prod.snd h) dX1_keepUnlessError_5
