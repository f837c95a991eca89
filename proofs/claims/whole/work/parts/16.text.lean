/-! SealedGroups$OrderText.append -/
noncomputable def f_X3_append  (M : Mem) (a1 : Int32) : Option (Int32 × Mem) :=
(if (M 9 25 1) < 0 then
some ((-1000003 : Int32), M)
else
(if (M 9 25 1) < (80 : Int32) then
gd (inb (M 9 25 1) 80) (
bd (st M 9 26 ((M 9 25 1)).toNatClampNeg (vp_nar .char a1)) (fun M3 =>
bd (st M3 9 25 1 ((M3 9 25 1) + (1 : Int32))) (fun M5 =>
some ((M5 9 25 1), M5))))
else
some ((-1000003 : Int32), M)))
theorem pk_X3_append : Pk "SealedGroups$OrderText" yX3_append cX3_append 2 (some .int) 1 := ⟨wm_698, wm_27, rfl, by decide +kernel⟩
theorem pv_X3_append : Cond.instanceMethod yX3_append ∈ wsL_law ∧ Cond.selects "SealedGroups$OrderText" yX3_append yX3_append ∈ wsL_law := ⟨wm_696, wm_697⟩
set_option maxHeartbeats 4000000 in
set_option maxRecDepth 100000 in
theorem c_X3_append (l : Launch) (E : En) (hA : AdOK E) {M : Mem} {a1 : Int32} {r0 : Int32} {M0 : Mem}  (h : f_X3_append M a1 = some (r0, M0)) : Met l yX3_append (Wm yX3_append cX3_append 2 (some .int)) ({ frames := 0, cells := 0, slots := 0, locals := 0 } : Room) (va_Pc [Value.ref (E.2.2 9 25), Value.int a1] (Wd E M)) (QI E r0 M0) 0 0 (AA E) := by
  refine Met.ofW (cc := cX3_append) (maxL := 2) (ret := (some .int)) (by decide +kernel) rfl ?_
  intro p e s m args below meth c s₁ B hml hv
  obtain ⟨rfl, hP, hK⟩ := hv
  have X : Cx E (AA E) p s m c _ cX3_append 2 RX3 := ⟨⟨B.exec, B.bytes, hml, findClass_of_methodNamed B.named, fun w hw => atoms_spec (ws := Wm yX3_append cX3_append 2 (some .int)) B.pre w (List.mem_cons_of_mem _ hw)⟩, hK, hA, fun _ h => h⟩
  have hx := B.exec
  have hb := B.bytes
  have hr := B.returns
  have hlocks := B.notSynchronized
  clear B hml
  have hS : va_S (AA E) s.heap s.heap [] := va_S.rf
  have hl := lv_entry ([Value.ref (E.2.2 9 25), Value.int a1]) (n := 2) (Nat.le_of_ble_eq_true rfl)
  rw [lg_entry_eq]
  generalize (lg_sl ([Value.ref (E.2.2 9 25), Value.int a1]) ++ List.replicate (2 - (lg_sl ([Value.ref (E.2.2 9 25), Value.int a1])).length) Slot.unset).toArray = ls at hl ⊢
  have hl : lv_has ls 2 [(0, .ref (E.2.2 9 25)), (1, .int a1)] := hl
  unfold f_X3_append at h
  refine lv_aload_n hx hb dX3_append_0 rfl (lv_at hl 0 rfl) ?_
  refine gt_3_1 X wm_699 hP ix_25 dX3_append_1 ?_
  refine lv_if_lt (tgt := 16) hx hb dX3_append_4 (by decide) (fun c1 => ?_) (fun c1 => ?_)
  · have h := br_1 h c1
    refine lv_ldc hx hb X.1.2.2.2.1 (X.1.2.2.2.2 _ wm_700) dX3_append_16 ?_
    have h := Option.some.inj h
    exact mw_iret X hr hlocks hP hS (congrArg Prod.fst h) (congrArg Prod.snd h) dX3_append_18
  · have h := br_0 h c1
    refine lv_aload_n hx hb dX3_append_7 rfl (lv_at hl 0 rfl) ?_
    refine gt_3_1 X wm_699 hP ix_25 dX3_append_8 ?_
    refine lv_bipush (v := 80) hx hb dX3_append_11 (by decide) ?_
    refine lv_icmp_lt (tgt := 19) hx hb dX3_append_13 (by decide) (fun c2 => ?_) (fun c2 => ?_)
    · have h := br_1 h c2
      refine lv_aload_n hx hb dX3_append_19 rfl (lv_at hl 0 rfl) ?_
      refine gt_3_0 X wm_85 hP ix_25 dX3_append_20 ?_
      refine lv_aload_n hx hb dX3_append_23 rfl (lv_at hl 0 rfl) ?_
      refine gt_3_1 X wm_699 hP ix_25 dX3_append_24 ?_
      refine lv_iload_n hx hb dX3_append_27 rfl (lv_at hl 1 rfl) ?_
      obtain ⟨g4, h⟩ := gd_e h
      refine mw_cst X hP hS ix_26 (fun _ => rfl) (inb_vp g4) rfl dX3_append_28 (fun H locs M3 eM3 hP hS => ?_)
      have h := bd_e h eM3
      refine lv_aload_n hx hb dX3_append_29 rfl (lv_at hl 0 rfl) ?_
      refine lv_dup hx hb dX3_append_30 rfl ?_
      refine gt_3_1 X wm_699 hP ix_25 dX3_append_31 ?_
      refine lv_iconst (v := 1) hx hb dX3_append_34 (by decide) ?_
      refine lv_iadd hx hb dX3_append_35 ?_
      refine pt_3_1 X wm_699 hP hS ix_25 dX3_append_36 (fun H locs M5 eM5 hP hS => ?_)
      have h := bd_e h eM5
      refine lv_aload_n hx hb dX3_append_39 rfl (lv_at hl 0 rfl) ?_
      refine gt_3_1 X wm_699 hP ix_25 dX3_append_40 ?_
      have h := Option.some.inj h
      exact mw_iret X hr hlocks hP hS (congrArg Prod.fst h) (congrArg Prod.snd h) dX3_append_43
    · have h := br_0 h c2
      refine lv_ldc hx hb X.1.2.2.2.1 (X.1.2.2.2.2 _ wm_700) dX3_append_16 ?_
      have h := Option.some.inj h
      exact mw_iret X hr hlocks hP hS (congrArg Prod.fst h) (congrArg Prod.snd h) dX3_append_18
/-! SealedGroups$OrderText.empty -/
noncomputable def f_X3_empty  (M : Mem) : Option (Int32 × Mem) :=
bd ((M 9 25 1)) (fun x1 =>
bd (st M 9 25 1 (0 : Int32)) (fun M2 =>
some (x1, M2)))
theorem pk_X3_empty : Pk "SealedGroups$OrderText" yX3_empty cX3_empty 2 (some .int) 0 := ⟨wm_712, wm_27, rfl, by decide +kernel⟩
theorem pv_X3_empty : Cond.instanceMethod yX3_empty ∈ wsL_law ∧ Cond.selects "SealedGroups$OrderText" yX3_empty yX3_empty ∈ wsL_law := ⟨wm_710, wm_711⟩
set_option maxHeartbeats 4000000 in
set_option maxRecDepth 100000 in
theorem c_X3_empty (l : Launch) (E : En) (hA : AdOK E) {M : Mem} {r0 : Int32} {M0 : Mem}  (h : f_X3_empty M = some (r0, M0)) : Met l yX3_empty (Wm yX3_empty cX3_empty 2 (some .int)) ({ frames := 0, cells := 0, slots := 0, locals := 0 } : Room) (va_Pc [Value.ref (E.2.2 9 25)] (Wd E M)) (QI E r0 M0) 0 0 (AA E) := by
  refine Met.ofW (cc := cX3_empty) (maxL := 2) (ret := (some .int)) (by decide +kernel) rfl ?_
  intro p e s m args below meth c s₁ B hml hv
  obtain ⟨rfl, hP, hK⟩ := hv
  have X : Cx E (AA E) p s m c _ cX3_empty 2 RX3 := ⟨⟨B.exec, B.bytes, hml, findClass_of_methodNamed B.named, fun w hw => atoms_spec (ws := Wm yX3_empty cX3_empty 2 (some .int)) B.pre w (List.mem_cons_of_mem _ hw)⟩, hK, hA, fun _ h => h⟩
  have hx := B.exec
  have hb := B.bytes
  have hr := B.returns
  have hlocks := B.notSynchronized
  clear B hml
  have hS : va_S (AA E) s.heap s.heap [] := va_S.rf
  have hl := lv_entry ([Value.ref (E.2.2 9 25)]) (n := 2) (Nat.le_of_ble_eq_true rfl)
  rw [lg_entry_eq]
  generalize (lg_sl ([Value.ref (E.2.2 9 25)]) ++ List.replicate (2 - (lg_sl ([Value.ref (E.2.2 9 25)])).length) Slot.unset).toArray = ls at hl ⊢
  have hl : lv_has ls 2 [(0, .ref (E.2.2 9 25))] := hl
  unfold f_X3_empty at h
  refine lv_aload_n hx hb dX3_empty_0 rfl (lv_at hl 0 rfl) ?_
  refine gt_3_1 X wm_699 hP ix_25 dX3_empty_1 ?_
  refine lv_topi (fun x1 ex1 => ?_)
  have h := bd_e h ex1
  refine lv_istore_n (lv' := [(1, .int x1), (0, .ref (E.2.2 9 25))]) hx hb dX3_empty_4 rfl hl (by decide) rfl (fun ls hl => ?_)
  refine lv_aload_n hx hb dX3_empty_5 rfl (lv_at hl 1 rfl) ?_
  refine lv_iconst (v := 0) hx hb dX3_empty_6 (by decide) ?_
  refine pt_3_1 X wm_699 hP hS ix_25 dX3_empty_7 (fun H locs M2 eM2 hP hS => ?_)
  have h := bd_e h eM2
  refine lv_iload_n hx hb dX3_empty_10 rfl (lv_at hl 0 rfl) ?_
  have h := Option.some.inj h
  exact mw_iret X hr hlocks hP hS (congrArg Prod.fst h) (congrArg Prod.snd h) dX3_empty_11
/-! SealedGroups$OrderText.sign -/
noncomputable def f_X3_sign  (M : Mem) : Option Int32 :=
(if (M 9 25 2) < 0 then
some (0 : Int32)
else
(if (M 9 25 1) ≤ (M 9 25 2) then
some (0 : Int32)
else
(if (80 : Int32) ≤ (M 9 25 2) then
some (0 : Int32)
else
gd (inb (M 9 25 2) 80) (
some (M 9 26 ((M 9 25 2)).toNatClampNeg)))))
theorem pk_X3_sign : Pk "SealedGroups$OrderText" yX3_sign cX3_sign 1 (some .int) 0 := ⟨wm_743, wm_27, rfl, by decide +kernel⟩
theorem pv_X3_sign : Cond.instanceMethod yX3_sign ∈ wsL_law ∧ Cond.selects "SealedGroups$OrderText" yX3_sign yX3_sign ∈ wsL_law := ⟨wm_741, wm_742⟩
set_option maxHeartbeats 4000000 in
set_option maxRecDepth 100000 in
theorem c_X3_sign (l : Launch) (E : En) (hA : AdOK E) {M : Mem} {r0 : Int32}  (h : f_X3_sign M = some r0) : Met l yX3_sign (Wm yX3_sign cX3_sign 1 (some .int)) ({ frames := 0, cells := 0, slots := 0, locals := 0 } : Room) (va_Pc [Value.ref (E.2.2 9 25)] (Wd E M)) (QI E r0 M) 0 0 (AA E) := by
  refine Met.ofW (cc := cX3_sign) (maxL := 1) (ret := (some .int)) (by decide +kernel) rfl ?_
  intro p e s m args below meth c s₁ B hml hv
  obtain ⟨rfl, hP, hK⟩ := hv
  have X : Cx E (AA E) p s m c _ cX3_sign 1 RX3 := ⟨⟨B.exec, B.bytes, hml, findClass_of_methodNamed B.named, fun w hw => atoms_spec (ws := Wm yX3_sign cX3_sign 1 (some .int)) B.pre w (List.mem_cons_of_mem _ hw)⟩, hK, hA, fun _ h => h⟩
  have hx := B.exec
  have hb := B.bytes
  have hr := B.returns
  have hlocks := B.notSynchronized
  clear B hml
  have hS : va_S (AA E) s.heap s.heap [] := va_S.rf
  have hl := lv_entry ([Value.ref (E.2.2 9 25)]) (n := 1) (Nat.le_of_ble_eq_true rfl)
  rw [lg_entry_eq]
  generalize (lg_sl ([Value.ref (E.2.2 9 25)]) ++ List.replicate (1 - (lg_sl ([Value.ref (E.2.2 9 25)])).length) Slot.unset).toArray = ls at hl ⊢
  have hl : lv_has ls 1 [(0, .ref (E.2.2 9 25))] := hl
  unfold f_X3_sign at h
  refine lv_aload_n hx hb dX3_sign_0 rfl (lv_at hl 0 rfl) ?_
  refine gt_3_2 X wm_733 hP ix_25 dX3_sign_1 ?_
  refine lv_if_lt (tgt := 39) hx hb dX3_sign_4 (by decide) (fun c1 => ?_) (fun c1 => ?_)
  · have h := br_1 h c1
    refine lv_iconst (v := 0) hx hb dX3_sign_39 (by decide) ?_
    exact mw_iret X hr hlocks hP hS (Option.some.inj h) rfl dX3_sign_40
  · have h := br_0 h c1
    refine lv_aload_n hx hb dX3_sign_7 rfl (lv_at hl 0 rfl) ?_
    refine gt_3_2 X wm_733 hP ix_25 dX3_sign_8 ?_
    refine lv_aload_n hx hb dX3_sign_11 rfl (lv_at hl 0 rfl) ?_
    refine gt_3_1 X wm_699 hP ix_25 dX3_sign_12 ?_
    refine lv_icmp_ge (tgt := 39) hx hb dX3_sign_15 (by decide) (fun c2 => ?_) (fun c2 => ?_)
    · have h := br_1 h c2
      refine lv_iconst (v := 0) hx hb dX3_sign_39 (by decide) ?_
      exact mw_iret X hr hlocks hP hS (Option.some.inj h) rfl dX3_sign_40
    · have h := br_0 h c2
      refine lv_aload_n hx hb dX3_sign_18 rfl (lv_at hl 0 rfl) ?_
      refine gt_3_2 X wm_733 hP ix_25 dX3_sign_19 ?_
      refine lv_bipush (v := 80) hx hb dX3_sign_22 (by decide) ?_
      refine lv_icmp_ge (tgt := 39) hx hb dX3_sign_24 (by decide) (fun c3 => ?_) (fun c3 => ?_)
      · have h := br_1 h c3
        refine lv_iconst (v := 0) hx hb dX3_sign_39 (by decide) ?_
        exact mw_iret X hr hlocks hP hS (Option.some.inj h) rfl dX3_sign_40
      · have h := br_0 h c3
        refine lv_aload_n hx hb dX3_sign_27 rfl (lv_at hl 0 rfl) ?_
        refine gt_3_0 X wm_85 hP ix_25 dX3_sign_28 ?_
        refine lv_aload_n hx hb dX3_sign_31 rfl (lv_at hl 0 rfl) ?_
        refine gt_3_2 X wm_733 hP ix_25 dX3_sign_32 ?_
        obtain ⟨g4, h⟩ := gd_e h
        refine mw_cld X hP ix_26 rfl (inb_vp g4) rfl dX3_sign_35 ?_
        refine lv_goto (tgt := 40) hx hb dX3_sign_36 (by decide) ?_
        exact mw_iret X hr hlocks hP hS (Option.some.inj h) rfl dX3_sign_40
/-! SealedGroups$OrderText.readLetter -/
noncomputable def f_X3_readLetter_L120  (M : Mem) : Option (Int32 × Mem) :=
bd (st M 9 25 2 ((M 9 25 2) + (1 : Int32))) (fun M4 =>
some ((1 : Int32), M4))
noncomputable def f_X3_readLetter  (M : Mem) : Option (Int32 × Mem) :=
bO (f_X3_sign M) (fun v1 =>
bd (st M 9 25 3 v1) (fun M2 =>
(if (M2 9 25 3) = (98 : Int32) then
f_X3_readLetter_L120 M2
else if (M2 9 25 3) = (99 : Int32) then
f_X3_readLetter_L120 M2
else if (M2 9 25 3) = (100 : Int32) then
some ((0 : Int32), M2)
else if (M2 9 25 3) = (101 : Int32) then
some ((0 : Int32), M2)
else if (M2 9 25 3) = (102 : Int32) then
some ((0 : Int32), M2)
else if (M2 9 25 3) = (103 : Int32) then
some ((0 : Int32), M2)
else if (M2 9 25 3) = (104 : Int32) then
some ((0 : Int32), M2)
else if (M2 9 25 3) = (105 : Int32) then
some ((0 : Int32), M2)
else if (M2 9 25 3) = (106 : Int32) then
some ((0 : Int32), M2)
else if (M2 9 25 3) = (107 : Int32) then
some ((0 : Int32), M2)
else if (M2 9 25 3) = (108 : Int32) then
some ((0 : Int32), M2)
else if (M2 9 25 3) = (109 : Int32) then
some ((0 : Int32), M2)
else if (M2 9 25 3) = (110 : Int32) then
some ((0 : Int32), M2)
else if (M2 9 25 3) = (111 : Int32) then
f_X3_readLetter_L120 M2
else if (M2 9 25 3) = (112 : Int32) then
some ((0 : Int32), M2)
else if (M2 9 25 3) = (113 : Int32) then
some ((0 : Int32), M2)
else if (M2 9 25 3) = (114 : Int32) then
f_X3_readLetter_L120 M2
else if (M2 9 25 3) = (115 : Int32) then
f_X3_readLetter_L120 M2
else if (M2 9 25 3) = (116 : Int32) then
f_X3_readLetter_L120 M2
else if (M2 9 25 3) = (117 : Int32) then
some ((0 : Int32), M2)
else if (M2 9 25 3) = (118 : Int32) then
some ((0 : Int32), M2)
else if (M2 9 25 3) = (119 : Int32) then
f_X3_readLetter_L120 M2
else if (M2 9 25 3) = (120 : Int32) then
f_X3_readLetter_L120 M2
else 
some ((0 : Int32), M2))))
theorem pk_X3_readLetter : Pk "SealedGroups$OrderText" yX3_readLetter cX3_readLetter 1 (some .boolean) 0 := ⟨wm_738, wm_27, rfl, by decide +kernel⟩
theorem pv_X3_readLetter : Cond.instanceMethod yX3_readLetter ∈ wsL_law ∧ Cond.selects "SealedGroups$OrderText" yX3_readLetter yX3_readLetter ∈ wsL_law := ⟨wm_736, wm_737⟩
set_option maxHeartbeats 4000000 in
set_option maxRecDepth 100000 in
theorem c_X3_readLetter (l : Launch) (E : En) (hA : AdOK E) {M : Mem} {r0 : Int32} {M0 : Mem}  (h : f_X3_readLetter M = some (r0, M0)) : Met l yX3_readLetter (Wm yX3_readLetter cX3_readLetter 1 (some .boolean)) ({ frames := 1, cells := 0, slots := 0, locals := 20 } : Room) (va_Pc [Value.ref (E.2.2 9 25)] (Wd E M)) (QI E r0 M0) 0 0 (AA E) := by
  refine Met.ofW (cc := cX3_readLetter) (maxL := 1) (ret := (some .boolean)) (by decide +kernel) rfl ?_
  intro p e s m args below meth c s₁ B hml hv
  obtain ⟨rfl, hP, hK⟩ := hv
  have X : Cx E (AA E) p s m c _ cX3_readLetter 1 RX3 := ⟨⟨B.exec, B.bytes, hml, findClass_of_methodNamed B.named, fun w hw => atoms_spec (ws := Wm yX3_readLetter cX3_readLetter 1 (some .boolean)) B.pre w (List.mem_cons_of_mem _ hw)⟩, hK, hA, fun _ h => h⟩
  have hx := B.exec
  have hb := B.bytes
  have hr := B.returns
  have hlocks := B.notSynchronized
  clear B hml
  have hS : va_S (AA E) s.heap s.heap [] := va_S.rf
  have hl := lv_entry ([Value.ref (E.2.2 9 25)]) (n := 1) (Nat.le_of_ble_eq_true rfl)
  rw [lg_entry_eq]
  generalize (lg_sl ([Value.ref (E.2.2 9 25)]) ++ List.replicate (1 - (lg_sl ([Value.ref (E.2.2 9 25)])).length) Slot.unset).toArray = ls at hl ⊢
  have hl : lv_has ls 1 [(0, .ref (E.2.2 9 25))] := hl
  have w_L120 : ∀ (M : Mem) (H : Heap) (locs : List Loc) (ls : Array Slot), f_X3_readLetter_L120  M = some (r0, M0) → va_P E.1 vwCl (wl E M) H → va_S (AA E) s.heap H locs → lv_has ls 1 [(0, .ref (E.2.2 9 25))] → W p l e (headSpec (Wm yX3_readLetter cX3_readLetter 1 (some .boolean)) ({ frames := 1, cells := 0, slots := 0, locals := 20 } : Room)).room s m ([Value.ref (E.2.2 9 25)] : List Value).toArray below meth c H locs 0 0 (MQ below (QI E r0 M0) ([Value.ref (E.2.2 9 25)] : List Value).toArray s 0 0 (AA E)) (F0 m 120 ls []) := by
    intro M H locs ls h hP hS hl
    unfold f_X3_readLetter_L120 at h
    refine lv_aload_n hx hb dX3_readLetter_120 rfl (lv_at hl 0 rfl) ?_
    refine lv_dup hx hb dX3_readLetter_121 rfl ?_
    refine gt_3_2 X wm_733 hP ix_25 dX3_readLetter_122 ?_
    refine lv_iconst (v := 1) hx hb dX3_readLetter_125 (by decide) ?_
    refine lv_iadd hx hb dX3_readLetter_126 ?_
    refine pt_3_2 X wm_733 hP hS ix_25 dX3_readLetter_127 (fun H locs M4 eM4 hP hS => ?_)
    have h := bd_e h eM4
    refine lv_iconst (v := 1) hx hb dX3_readLetter_130 (by decide) ?_
    have h := Option.some.inj h
    exact mw_zret X hr hlocks hP hS (by decide) (congrArg Prod.fst h) (congrArg Prod.snd h) dX3_readLetter_131
  unfold f_X3_readLetter at h
  refine lv_aload_n hx hb dX3_readLetter_0 rfl (lv_at hl 0 rfl) ?_
  refine lv_aload_n hx hb dX3_readLetter_1 rfl (lv_at hl 0 rfl) ?_
  obtain ⟨v1, hv1, h⟩ := bO_e h
  refine mw_callVi X (c_X3_sign l E hA hv1) pk_X3_sign pv_X3_sign wm_740 ⟨Nat.le_of_ble_eq_true rfl, Nat.le_of_ble_eq_true rfl⟩ ⟨rfl, rfl⟩ hP hS ix_25 rfl rfl rfl rfl hl.1 (Nat.le_of_ble_eq_true rfl) ⟨Nat.zero_le _, Nat.zero_le _⟩ rfl dX3_readLetter_2 (fun H locs hP hS => ?_)
  refine pt_3_3 X wm_739 hP hS ix_25 dX3_readLetter_5 (fun H locs M2 eM2 hP hS => ?_)
  have h := bd_e h eM2
  refine lv_aload_n hx hb dX3_readLetter_8 rfl (lv_at hl 0 rfl) ?_
  refine gt_3_3 X wm_739 hP ix_25 dX3_readLetter_9 ?_
  by_cases c3 : (M2 9 25 3) = (98 : Int32)
  · have h := br_1 h c3
    refine lv_tableIn (tgt := 120) hx hb dX3_readLetter_12 (by rw [c3] <;> decide) (by rw [c3] <;> decide) (by rw [c3] <;> rfl) (by decide) ?_
    exact w_L120 _ _ _ _ h hP hS (lv_sub hl [0] rfl)
  have h := br_0 h c3
  by_cases c5 : (M2 9 25 3) = (99 : Int32)
  · have h := br_1 h c5
    refine lv_tableIn (tgt := 120) hx hb dX3_readLetter_12 (by rw [c5] <;> decide) (by rw [c5] <;> decide) (by rw [c5] <;> rfl) (by decide) ?_
    exact w_L120 _ _ _ _ h hP hS (lv_sub hl [0] rfl)
  have h := br_0 h c5
  by_cases c6 : (M2 9 25 3) = (100 : Int32)
  · have h := br_1 h c6
    refine lv_tableIn (tgt := 132) hx hb dX3_readLetter_12 (by rw [c6] <;> decide) (by rw [c6] <;> decide) (by rw [c6] <;> rfl) (by decide) ?_
    refine lv_iconst (v := 0) hx hb dX3_readLetter_132 (by decide) ?_
    have h := Option.some.inj h
    exact mw_zret X hr hlocks hP hS (by decide) (congrArg Prod.fst h) (congrArg Prod.snd h) dX3_readLetter_133
  have h := br_0 h c6
  by_cases c7 : (M2 9 25 3) = (101 : Int32)
  · have h := br_1 h c7
    refine lv_tableIn (tgt := 132) hx hb dX3_readLetter_12 (by rw [c7] <;> decide) (by rw [c7] <;> decide) (by rw [c7] <;> rfl) (by decide) ?_
    refine lv_iconst (v := 0) hx hb dX3_readLetter_132 (by decide) ?_
    have h := Option.some.inj h
    exact mw_zret X hr hlocks hP hS (by decide) (congrArg Prod.fst h) (congrArg Prod.snd h) dX3_readLetter_133
  have h := br_0 h c7
  by_cases c8 : (M2 9 25 3) = (102 : Int32)
  · have h := br_1 h c8
    refine lv_tableIn (tgt := 132) hx hb dX3_readLetter_12 (by rw [c8] <;> decide) (by rw [c8] <;> decide) (by rw [c8] <;> rfl) (by decide) ?_
    refine lv_iconst (v := 0) hx hb dX3_readLetter_132 (by decide) ?_
    have h := Option.some.inj h
    exact mw_zret X hr hlocks hP hS (by decide) (congrArg Prod.fst h) (congrArg Prod.snd h) dX3_readLetter_133
  have h := br_0 h c8
  by_cases c9 : (M2 9 25 3) = (103 : Int32)
  · have h := br_1 h c9
    refine lv_tableIn (tgt := 132) hx hb dX3_readLetter_12 (by rw [c9] <;> decide) (by rw [c9] <;> decide) (by rw [c9] <;> rfl) (by decide) ?_
    refine lv_iconst (v := 0) hx hb dX3_readLetter_132 (by decide) ?_
    have h := Option.some.inj h
    exact mw_zret X hr hlocks hP hS (by decide) (congrArg Prod.fst h) (congrArg Prod.snd h) dX3_readLetter_133
  have h := br_0 h c9
  by_cases c10 : (M2 9 25 3) = (104 : Int32)
  · have h := br_1 h c10
    refine lv_tableIn (tgt := 132) hx hb dX3_readLetter_12 (by rw [c10] <;> decide) (by rw [c10] <;> decide) (by rw [c10] <;> rfl) (by decide) ?_
    refine lv_iconst (v := 0) hx hb dX3_readLetter_132 (by decide) ?_
    have h := Option.some.inj h
    exact mw_zret X hr hlocks hP hS (by decide) (congrArg Prod.fst h) (congrArg Prod.snd h) dX3_readLetter_133
  have h := br_0 h c10
  by_cases c11 : (M2 9 25 3) = (105 : Int32)
  · have h := br_1 h c11
    refine lv_tableIn (tgt := 132) hx hb dX3_readLetter_12 (by rw [c11] <;> decide) (by rw [c11] <;> decide) (by rw [c11] <;> rfl) (by decide) ?_
    refine lv_iconst (v := 0) hx hb dX3_readLetter_132 (by decide) ?_
    have h := Option.some.inj h
    exact mw_zret X hr hlocks hP hS (by decide) (congrArg Prod.fst h) (congrArg Prod.snd h) dX3_readLetter_133
  have h := br_0 h c11
  by_cases c12 : (M2 9 25 3) = (106 : Int32)
  · have h := br_1 h c12
    refine lv_tableIn (tgt := 132) hx hb dX3_readLetter_12 (by rw [c12] <;> decide) (by rw [c12] <;> decide) (by rw [c12] <;> rfl) (by decide) ?_
    refine lv_iconst (v := 0) hx hb dX3_readLetter_132 (by decide) ?_
    have h := Option.some.inj h
    exact mw_zret X hr hlocks hP hS (by decide) (congrArg Prod.fst h) (congrArg Prod.snd h) dX3_readLetter_133
  have h := br_0 h c12
  by_cases c13 : (M2 9 25 3) = (107 : Int32)
  · have h := br_1 h c13
    refine lv_tableIn (tgt := 132) hx hb dX3_readLetter_12 (by rw [c13] <;> decide) (by rw [c13] <;> decide) (by rw [c13] <;> rfl) (by decide) ?_
    refine lv_iconst (v := 0) hx hb dX3_readLetter_132 (by decide) ?_
    have h := Option.some.inj h
    exact mw_zret X hr hlocks hP hS (by decide) (congrArg Prod.fst h) (congrArg Prod.snd h) dX3_readLetter_133
  have h := br_0 h c13
  by_cases c14 : (M2 9 25 3) = (108 : Int32)
  · have h := br_1 h c14
    refine lv_tableIn (tgt := 132) hx hb dX3_readLetter_12 (by rw [c14] <;> decide) (by rw [c14] <;> decide) (by rw [c14] <;> rfl) (by decide) ?_
    refine lv_iconst (v := 0) hx hb dX3_readLetter_132 (by decide) ?_
    have h := Option.some.inj h
    exact mw_zret X hr hlocks hP hS (by decide) (congrArg Prod.fst h) (congrArg Prod.snd h) dX3_readLetter_133
  have h := br_0 h c14
  by_cases c15 : (M2 9 25 3) = (109 : Int32)
  · have h := br_1 h c15
    refine lv_tableIn (tgt := 132) hx hb dX3_readLetter_12 (by rw [c15] <;> decide) (by rw [c15] <;> decide) (by rw [c15] <;> rfl) (by decide) ?_
    refine lv_iconst (v := 0) hx hb dX3_readLetter_132 (by decide) ?_
    have h := Option.some.inj h
    exact mw_zret X hr hlocks hP hS (by decide) (congrArg Prod.fst h) (congrArg Prod.snd h) dX3_readLetter_133
  have h := br_0 h c15
  by_cases c16 : (M2 9 25 3) = (110 : Int32)
  · have h := br_1 h c16
    refine lv_tableIn (tgt := 132) hx hb dX3_readLetter_12 (by rw [c16] <;> decide) (by rw [c16] <;> decide) (by rw [c16] <;> rfl) (by decide) ?_
    refine lv_iconst (v := 0) hx hb dX3_readLetter_132 (by decide) ?_
    have h := Option.some.inj h
    exact mw_zret X hr hlocks hP hS (by decide) (congrArg Prod.fst h) (congrArg Prod.snd h) dX3_readLetter_133
  have h := br_0 h c16
  by_cases c17 : (M2 9 25 3) = (111 : Int32)
  · have h := br_1 h c17
    refine lv_tableIn (tgt := 120) hx hb dX3_readLetter_12 (by rw [c17] <;> decide) (by rw [c17] <;> decide) (by rw [c17] <;> rfl) (by decide) ?_
    exact w_L120 _ _ _ _ h hP hS (lv_sub hl [0] rfl)
  have h := br_0 h c17
  by_cases c18 : (M2 9 25 3) = (112 : Int32)
  · have h := br_1 h c18
    refine lv_tableIn (tgt := 132) hx hb dX3_readLetter_12 (by rw [c18] <;> decide) (by rw [c18] <;> decide) (by rw [c18] <;> rfl) (by decide) ?_
    refine lv_iconst (v := 0) hx hb dX3_readLetter_132 (by decide) ?_
    have h := Option.some.inj h
    exact mw_zret X hr hlocks hP hS (by decide) (congrArg Prod.fst h) (congrArg Prod.snd h) dX3_readLetter_133
  have h := br_0 h c18
  by_cases c19 : (M2 9 25 3) = (113 : Int32)
  · have h := br_1 h c19
    refine lv_tableIn (tgt := 132) hx hb dX3_readLetter_12 (by rw [c19] <;> decide) (by rw [c19] <;> decide) (by rw [c19] <;> rfl) (by decide) ?_
    refine lv_iconst (v := 0) hx hb dX3_readLetter_132 (by decide) ?_
    have h := Option.some.inj h
    exact mw_zret X hr hlocks hP hS (by decide) (congrArg Prod.fst h) (congrArg Prod.snd h) dX3_readLetter_133
  have h := br_0 h c19
  by_cases c20 : (M2 9 25 3) = (114 : Int32)
  · have h := br_1 h c20
    refine lv_tableIn (tgt := 120) hx hb dX3_readLetter_12 (by rw [c20] <;> decide) (by rw [c20] <;> decide) (by rw [c20] <;> rfl) (by decide) ?_
    exact w_L120 _ _ _ _ h hP hS (lv_sub hl [0] rfl)
  have h := br_0 h c20
  by_cases c21 : (M2 9 25 3) = (115 : Int32)
  · have h := br_1 h c21
    refine lv_tableIn (tgt := 120) hx hb dX3_readLetter_12 (by rw [c21] <;> decide) (by rw [c21] <;> decide) (by rw [c21] <;> rfl) (by decide) ?_
    exact w_L120 _ _ _ _ h hP hS (lv_sub hl [0] rfl)
  have h := br_0 h c21
  by_cases c22 : (M2 9 25 3) = (116 : Int32)
  · have h := br_1 h c22
    refine lv_tableIn (tgt := 120) hx hb dX3_readLetter_12 (by rw [c22] <;> decide) (by rw [c22] <;> decide) (by rw [c22] <;> rfl) (by decide) ?_
    exact w_L120 _ _ _ _ h hP hS (lv_sub hl [0] rfl)
  have h := br_0 h c22
  by_cases c23 : (M2 9 25 3) = (117 : Int32)
  · have h := br_1 h c23
    refine lv_tableIn (tgt := 132) hx hb dX3_readLetter_12 (by rw [c23] <;> decide) (by rw [c23] <;> decide) (by rw [c23] <;> rfl) (by decide) ?_
    refine lv_iconst (v := 0) hx hb dX3_readLetter_132 (by decide) ?_
    have h := Option.some.inj h
    exact mw_zret X hr hlocks hP hS (by decide) (congrArg Prod.fst h) (congrArg Prod.snd h) dX3_readLetter_133
  have h := br_0 h c23
  by_cases c24 : (M2 9 25 3) = (118 : Int32)
  · have h := br_1 h c24
    refine lv_tableIn (tgt := 132) hx hb dX3_readLetter_12 (by rw [c24] <;> decide) (by rw [c24] <;> decide) (by rw [c24] <;> rfl) (by decide) ?_
    refine lv_iconst (v := 0) hx hb dX3_readLetter_132 (by decide) ?_
    have h := Option.some.inj h
    exact mw_zret X hr hlocks hP hS (by decide) (congrArg Prod.fst h) (congrArg Prod.snd h) dX3_readLetter_133
  have h := br_0 h c24
  by_cases c25 : (M2 9 25 3) = (119 : Int32)
  · have h := br_1 h c25
    refine lv_tableIn (tgt := 120) hx hb dX3_readLetter_12 (by rw [c25] <;> decide) (by rw [c25] <;> decide) (by rw [c25] <;> rfl) (by decide) ?_
    exact w_L120 _ _ _ _ h hP hS (lv_sub hl [0] rfl)
  have h := br_0 h c25
  by_cases c26 : (M2 9 25 3) = (120 : Int32)
  · have h := br_1 h c26
    refine lv_tableIn (tgt := 120) hx hb dX3_readLetter_12 (by rw [c26] <;> decide) (by rw [c26] <;> decide) (by rw [c26] <;> rfl) (by decide) ?_
    exact w_L120 _ _ _ _ h hP hS (lv_sub hl [0] rfl)
  have h := br_0 h c26
  have qc3 := sw_ne c3 (v := 98) rfl
  have qc5 := sw_ne c5 (v := 99) rfl
  have qc6 := sw_ne c6 (v := 100) rfl
  have qc7 := sw_ne c7 (v := 101) rfl
  have qc8 := sw_ne c8 (v := 102) rfl
  have qc9 := sw_ne c9 (v := 103) rfl
  have qc10 := sw_ne c10 (v := 104) rfl
  have qc11 := sw_ne c11 (v := 105) rfl
  have qc12 := sw_ne c12 (v := 106) rfl
  have qc13 := sw_ne c13 (v := 107) rfl
  have qc14 := sw_ne c14 (v := 108) rfl
  have qc15 := sw_ne c15 (v := 109) rfl
  have qc16 := sw_ne c16 (v := 110) rfl
  have qc17 := sw_ne c17 (v := 111) rfl
  have qc18 := sw_ne c18 (v := 112) rfl
  have qc19 := sw_ne c19 (v := 113) rfl
  have qc20 := sw_ne c20 (v := 114) rfl
  have qc21 := sw_ne c21 (v := 115) rfl
  have qc22 := sw_ne c22 (v := 116) rfl
  have qc23 := sw_ne c23 (v := 117) rfl
  have qc24 := sw_ne c24 (v := 118) rfl
  have qc25 := sw_ne c25 (v := 119) rfl
  have qc26 := sw_ne c26 (v := 120) rfl
  refine lv_tableOut (tgt := 132) hx hb dX3_readLetter_12 (by omega) (by decide) ?_
  refine lv_iconst (v := 0) hx hb dX3_readLetter_132 (by decide) ?_
  have h := Option.some.inj h
  exact mw_zret X hr hlocks hP hS (by decide) (congrArg Prod.fst h) (congrArg Prod.snd h) dX3_readLetter_133
/-! SealedGroups$OrderText.readDigit -/
noncomputable def f_X3_readDigit  (M : Mem) : Option (Int32 × Mem) :=
bO (f_X3_sign M) (fun v1 =>
(if v1 < (48 : Int32) then
some ((-1 : Int32), M)
else
(if v1 ≤ (57 : Int32) then
bd (st M 9 25 2 ((M 9 25 2) + (1 : Int32))) (fun M4 =>
some ((v1 - (48 : Int32)), M4))
else
some ((-1 : Int32), M))))
theorem pk_X3_readDigit : Pk "SealedGroups$OrderText" yX3_readDigit cX3_readDigit 2 (some .int) 0 := ⟨wm_753, wm_27, rfl, by decide +kernel⟩
theorem pv_X3_readDigit : Cond.instanceMethod yX3_readDigit ∈ wsL_law ∧ Cond.selects "SealedGroups$OrderText" yX3_readDigit yX3_readDigit ∈ wsL_law := ⟨wm_751, wm_752⟩
set_option maxHeartbeats 4000000 in
set_option maxRecDepth 100000 in
theorem c_X3_readDigit (l : Launch) (E : En) (hA : AdOK E) {M : Mem} {r0 : Int32} {M0 : Mem}  (h : f_X3_readDigit M = some (r0, M0)) : Met l yX3_readDigit (Wm yX3_readDigit cX3_readDigit 2 (some .int)) ({ frames := 1, cells := 0, slots := 0, locals := 20 } : Room) (va_Pc [Value.ref (E.2.2 9 25)] (Wd E M)) (QI E r0 M0) 0 0 (AA E) := by
  refine Met.ofW (cc := cX3_readDigit) (maxL := 2) (ret := (some .int)) (by decide +kernel) rfl ?_
  intro p e s m args below meth c s₁ B hml hv
  obtain ⟨rfl, hP, hK⟩ := hv
  have X : Cx E (AA E) p s m c _ cX3_readDigit 2 RX3 := ⟨⟨B.exec, B.bytes, hml, findClass_of_methodNamed B.named, fun w hw => atoms_spec (ws := Wm yX3_readDigit cX3_readDigit 2 (some .int)) B.pre w (List.mem_cons_of_mem _ hw)⟩, hK, hA, fun _ h => h⟩
  have hx := B.exec
  have hb := B.bytes
  have hr := B.returns
  have hlocks := B.notSynchronized
  clear B hml
  have hS : va_S (AA E) s.heap s.heap [] := va_S.rf
  have hl := lv_entry ([Value.ref (E.2.2 9 25)]) (n := 2) (Nat.le_of_ble_eq_true rfl)
  rw [lg_entry_eq]
  generalize (lg_sl ([Value.ref (E.2.2 9 25)]) ++ List.replicate (2 - (lg_sl ([Value.ref (E.2.2 9 25)])).length) Slot.unset).toArray = ls at hl ⊢
  have hl : lv_has ls 2 [(0, .ref (E.2.2 9 25))] := hl
  unfold f_X3_readDigit at h
  refine lv_aload_n hx hb dX3_readDigit_0 rfl (lv_at hl 0 rfl) ?_
  obtain ⟨v1, hv1, h⟩ := bO_e h
  refine mw_callVi X (c_X3_sign l E hA hv1) pk_X3_sign pv_X3_sign wm_740 ⟨Nat.le_of_ble_eq_true rfl, Nat.le_of_ble_eq_true rfl⟩ ⟨rfl, rfl⟩ hP hS ix_25 rfl rfl rfl rfl hl.1 (Nat.le_of_ble_eq_true rfl) ⟨Nat.zero_le _, Nat.zero_le _⟩ rfl dX3_readDigit_1 (fun H locs hP hS => ?_)
  refine lv_istore_n (lv' := [(1, .int v1), (0, .ref (E.2.2 9 25))]) hx hb dX3_readDigit_4 rfl hl (by decide) rfl (fun ls hl => ?_)
  refine lv_iload_n hx hb dX3_readDigit_5 rfl (lv_at hl 0 rfl) ?_
  refine lv_bipush (v := 48) hx hb dX3_readDigit_6 (by decide) ?_
  refine lv_icmp_lt (tgt := 17) hx hb dX3_readDigit_8 (by decide) (fun c2 => ?_) (fun c2 => ?_)
  · have h := br_1 h c2
    refine lv_iconst (v := -1) hx hb dX3_readDigit_17 (by decide) ?_
    have h := Option.some.inj h
    exact mw_iret X hr hlocks hP hS (congrArg Prod.fst h) (congrArg Prod.snd h) dX3_readDigit_18
  · have h := br_0 h c2
    refine lv_iload_n hx hb dX3_readDigit_11 rfl (lv_at hl 0 rfl) ?_
    refine lv_bipush (v := 57) hx hb dX3_readDigit_12 (by decide) ?_
    refine lv_icmp_le (tgt := 19) hx hb dX3_readDigit_14 (by decide) (fun c3 => ?_) (fun c3 => ?_)
    · have h := br_1 h c3
      refine lv_aload_n hx hb dX3_readDigit_19 rfl (lv_at hl 1 rfl) ?_
      refine lv_dup hx hb dX3_readDigit_20 rfl ?_
      refine gt_3_2 X wm_733 hP ix_25 dX3_readDigit_21 ?_
      refine lv_iconst (v := 1) hx hb dX3_readDigit_24 (by decide) ?_
      refine lv_iadd hx hb dX3_readDigit_25 ?_
      refine pt_3_2 X wm_733 hP hS ix_25 dX3_readDigit_26 (fun H locs M4 eM4 hP hS => ?_)
      have h := bd_e h eM4
      refine lv_iload_n hx hb dX3_readDigit_29 rfl (lv_at hl 0 rfl) ?_
      refine lv_bipush (v := 48) hx hb dX3_readDigit_30 (by decide) ?_
      refine lv_isub hx hb dX3_readDigit_32 ?_
      have h := Option.some.inj h
      exact mw_iret X hr hlocks hP hS (congrArg Prod.fst h) (congrArg Prod.snd h) dX3_readDigit_33
    · have h := br_0 h c3
      refine lv_iconst (v := -1) hx hb dX3_readDigit_17 (by decide) ?_
      have h := Option.some.inj h
      exact mw_iret X hr hlocks hP hS (congrArg Prod.fst h) (congrArg Prod.snd h) dX3_readDigit_18
/-! SealedGroups$OrderText.readSign -/
noncomputable def f_X3_readSign  (M : Mem) (a1 : Int32) : Option (Int32 × Mem) :=
bO (f_X3_sign M) (fun v1 =>
(if v1 = a1 then
bd (st M 9 25 2 ((M 9 25 2) + (1 : Int32))) (fun M3 =>
some ((1 : Int32), M3))
else
some ((0 : Int32), M)))
theorem pk_X3_readSign : Pk "SealedGroups$OrderText" yX3_readSign cX3_readSign 2 (some .boolean) 1 := ⟨wm_757, wm_27, rfl, by decide +kernel⟩
theorem pv_X3_readSign : Cond.instanceMethod yX3_readSign ∈ wsL_law ∧ Cond.selects "SealedGroups$OrderText" yX3_readSign yX3_readSign ∈ wsL_law := ⟨wm_755, wm_756⟩
set_option maxHeartbeats 4000000 in
set_option maxRecDepth 100000 in
theorem c_X3_readSign (l : Launch) (E : En) (hA : AdOK E) {M : Mem} {a1 : Int32} {r0 : Int32} {M0 : Mem}  (h : f_X3_readSign M a1 = some (r0, M0)) : Met l yX3_readSign (Wm yX3_readSign cX3_readSign 2 (some .boolean)) ({ frames := 1, cells := 0, slots := 0, locals := 20 } : Room) (va_Pc [Value.ref (E.2.2 9 25), Value.int a1] (Wd E M)) (QI E r0 M0) 0 0 (AA E) := by
  refine Met.ofW (cc := cX3_readSign) (maxL := 2) (ret := (some .boolean)) (by decide +kernel) rfl ?_
  intro p e s m args below meth c s₁ B hml hv
  obtain ⟨rfl, hP, hK⟩ := hv
  have X : Cx E (AA E) p s m c _ cX3_readSign 2 RX3 := ⟨⟨B.exec, B.bytes, hml, findClass_of_methodNamed B.named, fun w hw => atoms_spec (ws := Wm yX3_readSign cX3_readSign 2 (some .boolean)) B.pre w (List.mem_cons_of_mem _ hw)⟩, hK, hA, fun _ h => h⟩
  have hx := B.exec
  have hb := B.bytes
  have hr := B.returns
  have hlocks := B.notSynchronized
  clear B hml
  have hS : va_S (AA E) s.heap s.heap [] := va_S.rf
  have hl := lv_entry ([Value.ref (E.2.2 9 25), Value.int a1]) (n := 2) (Nat.le_of_ble_eq_true rfl)
  rw [lg_entry_eq]
  generalize (lg_sl ([Value.ref (E.2.2 9 25), Value.int a1]) ++ List.replicate (2 - (lg_sl ([Value.ref (E.2.2 9 25), Value.int a1])).length) Slot.unset).toArray = ls at hl ⊢
  have hl : lv_has ls 2 [(0, .ref (E.2.2 9 25)), (1, .int a1)] := hl
  unfold f_X3_readSign at h
  refine lv_aload_n hx hb dX3_readSign_0 rfl (lv_at hl 0 rfl) ?_
  obtain ⟨v1, hv1, h⟩ := bO_e h
  refine mw_callVi X (c_X3_sign l E hA hv1) pk_X3_sign pv_X3_sign wm_740 ⟨Nat.le_of_ble_eq_true rfl, Nat.le_of_ble_eq_true rfl⟩ ⟨rfl, rfl⟩ hP hS ix_25 rfl rfl rfl rfl hl.1 (Nat.le_of_ble_eq_true rfl) ⟨Nat.zero_le _, Nat.zero_le _⟩ rfl dX3_readSign_1 (fun H locs hP hS => ?_)
  refine lv_iload_n hx hb dX3_readSign_4 rfl (lv_at hl 1 rfl) ?_
  refine lv_icmp_eq (tgt := 10) hx hb dX3_readSign_5 (by decide) (fun c2 => ?_) (fun c2 => ?_)
  · have h := br_1 h c2
    refine lv_aload_n hx hb dX3_readSign_10 rfl (lv_at hl 0 rfl) ?_
    refine lv_dup hx hb dX3_readSign_11 rfl ?_
    refine gt_3_2 X wm_733 hP ix_25 dX3_readSign_12 ?_
    refine lv_iconst (v := 1) hx hb dX3_readSign_15 (by decide) ?_
    refine lv_iadd hx hb dX3_readSign_16 ?_
    refine pt_3_2 X wm_733 hP hS ix_25 dX3_readSign_17 (fun H locs M3 eM3 hP hS => ?_)
    have h := bd_e h eM3
    refine lv_iconst (v := 1) hx hb dX3_readSign_20 (by decide) ?_
    have h := Option.some.inj h
    exact mw_zret X hr hlocks hP hS (by decide) (congrArg Prod.fst h) (congrArg Prod.snd h) dX3_readSign_21
  · have h := br_0 h c2
    refine lv_iconst (v := 0) hx hb dX3_readSign_8 (by decide) ?_
    have h := Option.some.inj h
    exact mw_zret X hr hlocks hP hS (by decide) (congrArg Prod.fst h) (congrArg Prod.snd h) dX3_readSign_9
/-! SealedGroups$OrderText.readValue -/
noncomputable def f_X3_readValue  (M : Mem) : Option (Int32 × Mem) :=
bP (f_X3_readDigit M) (fun v1 M2 =>
bd (st M2 9 25 6 v1) (fun M3 =>
(if 0 ≤ (M3 9 25 6) then
bP (f_X3_readDigit M3) (fun v5 M6 =>
(if v5 < 0 then
some ((1 : Int32), M6)
else
bd (st M6 9 25 6 (((M6 9 25 6) * (10 : Int32)) + v5)) (fun M8 =>
some ((1 : Int32), M8))))
else
some ((0 : Int32), M3))))
theorem pk_X3_readValue : Pk "SealedGroups$OrderText" yX3_readValue cX3_readValue 2 (some .boolean) 0 := ⟨wm_761, wm_27, rfl, by decide +kernel⟩
theorem pv_X3_readValue : Cond.instanceMethod yX3_readValue ∈ wsL_law ∧ Cond.selects "SealedGroups$OrderText" yX3_readValue yX3_readValue ∈ wsL_law := ⟨wm_759, wm_760⟩
set_option maxHeartbeats 4000000 in
set_option maxRecDepth 100000 in
theorem c_X3_readValue (l : Launch) (E : En) (hA : AdOK E) {M : Mem} {r0 : Int32} {M0 : Mem}  (h : f_X3_readValue M = some (r0, M0)) : Met l yX3_readValue (Wm yX3_readValue cX3_readValue 2 (some .boolean)) ({ frames := 2, cells := 0, slots := 0, locals := 41 } : Room) (va_Pc [Value.ref (E.2.2 9 25)] (Wd E M)) (QI E r0 M0) 0 0 (AA E) := by
  refine Met.ofW (cc := cX3_readValue) (maxL := 2) (ret := (some .boolean)) (by decide +kernel) rfl ?_
  intro p e s m args below meth c s₁ B hml hv
  obtain ⟨rfl, hP, hK⟩ := hv
  have X : Cx E (AA E) p s m c _ cX3_readValue 2 RX3 := ⟨⟨B.exec, B.bytes, hml, findClass_of_methodNamed B.named, fun w hw => atoms_spec (ws := Wm yX3_readValue cX3_readValue 2 (some .boolean)) B.pre w (List.mem_cons_of_mem _ hw)⟩, hK, hA, fun _ h => h⟩
  have hx := B.exec
  have hb := B.bytes
  have hr := B.returns
  have hlocks := B.notSynchronized
  clear B hml
  have hS : va_S (AA E) s.heap s.heap [] := va_S.rf
  have hl := lv_entry ([Value.ref (E.2.2 9 25)]) (n := 2) (Nat.le_of_ble_eq_true rfl)
  rw [lg_entry_eq]
  generalize (lg_sl ([Value.ref (E.2.2 9 25)]) ++ List.replicate (2 - (lg_sl ([Value.ref (E.2.2 9 25)])).length) Slot.unset).toArray = ls at hl ⊢
  have hl : lv_has ls 2 [(0, .ref (E.2.2 9 25))] := hl
  unfold f_X3_readValue at h
  refine lv_aload_n hx hb dX3_readValue_0 rfl (lv_at hl 0 rfl) ?_
  refine lv_aload_n hx hb dX3_readValue_1 rfl (lv_at hl 0 rfl) ?_
  obtain ⟨v1, M2, hv1, h⟩ := bP_e h
  refine mw_callVi X (c_X3_readDigit l E hA hv1) pk_X3_readDigit pv_X3_readDigit wm_750 ⟨Nat.le_of_ble_eq_true rfl, Nat.le_of_ble_eq_true rfl⟩ ⟨rfl, rfl⟩ hP hS ix_25 rfl rfl rfl rfl hl.1 (Nat.le_of_ble_eq_true rfl) ⟨Nat.zero_le _, Nat.zero_le _⟩ rfl dX3_readValue_2 (fun H locs hP hS => ?_)
  refine pt_3_6 X wm_762 hP hS ix_25 dX3_readValue_5 (fun H locs M3 eM3 hP hS => ?_)
  have h := bd_e h eM3
  refine lv_aload_n hx hb dX3_readValue_8 rfl (lv_at hl 0 rfl) ?_
  refine gt_3_6 X wm_762 hP ix_25 dX3_readValue_9 ?_
  refine lv_if_ge (tgt := 17) hx hb dX3_readValue_12 (by decide) (fun c4 => ?_) (fun c4 => ?_)
  · have h := br_1 h c4
    refine lv_aload_n hx hb dX3_readValue_17 rfl (lv_at hl 0 rfl) ?_
    obtain ⟨v5, M6, hv5, h⟩ := bP_e h
    refine mw_callVi X (c_X3_readDigit l E hA hv5) pk_X3_readDigit pv_X3_readDigit wm_750 ⟨Nat.le_of_ble_eq_true rfl, Nat.le_of_ble_eq_true rfl⟩ ⟨rfl, rfl⟩ hP hS ix_25 rfl rfl rfl rfl hl.1 (Nat.le_of_ble_eq_true rfl) ⟨Nat.zero_le _, Nat.zero_le _⟩ rfl dX3_readValue_18 (fun H locs hP hS => ?_)
    refine lv_istore_n (lv' := [(1, .int v5), (0, .ref (E.2.2 9 25))]) hx hb dX3_readValue_21 rfl hl (by decide) rfl (fun ls hl => ?_)
    refine lv_iload_n hx hb dX3_readValue_22 rfl (lv_at hl 0 rfl) ?_
    refine lv_if_lt (tgt := 39) hx hb dX3_readValue_23 (by decide) (fun c7 => ?_) (fun c7 => ?_)
    · have h := br_1 h c7
      refine lv_iconst (v := 1) hx hb dX3_readValue_39 (by decide) ?_
      have h := Option.some.inj h
      exact mw_zret X hr hlocks hP hS (by decide) (congrArg Prod.fst h) (congrArg Prod.snd h) dX3_readValue_40
    · have h := br_0 h c7
      refine lv_aload_n hx hb dX3_readValue_26 rfl (lv_at hl 1 rfl) ?_
      refine lv_aload_n hx hb dX3_readValue_27 rfl (lv_at hl 1 rfl) ?_
      refine gt_3_6 X wm_762 hP ix_25 dX3_readValue_28 ?_
      refine lv_bipush (v := 10) hx hb dX3_readValue_31 (by decide) ?_
      refine lv_imul hx hb dX3_readValue_33 ?_
      refine lv_iload_n hx hb dX3_readValue_34 rfl (lv_at hl 0 rfl) ?_
      refine lv_iadd hx hb dX3_readValue_35 ?_
      refine pt_3_6 X wm_762 hP hS ix_25 dX3_readValue_36 (fun H locs M8 eM8 hP hS => ?_)
      have h := bd_e h eM8
      refine lv_iconst (v := 1) hx hb dX3_readValue_39 (by decide) ?_
      have h := Option.some.inj h
      exact mw_zret X hr hlocks hP hS (by decide) (congrArg Prod.fst h) (congrArg Prod.snd h) dX3_readValue_40
  · have h := br_0 h c4
    refine lv_iconst (v := 0) hx hb dX3_readValue_15 (by decide) ?_
    have h := Option.some.inj h
    exact mw_zret X hr hlocks hP hS (by decide) (congrArg Prod.fst h) (congrArg Prod.snd h) dX3_readValue_16
/-! SealedGroups$OrderText.readArguments -/
noncomputable def f_X3_readArguments_L53  (M : Mem) : Option (Int32 × Mem) :=
(if (M 9 25 4) < 0 then
some ((0 : Int32), M)
else
some ((1 : Int32), M))
noncomputable def f_X3_readArguments  (M : Mem) : Option (Int32 × Mem) :=
(if (M 9 25 3) = (99 : Int32) then
some ((1 : Int32), M)
else
(if (M 9 25 3) = (120 : Int32) then
some ((1 : Int32), M)
else
(if (M 9 25 3) = (114 : Int32) then
some ((1 : Int32), M)
else
bP (f_X3_readDigit M) (fun v4 M5 =>
bd (st M5 9 25 4 v4) (fun M6 =>
(if (M6 9 25 4) < 0 then
f_X3_readArguments_L53 M6
else
(if (M6 9 25 3) = (119 : Int32) then
bP (f_X3_readSign M6 (44 : Int32)) (fun v10 M11 =>
(if v10 = 0 then
some ((0 : Int32), M11)
else
bP (f_X3_readDigit M11) (fun v13 M14 =>
bd (st M14 9 25 5 v13) (fun M15 =>
(if (M15 9 25 5) < 0 then
some ((0 : Int32), M15)
else
bP (f_X3_readSign M15 (44 : Int32)) (fun v17 M18 =>
(if v17 = 0 then
some ((0 : Int32), M18)
else
bP (f_X3_readValue M18) (fun v20 M21 =>
(if v20 = 0 then
some ((0 : Int32), M21)
else
some ((1 : Int32), M21))))))))))
else
f_X3_readArguments_L53 M6)))))))
theorem pk_X3_readArguments : Pk "SealedGroups$OrderText" yX3_readArguments cX3_readArguments 1 (some .boolean) 0 := ⟨wm_747, wm_27, rfl, by decide +kernel⟩
theorem pv_X3_readArguments : Cond.instanceMethod yX3_readArguments ∈ wsL_law ∧ Cond.selects "SealedGroups$OrderText" yX3_readArguments yX3_readArguments ∈ wsL_law := ⟨wm_745, wm_746⟩
set_option maxHeartbeats 4000000 in
set_option maxRecDepth 100000 in
theorem c_X3_readArguments (l : Launch) (E : En) (hA : AdOK E) {M : Mem} {r0 : Int32} {M0 : Mem}  (h : f_X3_readArguments M = some (r0, M0)) : Met l yX3_readArguments (Wm yX3_readArguments cX3_readArguments 1 (some .boolean)) ({ frames := 3, cells := 0, slots := 0, locals := 62 } : Room) (va_Pc [Value.ref (E.2.2 9 25)] (Wd E M)) (QI E r0 M0) 0 0 (AA E) := by
  refine Met.ofW (cc := cX3_readArguments) (maxL := 1) (ret := (some .boolean)) (by decide +kernel) rfl ?_
  intro p e s m args below meth c s₁ B hml hv
  obtain ⟨rfl, hP, hK⟩ := hv
  have X : Cx E (AA E) p s m c _ cX3_readArguments 1 RX3 := ⟨⟨B.exec, B.bytes, hml, findClass_of_methodNamed B.named, fun w hw => atoms_spec (ws := Wm yX3_readArguments cX3_readArguments 1 (some .boolean)) B.pre w (List.mem_cons_of_mem _ hw)⟩, hK, hA, fun _ h => h⟩
  have hx := B.exec
  have hb := B.bytes
  have hr := B.returns
  have hlocks := B.notSynchronized
  clear B hml
  have hS : va_S (AA E) s.heap s.heap [] := va_S.rf
  have hl := lv_entry ([Value.ref (E.2.2 9 25)]) (n := 1) (Nat.le_of_ble_eq_true rfl)
  rw [lg_entry_eq]
  generalize (lg_sl ([Value.ref (E.2.2 9 25)]) ++ List.replicate (1 - (lg_sl ([Value.ref (E.2.2 9 25)])).length) Slot.unset).toArray = ls at hl ⊢
  have hl : lv_has ls 1 [(0, .ref (E.2.2 9 25))] := hl
  have w_L53 : ∀ (M : Mem) (H : Heap) (locs : List Loc) (ls : Array Slot), f_X3_readArguments_L53  M = some (r0, M0) → va_P E.1 vwCl (wl E M) H → va_S (AA E) s.heap H locs → lv_has ls 1 [(0, .ref (E.2.2 9 25))] → W p l e (headSpec (Wm yX3_readArguments cX3_readArguments 1 (some .boolean)) ({ frames := 3, cells := 0, slots := 0, locals := 62 } : Room)).room s m ([Value.ref (E.2.2 9 25)] : List Value).toArray below meth c H locs 0 0 (MQ below (QI E r0 M0) ([Value.ref (E.2.2 9 25)] : List Value).toArray s 0 0 (AA E)) (F0 m 53 ls []) := by
    intro M H locs ls h hP hS hl
    unfold f_X3_readArguments_L53 at h
    refine lv_aload_n hx hb dX3_readArguments_53 rfl (lv_at hl 0 rfl) ?_
    refine gt_3_4 X wm_748 hP ix_25 dX3_readArguments_54 ?_
    refine lv_if_lt (tgt := 64) hx hb dX3_readArguments_57 (by decide) (fun c8 => ?_) (fun c8 => ?_)
    · have h := br_1 h c8
      refine lv_iconst (v := 0) hx hb dX3_readArguments_64 (by decide) ?_
      have h := Option.some.inj h
      exact mw_zret X hr hlocks hP hS (by decide) (congrArg Prod.fst h) (congrArg Prod.snd h) dX3_readArguments_65
    · have h := br_0 h c8
      refine lv_iconst (v := 1) hx hb dX3_readArguments_60 (by decide) ?_
      refine lv_goto (tgt := 65) hx hb dX3_readArguments_61 (by decide) ?_
      have h := Option.some.inj h
      exact mw_zret X hr hlocks hP hS (by decide) (congrArg Prod.fst h) (congrArg Prod.snd h) dX3_readArguments_65
  unfold f_X3_readArguments at h
  refine lv_aload_n hx hb dX3_readArguments_0 rfl (lv_at hl 0 rfl) ?_
  refine gt_3_3 X wm_739 hP ix_25 dX3_readArguments_1 ?_
  refine lv_bipush (v := 99) hx hb dX3_readArguments_4 (by decide) ?_
  refine lv_icmp_eq (tgt := 27) hx hb dX3_readArguments_6 (by decide) (fun c1 => ?_) (fun c1 => ?_)
  · have h := br_1 h c1
    refine lv_iconst (v := 1) hx hb dX3_readArguments_27 (by decide) ?_
    have h := Option.some.inj h
    exact mw_zret X hr hlocks hP hS (by decide) (congrArg Prod.fst h) (congrArg Prod.snd h) dX3_readArguments_28
  · have h := br_0 h c1
    refine lv_aload_n hx hb dX3_readArguments_9 rfl (lv_at hl 0 rfl) ?_
    refine gt_3_3 X wm_739 hP ix_25 dX3_readArguments_10 ?_
    refine lv_bipush (v := 120) hx hb dX3_readArguments_13 (by decide) ?_
    refine lv_icmp_eq (tgt := 27) hx hb dX3_readArguments_15 (by decide) (fun c2 => ?_) (fun c2 => ?_)
    · have h := br_1 h c2
      refine lv_iconst (v := 1) hx hb dX3_readArguments_27 (by decide) ?_
      have h := Option.some.inj h
      exact mw_zret X hr hlocks hP hS (by decide) (congrArg Prod.fst h) (congrArg Prod.snd h) dX3_readArguments_28
    · have h := br_0 h c2
      refine lv_aload_n hx hb dX3_readArguments_18 rfl (lv_at hl 0 rfl) ?_
      refine gt_3_3 X wm_739 hP ix_25 dX3_readArguments_19 ?_
      refine lv_bipush (v := 114) hx hb dX3_readArguments_22 (by decide) ?_
      refine lv_icmp_ne (tgt := 29) hx hb dX3_readArguments_24 (by decide) (fun c3 => ?_) (fun c3 => ?_)
      · have h := br_0 h c3
        refine lv_aload_n hx hb dX3_readArguments_29 rfl (lv_at hl 0 rfl) ?_
        refine lv_aload_n hx hb dX3_readArguments_30 rfl (lv_at hl 0 rfl) ?_
        obtain ⟨v4, M5, hv4, h⟩ := bP_e h
        refine mw_callVi X (c_X3_readDigit l E hA hv4) pk_X3_readDigit pv_X3_readDigit wm_750 ⟨Nat.le_of_ble_eq_true rfl, Nat.le_of_ble_eq_true rfl⟩ ⟨rfl, rfl⟩ hP hS ix_25 rfl rfl rfl rfl hl.1 (Nat.le_of_ble_eq_true rfl) ⟨Nat.zero_le _, Nat.zero_le _⟩ rfl dX3_readArguments_31 (fun H locs hP hS => ?_)
        refine pt_3_4 X wm_748 hP hS ix_25 dX3_readArguments_34 (fun H locs M6 eM6 hP hS => ?_)
        have h := bd_e h eM6
        refine lv_aload_n hx hb dX3_readArguments_37 rfl (lv_at hl 0 rfl) ?_
        refine gt_3_4 X wm_748 hP ix_25 dX3_readArguments_38 ?_
        refine lv_if_lt (tgt := 53) hx hb dX3_readArguments_41 (by decide) (fun c7 => ?_) (fun c7 => ?_)
        · have h := br_1 h c7
          exact w_L53 _ _ _ _ h hP hS (lv_sub hl [0] rfl)
        · have h := br_0 h c7
          refine lv_aload_n hx hb dX3_readArguments_44 rfl (lv_at hl 0 rfl) ?_
          refine gt_3_3 X wm_739 hP ix_25 dX3_readArguments_45 ?_
          refine lv_bipush (v := 119) hx hb dX3_readArguments_48 (by decide) ?_
          refine lv_icmp_eq (tgt := 66) hx hb dX3_readArguments_50 (by decide) (fun c9 => ?_) (fun c9 => ?_)
          · have h := br_1 h c9
            refine lv_aload_n hx hb dX3_readArguments_66 rfl (lv_at hl 0 rfl) ?_
            refine lv_bipush (v := 44) hx hb dX3_readArguments_67 (by decide) ?_
            obtain ⟨v10, M11, hv10, h⟩ := bP_e h
            refine mw_callVi X (c_X3_readSign l E hA hv10) pk_X3_readSign pv_X3_readSign wm_754 ⟨Nat.le_of_ble_eq_true rfl, Nat.le_of_ble_eq_true rfl⟩ ⟨rfl, rfl⟩ hP hS ix_25 rfl rfl rfl rfl hl.1 (Nat.le_of_ble_eq_true rfl) ⟨Nat.zero_le _, Nat.zero_le _⟩ rfl dX3_readArguments_69 (fun H locs hP hS => ?_)
            refine lv_if_ne (tgt := 77) hx hb dX3_readArguments_72 (by decide) (fun c12 => ?_) (fun c12 => ?_)
            · have h := br_0 h c12
              refine lv_aload_n hx hb dX3_readArguments_77 rfl (lv_at hl 0 rfl) ?_
              refine lv_aload_n hx hb dX3_readArguments_78 rfl (lv_at hl 0 rfl) ?_
              obtain ⟨v13, M14, hv13, h⟩ := bP_e h
              refine mw_callVi X (c_X3_readDigit l E hA hv13) pk_X3_readDigit pv_X3_readDigit wm_750 ⟨Nat.le_of_ble_eq_true rfl, Nat.le_of_ble_eq_true rfl⟩ ⟨rfl, rfl⟩ hP hS ix_25 rfl rfl rfl rfl hl.1 (Nat.le_of_ble_eq_true rfl) ⟨Nat.zero_le _, Nat.zero_le _⟩ rfl dX3_readArguments_79 (fun H locs hP hS => ?_)
              refine pt_3_5 X wm_749 hP hS ix_25 dX3_readArguments_82 (fun H locs M15 eM15 hP hS => ?_)
              have h := bd_e h eM15
              refine lv_aload_n hx hb dX3_readArguments_85 rfl (lv_at hl 0 rfl) ?_
              refine gt_3_5 X wm_749 hP ix_25 dX3_readArguments_86 ?_
              refine lv_if_lt (tgt := 112) hx hb dX3_readArguments_89 (by decide) (fun c16 => ?_) (fun c16 => ?_)
              · have h := br_1 h c16
                refine lv_iconst (v := 0) hx hb dX3_readArguments_112 (by decide) ?_
                have h := Option.some.inj h
                exact mw_zret X hr hlocks hP hS (by decide) (congrArg Prod.fst h) (congrArg Prod.snd h) dX3_readArguments_113
              · have h := br_0 h c16
                refine lv_aload_n hx hb dX3_readArguments_92 rfl (lv_at hl 0 rfl) ?_
                refine lv_bipush (v := 44) hx hb dX3_readArguments_93 (by decide) ?_
                obtain ⟨v17, M18, hv17, h⟩ := bP_e h
                refine mw_callVi X (c_X3_readSign l E hA hv17) pk_X3_readSign pv_X3_readSign wm_754 ⟨Nat.le_of_ble_eq_true rfl, Nat.le_of_ble_eq_true rfl⟩ ⟨rfl, rfl⟩ hP hS ix_25 rfl rfl rfl rfl hl.1 (Nat.le_of_ble_eq_true rfl) ⟨Nat.zero_le _, Nat.zero_le _⟩ rfl dX3_readArguments_95 (fun H locs hP hS => ?_)
                refine lv_if_eq (tgt := 112) hx hb dX3_readArguments_98 (by decide) (fun c19 => ?_) (fun c19 => ?_)
                · have h := br_1 h c19
                  refine lv_iconst (v := 0) hx hb dX3_readArguments_112 (by decide) ?_
                  have h := Option.some.inj h
                  exact mw_zret X hr hlocks hP hS (by decide) (congrArg Prod.fst h) (congrArg Prod.snd h) dX3_readArguments_113
                · have h := br_0 h c19
                  refine lv_aload_n hx hb dX3_readArguments_101 rfl (lv_at hl 0 rfl) ?_
                  obtain ⟨v20, M21, hv20, h⟩ := bP_e h
                  refine mw_callVi X (c_X3_readValue l E hA hv20) pk_X3_readValue pv_X3_readValue wm_758 ⟨Nat.le_of_ble_eq_true rfl, Nat.le_of_ble_eq_true rfl⟩ ⟨rfl, rfl⟩ hP hS ix_25 rfl rfl rfl rfl hl.1 (Nat.le_of_ble_eq_true rfl) ⟨Nat.zero_le _, Nat.zero_le _⟩ rfl dX3_readArguments_102 (fun H locs hP hS => ?_)
                  refine lv_if_eq (tgt := 112) hx hb dX3_readArguments_105 (by decide) (fun c22 => ?_) (fun c22 => ?_)
                  · have h := br_1 h c22
                    refine lv_iconst (v := 0) hx hb dX3_readArguments_112 (by decide) ?_
                    have h := Option.some.inj h
                    exact mw_zret X hr hlocks hP hS (by decide) (congrArg Prod.fst h) (congrArg Prod.snd h) dX3_readArguments_113
                  · have h := br_0 h c22
                    refine lv_iconst (v := 1) hx hb dX3_readArguments_108 (by decide) ?_
                    refine lv_goto (tgt := 113) hx hb dX3_readArguments_109 (by decide) ?_
                    have h := Option.some.inj h
                    exact mw_zret X hr hlocks hP hS (by decide) (congrArg Prod.fst h) (congrArg Prod.snd h) dX3_readArguments_113
            · have h := br_1 h c12
              refine lv_iconst (v := 0) hx hb dX3_readArguments_75 (by decide) ?_
              have h := Option.some.inj h
              exact mw_zret X hr hlocks hP hS (by decide) (congrArg Prod.fst h) (congrArg Prod.snd h) dX3_readArguments_76
          · have h := br_0 h c9
            exact w_L53 _ _ _ _ h hP hS (lv_sub hl [0] rfl)
      · have h := br_1 h c3
        refine lv_iconst (v := 1) hx hb dX3_readArguments_27 (by decide) ?_
        have h := Option.some.inj h
        exact mw_zret X hr hlocks hP hS (by decide) (congrArg Prod.fst h) (congrArg Prod.snd h) dX3_readArguments_28
/-! SealedGroups$OrderText.readOrder -/
noncomputable def f_X3_readOrder_L30  (M : Mem) (y1 : Int32) : Option (Int32 × Mem) :=
bd (st M 9 25 7 ((M 9 25 2) - y1)) (fun M5 =>
some ((0 : Int32), M5))
noncomputable def f_X3_readOrder  (M : Mem) : Option (Int32 × Mem) :=
bd ((M 9 25 2)) (fun x1 =>
bP (f_X3_readLetter M) (fun v2 M3 =>
(if v2 = 0 then
f_X3_readOrder_L30 M3 x1
else
bP (f_X3_readArguments M3) (fun v6 M7 =>
(if v6 = 0 then
f_X3_readOrder_L30 M7 x1
else
bP (f_X3_readSign M7 (59 : Int32)) (fun v9 M10 =>
(if v9 = 0 then
f_X3_readOrder_L30 M10 x1
else
some ((1 : Int32), M10))))))))
theorem pk_X3_readOrder : Pk "SealedGroups$OrderText" yX3_readOrder cX3_readOrder 2 (some .boolean) 0 := ⟨wm_732, wm_27, rfl, by decide +kernel⟩
theorem pv_X3_readOrder : Cond.instanceMethod yX3_readOrder ∈ wsL_law ∧ Cond.selects "SealedGroups$OrderText" yX3_readOrder yX3_readOrder ∈ wsL_law := ⟨wm_730, wm_731⟩
set_option maxHeartbeats 4000000 in
set_option maxRecDepth 100000 in
theorem c_X3_readOrder (l : Launch) (E : En) (hA : AdOK E) {M : Mem} {r0 : Int32} {M0 : Mem}  (h : f_X3_readOrder M = some (r0, M0)) : Met l yX3_readOrder (Wm yX3_readOrder cX3_readOrder 2 (some .boolean)) ({ frames := 4, cells := 0, slots := 0, locals := 82 } : Room) (va_Pc [Value.ref (E.2.2 9 25)] (Wd E M)) (QI E r0 M0) 0 0 (AA E) := by
  refine Met.ofW (cc := cX3_readOrder) (maxL := 2) (ret := (some .boolean)) (by decide +kernel) rfl ?_
  intro p e s m args below meth c s₁ B hml hv
  obtain ⟨rfl, hP, hK⟩ := hv
  have X : Cx E (AA E) p s m c _ cX3_readOrder 2 RX3 := ⟨⟨B.exec, B.bytes, hml, findClass_of_methodNamed B.named, fun w hw => atoms_spec (ws := Wm yX3_readOrder cX3_readOrder 2 (some .boolean)) B.pre w (List.mem_cons_of_mem _ hw)⟩, hK, hA, fun _ h => h⟩
  have hx := B.exec
  have hb := B.bytes
  have hr := B.returns
  have hlocks := B.notSynchronized
  clear B hml
  have hS : va_S (AA E) s.heap s.heap [] := va_S.rf
  have hl := lv_entry ([Value.ref (E.2.2 9 25)]) (n := 2) (Nat.le_of_ble_eq_true rfl)
  rw [lg_entry_eq]
  generalize (lg_sl ([Value.ref (E.2.2 9 25)]) ++ List.replicate (2 - (lg_sl ([Value.ref (E.2.2 9 25)])).length) Slot.unset).toArray = ls at hl ⊢
  have hl : lv_has ls 2 [(0, .ref (E.2.2 9 25))] := hl
  have w_L30 : ∀ (M : Mem) (y1 : Int32) (H : Heap) (locs : List Loc) (ls : Array Slot), f_X3_readOrder_L30  M y1 = some (r0, M0) → va_P E.1 vwCl (wl E M) H → va_S (AA E) s.heap H locs → lv_has ls 2 [(0, .ref (E.2.2 9 25)), (1, .int y1)] → W p l e (headSpec (Wm yX3_readOrder cX3_readOrder 2 (some .boolean)) ({ frames := 4, cells := 0, slots := 0, locals := 82 } : Room)).room s m ([Value.ref (E.2.2 9 25)] : List Value).toArray below meth c H locs 0 0 (MQ below (QI E r0 M0) ([Value.ref (E.2.2 9 25)] : List Value).toArray s 0 0 (AA E)) (F0 m 30 ls []) := by
    intro M y1 H locs ls h hP hS hl
    unfold f_X3_readOrder_L30 at h
    refine lv_aload_n hx hb dX3_readOrder_30 rfl (lv_at hl 0 rfl) ?_
    refine lv_aload_n hx hb dX3_readOrder_31 rfl (lv_at hl 0 rfl) ?_
    refine gt_3_2 X wm_733 hP ix_25 dX3_readOrder_32 ?_
    refine lv_iload_n hx hb dX3_readOrder_35 rfl (lv_at hl 1 rfl) ?_
    refine lv_isub hx hb dX3_readOrder_36 ?_
    refine pt_3_7 X wm_734 hP hS ix_25 dX3_readOrder_37 (fun H locs M5 eM5 hP hS => ?_)
    have h := bd_e h eM5
    refine lv_iconst (v := 0) hx hb dX3_readOrder_40 (by decide) ?_
    have h := Option.some.inj h
    exact mw_zret X hr hlocks hP hS (by decide) (congrArg Prod.fst h) (congrArg Prod.snd h) dX3_readOrder_41
  unfold f_X3_readOrder at h
  refine lv_aload_n hx hb dX3_readOrder_0 rfl (lv_at hl 0 rfl) ?_
  refine gt_3_2 X wm_733 hP ix_25 dX3_readOrder_1 ?_
  refine lv_topi (fun x1 ex1 => ?_)
  have h := bd_e h ex1
  refine lv_istore_n (lv' := [(1, .int x1), (0, .ref (E.2.2 9 25))]) hx hb dX3_readOrder_4 rfl hl (by decide) rfl (fun ls hl => ?_)
  refine lv_aload_n hx hb dX3_readOrder_5 rfl (lv_at hl 1 rfl) ?_
  obtain ⟨v2, M3, hv2, h⟩ := bP_e h
  refine mw_callVi X (c_X3_readLetter l E hA hv2) pk_X3_readLetter pv_X3_readLetter wm_735 ⟨Nat.le_of_ble_eq_true rfl, Nat.le_of_ble_eq_true rfl⟩ ⟨rfl, rfl⟩ hP hS ix_25 rfl rfl rfl rfl hl.1 (Nat.le_of_ble_eq_true rfl) ⟨Nat.zero_le _, Nat.zero_le _⟩ rfl dX3_readOrder_6 (fun H locs hP hS => ?_)
  refine lv_if_eq (tgt := 30) hx hb dX3_readOrder_9 (by decide) (fun c4 => ?_) (fun c4 => ?_)
  · have h := br_1 h c4
    exact w_L30 _ _ _ _ _ h hP hS (lv_sub hl [1, 0] rfl)
  · have h := br_0 h c4
    refine lv_aload_n hx hb dX3_readOrder_12 rfl (lv_at hl 1 rfl) ?_
    obtain ⟨v6, M7, hv6, h⟩ := bP_e h
    refine mw_callVi X (c_X3_readArguments l E hA hv6) pk_X3_readArguments pv_X3_readArguments wm_744 ⟨Nat.le_of_ble_eq_true rfl, Nat.le_of_ble_eq_true rfl⟩ ⟨rfl, rfl⟩ hP hS ix_25 rfl rfl rfl rfl hl.1 (Nat.le_of_ble_eq_true rfl) ⟨Nat.zero_le _, Nat.zero_le _⟩ rfl dX3_readOrder_13 (fun H locs hP hS => ?_)
    refine lv_if_eq (tgt := 30) hx hb dX3_readOrder_16 (by decide) (fun c8 => ?_) (fun c8 => ?_)
    · have h := br_1 h c8
      exact w_L30 _ _ _ _ _ h hP hS (lv_sub hl [1, 0] rfl)
    · have h := br_0 h c8
      refine lv_aload_n hx hb dX3_readOrder_19 rfl (lv_at hl 1 rfl) ?_
      refine lv_bipush (v := 59) hx hb dX3_readOrder_20 (by decide) ?_
      obtain ⟨v9, M10, hv9, h⟩ := bP_e h
      refine mw_callVi X (c_X3_readSign l E hA hv9) pk_X3_readSign pv_X3_readSign wm_754 ⟨Nat.le_of_ble_eq_true rfl, Nat.le_of_ble_eq_true rfl⟩ ⟨rfl, rfl⟩ hP hS ix_25 rfl rfl rfl rfl hl.1 (Nat.le_of_ble_eq_true rfl) ⟨Nat.zero_le _, Nat.zero_le _⟩ rfl dX3_readOrder_22 (fun H locs hP hS => ?_)
      refine lv_if_eq (tgt := 30) hx hb dX3_readOrder_25 (by decide) (fun c11 => ?_) (fun c11 => ?_)
      · have h := br_1 h c11
        exact w_L30 _ _ _ _ _ h hP hS (lv_sub hl [1, 0] rfl)
      · have h := br_0 h c11
        refine lv_iconst (v := 1) hx hb dX3_readOrder_28 (by decide) ?_
        have h := Option.some.inj h
        exact mw_zret X hr hlocks hP hS (by decide) (congrArg Prod.fst h) (congrArg Prod.snd h) dX3_readOrder_29
