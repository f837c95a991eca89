/-! SealedGroupsModel.in -/
noncomputable def f_X8_in  (M : Mem) (a1 a2 a3 : Int32) : Option Int32 :=
(if a1 < a2 then
some (0 : Int32)
else
(if a3 < a1 then
some (0 : Int32)
else
some (1 : Int32)))
theorem pk_X8_in : Pk "SealedGroupsModel" yX8_in cX8_in 3 (some .boolean) 3 := ⟨wm_185, wm_5, rfl, by decide +kernel⟩
set_option maxHeartbeats 4000000 in
set_option maxRecDepth 100000 in
theorem c_X8_in (l : Launch) (E : En) (hA : AdOK E) {M : Mem} {a1 a2 a3 : Int32} {r0 : Int32}  (h : f_X8_in M a1 a2 a3 = some r0) : Met l yX8_in (Wm yX8_in cX8_in 3 (some .boolean)) ({ frames := 0, cells := 0, slots := 0, locals := 0 } : Room) (va_Pc [Value.int a1, Value.int a2, Value.int a3] (Wd E M)) (QI E r0 M) 0 0 (AA E) := by
  refine Met.ofW (cc := cX8_in) (maxL := 3) (ret := (some .boolean)) (by decide +kernel) rfl ?_
  intro p e s m args below meth c s₁ B hml hv
  obtain ⟨rfl, hP, hK⟩ := hv
  have X : Cx E (AA E) p s m c _ cX8_in 3 RX8 := ⟨⟨B.exec, B.bytes, hml, findClass_of_methodNamed B.named, fun w hw => atoms_spec (ws := Wm yX8_in cX8_in 3 (some .boolean)) B.pre w (List.mem_cons_of_mem _ hw)⟩, hK, hA, fun _ h => h⟩
  have hx := B.exec
  have hb := B.bytes
  have hr := B.returns
  have hlocks := B.notSynchronized
  clear B hml
  have hS : va_S (AA E) s.heap s.heap [] := va_S.rf
  have hl := lv_entry ([Value.int a1, Value.int a2, Value.int a3]) (n := 3) (Nat.le_of_ble_eq_true rfl)
  rw [lg_entry_eq]
  generalize (lg_sl ([Value.int a1, Value.int a2, Value.int a3]) ++ List.replicate (3 - (lg_sl ([Value.int a1, Value.int a2, Value.int a3])).length) Slot.unset).toArray = ls at hl ⊢
  have hl : lv_has ls 3 [(0, .int a1), (1, .int a2), (2, .int a3)] := hl
  unfold f_X8_in at h
  refine lv_iload_n hx hb dX8_in_0 rfl (lv_at hl 0 rfl) ?_
  refine lv_iload_n hx hb dX8_in_1 rfl (lv_at hl 1 rfl) ?_
  refine lv_icmp_lt (tgt := 14) hx hb dX8_in_2 (by decide) (fun c1 => ?_) (fun c1 => ?_)
  · have h := br_1 h c1
    refine lv_iconst (v := 0) hx hb dX8_in_14 (by decide) ?_
    exact mw_zret X hr hlocks hP hS (by decide) (Option.some.inj h) rfl dX8_in_15
  · have h := br_0 h c1
    refine lv_iload_n hx hb dX8_in_5 rfl (lv_at hl 0 rfl) ?_
    refine lv_iload_n hx hb dX8_in_6 rfl (lv_at hl 2 rfl) ?_
    refine lv_icmp_gt (tgt := 14) hx hb dX8_in_7 (by decide) (fun c2 => ?_) (fun c2 => ?_)
    · have h := br_1 h c2
      refine lv_iconst (v := 0) hx hb dX8_in_14 (by decide) ?_
      exact mw_zret X hr hlocks hP hS (by decide) (Option.some.inj h) rfl dX8_in_15
    · have h := br_0 h c2
      refine lv_iconst (v := 1) hx hb dX8_in_10 (by decide) ?_
      refine lv_goto (tgt := 15) hx hb dX8_in_11 (by decide) ?_
      exact mw_zret X hr hlocks hP hS (by decide) (Option.some.inj h) rfl dX8_in_15
/-! SealedGroupsModel.copies -/
noncomputable def f_X8_copies_L2 (rf : Nat) (rt : Nat) (K2 : Mem → Int32 → Option Mem) (M : Mem) (y2 : Int32) : Option Mem :=
(if (2117 : Int32) ≤ y2 then
some M
else
gd (inb y2 2117) (
gd (inb y2 2117) (
bd (st M 11 rt (y2).toNatClampNeg (M 11 rf (y2).toNatClampNeg)) (fun M3 =>
bd (y2 + (1 : Int32)) (fun x5 =>
K2 M3 x5)))))
noncomputable def f_X8_copies (rf : Nat) (rt : Nat) (M : Mem) : Option Mem :=
itr (f_X8_copies_L2 rf rt) (fun _ _ => none) FU M (0 : Int32)
theorem pk_X8_copies : Pk "SealedGroupsModel" yX8_copies cX8_copies 3 none 2 := ⟨wm_667, wm_5, rfl, by decide +kernel⟩
set_option maxHeartbeats 4000000 in
set_option maxRecDepth 100000 in
theorem c_X8_copies (l : Launch) (E : En) (hA : AdOK E) {rf rt : Nat} {M : Mem} {M0 : Mem} (hrf : rf = 29 ∨ rf = 31 ∨ rf = 32) (hrt : rt = 29 ∨ rt = 31 ∨ rt = 32) (h : f_X8_copies rf rt M = some M0) : Met l yX8_copies (Wm yX8_copies cX8_copies 3 none) ({ frames := 0, cells := 0, slots := 0, locals := 0 } : Room) (va_Pc [Value.ref (E.2.2 11 rf), Value.ref (E.2.2 11 rt)] (Wd E M)) (QV E M0) 0 0 (AA E) := by
  refine Met.ofW (cc := cX8_copies) (maxL := 3) (ret := none) (by decide +kernel) rfl ?_
  intro p e s m args below meth c s₁ B hml hv
  obtain ⟨rfl, hP, hK⟩ := hv
  have X : Cx E (AA E) p s m c _ cX8_copies 3 RX8 := ⟨⟨B.exec, B.bytes, hml, findClass_of_methodNamed B.named, fun w hw => atoms_spec (ws := Wm yX8_copies cX8_copies 3 none) B.pre w (List.mem_cons_of_mem _ hw)⟩, hK, hA, fun _ h => h⟩
  have hx := B.exec
  have hb := B.bytes
  have hr := B.returns
  have hlocks := B.notSynchronized
  clear B hml
  have hS : va_S (AA E) s.heap s.heap [] := va_S.rf
  have hl := lv_entry ([Value.ref (E.2.2 11 rf), Value.ref (E.2.2 11 rt)]) (n := 3) (Nat.le_of_ble_eq_true rfl)
  rw [lg_entry_eq]
  generalize (lg_sl ([Value.ref (E.2.2 11 rf), Value.ref (E.2.2 11 rt)]) ++ List.replicate (3 - (lg_sl ([Value.ref (E.2.2 11 rf), Value.ref (E.2.2 11 rt)])).length) Slot.unset).toArray = ls at hl ⊢
  have hl : lv_has ls 3 [(0, .ref (E.2.2 11 rf)), (1, .ref (E.2.2 11 rt))] := hl
  have w_L2 : ∀ (n2 : Nat) (M : Mem) (y2 : Int32) (H : Heap) (locs : List Loc) (ls : Array Slot), itr (f_X8_copies_L2 rf rt) (fun _ _ => none) n2 M y2 = some M0 → va_P E.1 vwCl (wl E M) H → va_S (AA E) s.heap H locs → lv_has ls 3 [(0, .ref (E.2.2 11 rf)), (1, .ref (E.2.2 11 rt)), (2, .int y2)] → W p l e (headSpec (Wm yX8_copies cX8_copies 3 none) ({ frames := 0, cells := 0, slots := 0, locals := 0 } : Room)).room s m ([Value.ref (E.2.2 11 rf), Value.ref (E.2.2 11 rt)] : List Value).toArray below meth c H locs 0 0 (MQ below (QV E M0) ([Value.ref (E.2.2 11 rf), Value.ref (E.2.2 11 rt)] : List Value).toArray s 0 0 (AA E)) (F0 m 2 ls []) := by
    intro n2
    induction n2 with
    | zero => intro M y2 H locs ls h; exact (nomatch (show (none : Option Mem) = some _ from h))
    | succ n2 ih2 =>
      intro M y2 H locs ls h hP hS hl
      have h : f_X8_copies_L2 rf rt (itr (f_X8_copies_L2 rf rt) (fun _ _ => none) n2) M y2 = some M0 := h
      unfold f_X8_copies_L2 at h
      refine lv_iload_n hx hb dX8_copies_2 rfl (lv_at hl 2 rfl) ?_
      refine lv_sipush (v := 2117) hx hb dX8_copies_3 (by decide) ?_
      refine lv_icmp_ge (tgt := 21) hx hb dX8_copies_6 (by decide) (fun c1 => ?_) (fun c1 => ?_)
      · have h := br_1 h c1
        exact mw_vret X hr hlocks hP hS (Option.some.inj h) dX8_copies_21
      · have h := br_0 h c1
        refine lv_aload_n hx hb dX8_copies_9 rfl (lv_at hl 1 rfl) ?_
        refine lv_iload_n hx hb dX8_copies_10 rfl (lv_at hl 2 rfl) ?_
        refine lv_aload_n hx hb dX8_copies_11 rfl (lv_at hl 0 rfl) ?_
        refine lv_iload_n hx hb dX8_copies_12 rfl (lv_at hl 2 rfl) ?_
        obtain ⟨g2, h⟩ := gd_e h
        refine mw_ld X hP (mrow hrf) (cel_2117 hrf _) (inb_vp g2) rfl dX8_copies_13 ?_
        obtain ⟨g4, h⟩ := gd_e h
        refine mw_st X hP hS (mrow hrt) (fun f => cel_2117 hrt f) (inb_vp g4) rfl dX8_copies_14 (fun H locs M3 eM3 hP hS => ?_)
        have h := bd_e h eM3
        obtain ⟨x5, ex5⟩ : ∃ y : Int32, y = y2 + (1 : Int32) := ⟨_, rfl⟩
        have h := bd_e h ex5
        refine lv_iinc (v := x5) (lv' := [(2, .int x5), (0, .ref (E.2.2 11 rf)), (1, .ref (E.2.2 11 rt))]) hx hb dX8_copies_15 hl (k := 2) rfl (by rw [ex5]; rfl) (by decide) rfl (fun ls hl => ?_)
        refine lv_goto (tgt := 2) hx hb dX8_copies_18 (by decide) ?_
        exact ih2 _ _ _ _ _ h hP hS (lv_sub hl [1, 2, 0] rfl)
  unfold f_X8_copies at h
  refine lv_iconst (v := 0) hx hb dX8_copies_0 (by decide) ?_
  refine lv_istore_n (lv' := [(2, .int (0 : Int32)), (0, .ref (E.2.2 11 rf)), (1, .ref (E.2.2 11 rt))]) hx hb dX8_copies_1 rfl hl (by decide) rfl (fun ls hl => ?_)
  exact w_L2 FU _ _ _ _ _ h hP hS (lv_sub hl [1, 2, 0] rfl)
/-! SealedGroupsModel.changes -/
noncomputable def f_X8_changes_L59  (K59 : Mem → Int32 → Option Mem) (M : Mem) (y1 : Int32) : Option Mem :=
(if (2117 : Int32) ≤ y1 then
bd (st M 11 28 4 ((M 11 28 4) + (1 : Int32))) (fun M4 =>
some M4)
else
gd (inb y1 2117) (
gd (inb (((2117 : Int32) * (M 11 28 4)) + y1) 8468) (
bd (st M 11 30 ((((2117 : Int32) * (M 11 28 4)) + y1)).toNatClampNeg (M 11 29 (y1).toNatClampNeg)) (fun M6 =>
bd (y1 + (1 : Int32)) (fun x8 =>
K59 M6 x8)))))
noncomputable def f_X8_changes_L57  (M : Mem) : Option Mem :=
itr (f_X8_changes_L59 ) (fun _ _ => none) FU M (0 : Int32)
noncomputable def f_X8_changes_L18  (K18 : Mem → Int32 → Option Mem) (M : Mem) (y1 : Int32) : Option Mem :=
(if (6351 : Int32) ≤ y1 then
bd (st M 11 28 4 ((M 11 28 4) - (1 : Int32))) (fun M10 =>
f_X8_changes_L57 M10)
else
gd (inb (y1 + (2117 : Int32)) 8468) (
gd (inb y1 8468) (
bd (st M 11 30 (y1).toNatClampNeg (M 11 30 ((y1 + (2117 : Int32))).toNatClampNeg)) (fun M12 =>
bd (y1 + (1 : Int32)) (fun x14 =>
K18 M12 x14)))))
noncomputable def f_X8_changes  (M : Mem) : Option Mem :=
(if (M 11 28 5) = 0 then
(if (M 11 28 4) = (4 : Int32) then
itr (f_X8_changes_L18 ) (fun _ _ => none) FU M (0 : Int32)
else
f_X8_changes_L57 M)
else
some M)
theorem pk_X8_changes : Pk "SealedGroupsModel" yX8_changes cX8_changes 2 none 0 := ⟨wm_201, wm_5, rfl, by decide +kernel⟩
theorem pv_X8_changes : Cond.instanceMethod yX8_changes ∈ wsL_law ∧ Cond.selects "SealedGroupsModel" yX8_changes yX8_changes ∈ wsL_law := ⟨wm_199, wm_200⟩
set_option maxHeartbeats 4000000 in
set_option maxRecDepth 100000 in
theorem c_X8_changes (l : Launch) (E : En) (hA : AdOK E) {M : Mem} {M0 : Mem}  (h : f_X8_changes M = some M0) : Met l yX8_changes (Wm yX8_changes cX8_changes 2 none) ({ frames := 0, cells := 0, slots := 0, locals := 0 } : Room) (va_Pc [Value.ref (E.2.2 11 28)] (Wd E M)) (QV E M0) 0 0 (AA E) := by
  refine Met.ofW (cc := cX8_changes) (maxL := 2) (ret := none) (by decide +kernel) rfl ?_
  intro p e s m args below meth c s₁ B hml hv
  obtain ⟨rfl, hP, hK⟩ := hv
  have X : Cx E (AA E) p s m c _ cX8_changes 2 RX8 := ⟨⟨B.exec, B.bytes, hml, findClass_of_methodNamed B.named, fun w hw => atoms_spec (ws := Wm yX8_changes cX8_changes 2 none) B.pre w (List.mem_cons_of_mem _ hw)⟩, hK, hA, fun _ h => h⟩
  have hx := B.exec
  have hb := B.bytes
  have hr := B.returns
  have hlocks := B.notSynchronized
  clear B hml
  have hS : va_S (AA E) s.heap s.heap [] := va_S.rf
  have hl := lv_entry ([Value.ref (E.2.2 11 28)]) (n := 2) (Nat.le_of_ble_eq_true rfl)
  rw [lg_entry_eq]
  generalize (lg_sl ([Value.ref (E.2.2 11 28)]) ++ List.replicate (2 - (lg_sl ([Value.ref (E.2.2 11 28)])).length) Slot.unset).toArray = ls at hl ⊢
  have hl : lv_has ls 2 [(0, .ref (E.2.2 11 28))] := hl
  have w_L59 : ∀ (n59 : Nat) (M : Mem) (y1 : Int32) (H : Heap) (locs : List Loc) (ls : Array Slot), itr (f_X8_changes_L59 ) (fun _ _ => none) n59 M y1 = some M0 → va_P E.1 vwCl (wl E M) H → va_S (AA E) s.heap H locs → lv_has ls 2 [(0, .ref (E.2.2 11 28)), (1, .int y1)] → W p l e (headSpec (Wm yX8_changes cX8_changes 2 none) ({ frames := 0, cells := 0, slots := 0, locals := 0 } : Room)).room s m ([Value.ref (E.2.2 11 28)] : List Value).toArray below meth c H locs 0 0 (MQ below (QV E M0) ([Value.ref (E.2.2 11 28)] : List Value).toArray s 0 0 (AA E)) (F0 m 59 ls []) := by
    intro n59
    induction n59 with
    | zero => intro M y1 H locs ls h; exact (nomatch (show (none : Option Mem) = some _ from h))
    | succ n59 ih59 =>
      intro M y1 H locs ls h hP hS hl
      have h : f_X8_changes_L59 (itr (f_X8_changes_L59 ) (fun _ _ => none) n59) M y1 = some M0 := h
      unfold f_X8_changes_L59 at h
      refine lv_iload_n hx hb dX8_changes_59 rfl (lv_at hl 1 rfl) ?_
      refine lv_sipush (v := 2117) hx hb dX8_changes_60 (by decide) ?_
      refine lv_icmp_ge (tgt := 93) hx hb dX8_changes_63 (by decide) (fun c3 => ?_) (fun c3 => ?_)
      · have h := br_1 h c3
        refine lv_aload_n hx hb dX8_changes_93 rfl (lv_at hl 0 rfl) ?_
        refine lv_dup hx hb dX8_changes_94 rfl ?_
        refine gt_8_4 X wm_203 hP ix_28 dX8_changes_95 ?_
        refine lv_iconst (v := 1) hx hb dX8_changes_98 (by decide) ?_
        refine lv_iadd hx hb dX8_changes_99 ?_
        refine pt_8_4 X wm_203 hP hS ix_28 dX8_changes_100 (fun H locs M4 eM4 hP hS => ?_)
        have h := bd_e h eM4
        exact mw_vret X hr hlocks hP hS (Option.some.inj h) dX8_changes_103
      · have h := br_0 h c3
        refine lv_aload_n hx hb dX8_changes_66 rfl (lv_at hl 0 rfl) ?_
        refine gt_8_1 X wm_91 hP ix_28 dX8_changes_67 ?_
        refine lv_sipush (v := 2117) hx hb dX8_changes_70 (by decide) ?_
        refine lv_aload_n hx hb dX8_changes_73 rfl (lv_at hl 0 rfl) ?_
        refine gt_8_4 X wm_203 hP ix_28 dX8_changes_74 ?_
        refine lv_imul hx hb dX8_changes_77 ?_
        refine lv_iload_n hx hb dX8_changes_78 rfl (lv_at hl 1 rfl) ?_
        refine lv_iadd hx hb dX8_changes_79 ?_
        refine lv_aload_n hx hb dX8_changes_80 rfl (lv_at hl 0 rfl) ?_
        refine gt_8_0 X wm_90 hP ix_28 dX8_changes_81 ?_
        refine lv_iload_n hx hb dX8_changes_84 rfl (lv_at hl 1 rfl) ?_
        obtain ⟨g5, h⟩ := gd_e h
        refine mw_ld X hP ix_29 rfl (inb_vp g5) rfl dX8_changes_85 ?_
        obtain ⟨g7, h⟩ := gd_e h
        refine mw_st X hP hS ix_30 (fun _ => rfl) (inb_vp g7) rfl dX8_changes_86 (fun H locs M6 eM6 hP hS => ?_)
        have h := bd_e h eM6
        obtain ⟨x8, ex8⟩ : ∃ y : Int32, y = y1 + (1 : Int32) := ⟨_, rfl⟩
        have h := bd_e h ex8
        refine lv_iinc (v := x8) (lv' := [(1, .int x8), (0, .ref (E.2.2 11 28))]) hx hb dX8_changes_87 hl (k := 1) rfl (by rw [ex8]; rfl) (by decide) rfl (fun ls hl => ?_)
        refine lv_goto (tgt := 59) hx hb dX8_changes_90 (by decide) ?_
        exact ih59 _ _ _ _ _ h hP hS (lv_sub hl [1, 0] rfl)
  have w_L57 : ∀ (M : Mem) (H : Heap) (locs : List Loc) (ls : Array Slot), f_X8_changes_L57  M = some M0 → va_P E.1 vwCl (wl E M) H → va_S (AA E) s.heap H locs → lv_has ls 2 [(0, .ref (E.2.2 11 28))] → W p l e (headSpec (Wm yX8_changes cX8_changes 2 none) ({ frames := 0, cells := 0, slots := 0, locals := 0 } : Room)).room s m ([Value.ref (E.2.2 11 28)] : List Value).toArray below meth c H locs 0 0 (MQ below (QV E M0) ([Value.ref (E.2.2 11 28)] : List Value).toArray s 0 0 (AA E)) (F0 m 57 ls []) := by
    intro M H locs ls h hP hS hl
    unfold f_X8_changes_L57 at h
    refine lv_iconst (v := 0) hx hb dX8_changes_57 (by decide) ?_
    refine lv_istore_n (lv' := [(1, .int (0 : Int32)), (0, .ref (E.2.2 11 28))]) hx hb dX8_changes_58 rfl hl (by decide) rfl (fun ls hl => ?_)
    exact w_L59 FU _ _ _ _ _ h hP hS (lv_sub hl [1, 0] rfl)
  have w_L18 : ∀ (n18 : Nat) (M : Mem) (y1 : Int32) (H : Heap) (locs : List Loc) (ls : Array Slot), itr (f_X8_changes_L18 ) (fun _ _ => none) n18 M y1 = some M0 → va_P E.1 vwCl (wl E M) H → va_S (AA E) s.heap H locs → lv_has ls 2 [(0, .ref (E.2.2 11 28)), (1, .int y1)] → W p l e (headSpec (Wm yX8_changes cX8_changes 2 none) ({ frames := 0, cells := 0, slots := 0, locals := 0 } : Room)).room s m ([Value.ref (E.2.2 11 28)] : List Value).toArray below meth c H locs 0 0 (MQ below (QV E M0) ([Value.ref (E.2.2 11 28)] : List Value).toArray s 0 0 (AA E)) (F0 m 18 ls []) := by
    intro n18
    induction n18 with
    | zero => intro M y1 H locs ls h; exact (nomatch (show (none : Option Mem) = some _ from h))
    | succ n18 ih18 =>
      intro M y1 H locs ls h hP hS hl
      have h : f_X8_changes_L18 (itr (f_X8_changes_L18 ) (fun _ _ => none) n18) M y1 = some M0 := h
      unfold f_X8_changes_L18 at h
      refine lv_iload_n hx hb dX8_changes_18 rfl (lv_at hl 1 rfl) ?_
      refine lv_sipush (v := 6351) hx hb dX8_changes_19 (by decide) ?_
      refine lv_icmp_ge (tgt := 47) hx hb dX8_changes_22 (by decide) (fun c9 => ?_) (fun c9 => ?_)
      · have h := br_1 h c9
        refine lv_aload_n hx hb dX8_changes_47 rfl (lv_at hl 0 rfl) ?_
        refine lv_dup hx hb dX8_changes_48 rfl ?_
        refine gt_8_4 X wm_203 hP ix_28 dX8_changes_49 ?_
        refine lv_iconst (v := 1) hx hb dX8_changes_52 (by decide) ?_
        refine lv_isub hx hb dX8_changes_53 ?_
        refine pt_8_4 X wm_203 hP hS ix_28 dX8_changes_54 (fun H locs M10 eM10 hP hS => ?_)
        have h := bd_e h eM10
        exact w_L57 _ _ _ _ h hP hS (lv_sub hl [0] rfl)
      · have h := br_0 h c9
        refine lv_aload_n hx hb dX8_changes_25 rfl (lv_at hl 0 rfl) ?_
        refine gt_8_1 X wm_91 hP ix_28 dX8_changes_26 ?_
        refine lv_iload_n hx hb dX8_changes_29 rfl (lv_at hl 1 rfl) ?_
        refine lv_aload_n hx hb dX8_changes_30 rfl (lv_at hl 0 rfl) ?_
        refine gt_8_1 X wm_91 hP ix_28 dX8_changes_31 ?_
        refine lv_iload_n hx hb dX8_changes_34 rfl (lv_at hl 1 rfl) ?_
        refine lv_sipush (v := 2117) hx hb dX8_changes_35 (by decide) ?_
        refine lv_iadd hx hb dX8_changes_38 ?_
        obtain ⟨g11, h⟩ := gd_e h
        refine mw_ld X hP ix_30 rfl (inb_vp g11) rfl dX8_changes_39 ?_
        obtain ⟨g13, h⟩ := gd_e h
        refine mw_st X hP hS ix_30 (fun _ => rfl) (inb_vp g13) rfl dX8_changes_40 (fun H locs M12 eM12 hP hS => ?_)
        have h := bd_e h eM12
        obtain ⟨x14, ex14⟩ : ∃ y : Int32, y = y1 + (1 : Int32) := ⟨_, rfl⟩
        have h := bd_e h ex14
        refine lv_iinc (v := x14) (lv' := [(1, .int x14), (0, .ref (E.2.2 11 28))]) hx hb dX8_changes_41 hl (k := 1) rfl (by rw [ex14]; rfl) (by decide) rfl (fun ls hl => ?_)
        refine lv_goto (tgt := 18) hx hb dX8_changes_44 (by decide) ?_
        exact ih18 _ _ _ _ _ h hP hS (lv_sub hl [1, 0] rfl)
  unfold f_X8_changes at h
  refine lv_aload_n hx hb dX8_changes_0 rfl (lv_at hl 0 rfl) ?_
  refine gt_8_5 X wm_202 hP ix_28 dX8_changes_1 ?_
  refine lv_if_eq (tgt := 8) hx hb dX8_changes_4 (by decide) (fun c1 => ?_) (fun c1 => ?_)
  · have h := br_1 h c1
    refine lv_aload_n hx hb dX8_changes_8 rfl (lv_at hl 0 rfl) ?_
    refine gt_8_4 X wm_203 hP ix_28 dX8_changes_9 ?_
    refine lv_iconst (v := 4) hx hb dX8_changes_12 (by decide) ?_
    refine lv_icmp_ne (tgt := 57) hx hb dX8_changes_13 (by decide) (fun c2 => ?_) (fun c2 => ?_)
    · have h := br_0 h c2
      exact w_L57 _ _ _ _ h hP hS (lv_sub hl [0] rfl)
    · have h := br_1 h c2
      refine lv_iconst (v := 0) hx hb dX8_changes_16 (by decide) ?_
      refine lv_istore_n (lv' := [(1, .int (0 : Int32)), (0, .ref (E.2.2 11 28))]) hx hb dX8_changes_17 rfl hl (by decide) rfl (fun ls hl => ?_)
      exact w_L18 FU _ _ _ _ _ h hP hS (lv_sub hl [1, 0] rfl)
  · have h := br_0 h c1
    exact mw_vret X hr hlocks hP hS (Option.some.inj h) dX8_changes_7
/-! SealedGroupsModel.isStopped -/
noncomputable def f_X8_isStopped  (M : Mem) : Option Int32 :=
(if (M 11 29 3) = (1 : Int32) then
some (1 : Int32)
else
some (0 : Int32))
theorem pk_X8_isStopped : Pk "SealedGroupsModel" yX8_isStopped cX8_isStopped 1 (some .boolean) 0 := ⟨wm_189, wm_5, rfl, by decide +kernel⟩
theorem pv_X8_isStopped : Cond.instanceMethod yX8_isStopped ∈ wsL_law ∧ Cond.selects "SealedGroupsModel" yX8_isStopped yX8_isStopped ∈ wsL_law := ⟨wm_187, wm_188⟩
set_option maxHeartbeats 4000000 in
set_option maxRecDepth 100000 in
theorem c_X8_isStopped (l : Launch) (E : En) (hA : AdOK E) {M : Mem} {r0 : Int32}  (h : f_X8_isStopped M = some r0) : Met l yX8_isStopped (Wm yX8_isStopped cX8_isStopped 1 (some .boolean)) ({ frames := 0, cells := 0, slots := 0, locals := 0 } : Room) (va_Pc [Value.ref (E.2.2 11 28)] (Wd E M)) (QI E r0 M) 0 0 (AA E) := by
  refine Met.ofW (cc := cX8_isStopped) (maxL := 1) (ret := (some .boolean)) (by decide +kernel) rfl ?_
  intro p e s m args below meth c s₁ B hml hv
  obtain ⟨rfl, hP, hK⟩ := hv
  have X : Cx E (AA E) p s m c _ cX8_isStopped 1 RX8 := ⟨⟨B.exec, B.bytes, hml, findClass_of_methodNamed B.named, fun w hw => atoms_spec (ws := Wm yX8_isStopped cX8_isStopped 1 (some .boolean)) B.pre w (List.mem_cons_of_mem _ hw)⟩, hK, hA, fun _ h => h⟩
  have hx := B.exec
  have hb := B.bytes
  have hr := B.returns
  have hlocks := B.notSynchronized
  clear B hml
  have hS : va_S (AA E) s.heap s.heap [] := va_S.rf
  have hl := lv_entry ([Value.ref (E.2.2 11 28)]) (n := 1) (Nat.le_of_ble_eq_true rfl)
  rw [lg_entry_eq]
  generalize (lg_sl ([Value.ref (E.2.2 11 28)]) ++ List.replicate (1 - (lg_sl ([Value.ref (E.2.2 11 28)])).length) Slot.unset).toArray = ls at hl ⊢
  have hl : lv_has ls 1 [(0, .ref (E.2.2 11 28))] := hl
  unfold f_X8_isStopped at h
  refine lv_aload_n hx hb dX8_isStopped_0 rfl (lv_at hl 0 rfl) ?_
  refine gt_8_0 X wm_90 hP ix_28 dX8_isStopped_1 ?_
  refine lv_iconst (v := 3) hx hb dX8_isStopped_4 (by decide) ?_
  refine mw_ld X hP ix_29 rfl (v := (M 11 29 3)) (inb_vp (by decide)) rfl dX8_isStopped_5 ?_
  refine lv_iconst (v := 1) hx hb dX8_isStopped_6 (by decide) ?_
  refine lv_icmp_ne (tgt := 14) hx hb dX8_isStopped_7 (by decide) (fun c1 => ?_) (fun c1 => ?_)
  · have h := br_0 h c1
    refine lv_iconst (v := 0) hx hb dX8_isStopped_14 (by decide) ?_
    exact mw_zret X hr hlocks hP hS (by decide) (Option.some.inj h) rfl dX8_isStopped_15
  · have h := br_1 h c1
    refine lv_iconst (v := 1) hx hb dX8_isStopped_10 (by decide) ?_
    refine lv_goto (tgt := 15) hx hb dX8_isStopped_11 (by decide) ?_
    exact mw_zret X hr hlocks hP hS (by decide) (Option.some.inj h) rfl dX8_isStopped_15
/-! SealedGroupsModel.ofGroup -/
noncomputable def f_X8_ofGroup  (M : Mem) (a1 a2 : Int32) : Option Int32 :=
gd (inb (((5 : Int32) + ((4 : Int32) * a1)) + a2) 2117) (
some (M 11 29 ((((5 : Int32) + ((4 : Int32) * a1)) + a2)).toNatClampNeg))
theorem pk_X8_ofGroup : Pk "SealedGroupsModel" yX8_ofGroup cX8_ofGroup 3 (some .int) 2 := ⟨wm_197, wm_5, rfl, by decide +kernel⟩
theorem pv_X8_ofGroup : Cond.instanceMethod yX8_ofGroup ∈ wsL_law ∧ Cond.selects "SealedGroupsModel" yX8_ofGroup yX8_ofGroup ∈ wsL_law := ⟨wm_195, wm_196⟩
set_option maxHeartbeats 4000000 in
set_option maxRecDepth 100000 in
theorem c_X8_ofGroup (l : Launch) (E : En) (hA : AdOK E) {M : Mem} {a1 a2 : Int32} {r0 : Int32}  (h : f_X8_ofGroup M a1 a2 = some r0) : Met l yX8_ofGroup (Wm yX8_ofGroup cX8_ofGroup 3 (some .int)) ({ frames := 0, cells := 0, slots := 0, locals := 0 } : Room) (va_Pc [Value.ref (E.2.2 11 28), Value.int a1, Value.int a2] (Wd E M)) (QI E r0 M) 0 0 (AA E) := by
  refine Met.ofW (cc := cX8_ofGroup) (maxL := 3) (ret := (some .int)) (by decide +kernel) rfl ?_
  intro p e s m args below meth c s₁ B hml hv
  obtain ⟨rfl, hP, hK⟩ := hv
  have X : Cx E (AA E) p s m c _ cX8_ofGroup 3 RX8 := ⟨⟨B.exec, B.bytes, hml, findClass_of_methodNamed B.named, fun w hw => atoms_spec (ws := Wm yX8_ofGroup cX8_ofGroup 3 (some .int)) B.pre w (List.mem_cons_of_mem _ hw)⟩, hK, hA, fun _ h => h⟩
  have hx := B.exec
  have hb := B.bytes
  have hr := B.returns
  have hlocks := B.notSynchronized
  clear B hml
  have hS : va_S (AA E) s.heap s.heap [] := va_S.rf
  have hl := lv_entry ([Value.ref (E.2.2 11 28), Value.int a1, Value.int a2]) (n := 3) (Nat.le_of_ble_eq_true rfl)
  rw [lg_entry_eq]
  generalize (lg_sl ([Value.ref (E.2.2 11 28), Value.int a1, Value.int a2]) ++ List.replicate (3 - (lg_sl ([Value.ref (E.2.2 11 28), Value.int a1, Value.int a2])).length) Slot.unset).toArray = ls at hl ⊢
  have hl : lv_has ls 3 [(0, .ref (E.2.2 11 28)), (1, .int a1), (2, .int a2)] := hl
  unfold f_X8_ofGroup at h
  refine lv_aload_n hx hb dX8_ofGroup_0 rfl (lv_at hl 0 rfl) ?_
  refine gt_8_0 X wm_90 hP ix_28 dX8_ofGroup_1 ?_
  refine lv_iconst (v := 5) hx hb dX8_ofGroup_4 (by decide) ?_
  refine lv_iconst (v := 4) hx hb dX8_ofGroup_5 (by decide) ?_
  refine lv_iload_n hx hb dX8_ofGroup_6 rfl (lv_at hl 1 rfl) ?_
  refine lv_imul hx hb dX8_ofGroup_7 ?_
  refine lv_iadd hx hb dX8_ofGroup_8 ?_
  refine lv_iload_n hx hb dX8_ofGroup_9 rfl (lv_at hl 2 rfl) ?_
  refine lv_iadd hx hb dX8_ofGroup_10 ?_
  obtain ⟨g1, h⟩ := gd_e h
  refine mw_ld X hP ix_29 rfl (inb_vp g1) rfl dX8_ofGroup_11 ?_
  exact mw_iret X hr hlocks hP hS (Option.some.inj h) rfl dX8_ofGroup_12
/-! SealedGroupsModel.putsGroup -/
noncomputable def f_X8_putsGroup  (M : Mem) (a1 a2 a3 : Int32) : Option Mem :=
gd (inb (((5 : Int32) + ((4 : Int32) * a1)) + a2) 2117) (
bd (st M 11 29 ((((5 : Int32) + ((4 : Int32) * a1)) + a2)).toNatClampNeg a3) (fun M1 =>
some M1))
theorem pk_X8_putsGroup : Pk "SealedGroupsModel" yX8_putsGroup cX8_putsGroup 4 none 3 := ⟨wm_215, wm_5, rfl, by decide +kernel⟩
theorem pv_X8_putsGroup : Cond.instanceMethod yX8_putsGroup ∈ wsL_law ∧ Cond.selects "SealedGroupsModel" yX8_putsGroup yX8_putsGroup ∈ wsL_law := ⟨wm_213, wm_214⟩
set_option maxHeartbeats 4000000 in
set_option maxRecDepth 100000 in
theorem c_X8_putsGroup (l : Launch) (E : En) (hA : AdOK E) {M : Mem} {a1 a2 a3 : Int32} {M0 : Mem}  (h : f_X8_putsGroup M a1 a2 a3 = some M0) : Met l yX8_putsGroup (Wm yX8_putsGroup cX8_putsGroup 4 none) ({ frames := 0, cells := 0, slots := 0, locals := 0 } : Room) (va_Pc [Value.ref (E.2.2 11 28), Value.int a1, Value.int a2, Value.int a3] (Wd E M)) (QV E M0) 0 0 (AA E) := by
  refine Met.ofW (cc := cX8_putsGroup) (maxL := 4) (ret := none) (by decide +kernel) rfl ?_
  intro p e s m args below meth c s₁ B hml hv
  obtain ⟨rfl, hP, hK⟩ := hv
  have X : Cx E (AA E) p s m c _ cX8_putsGroup 4 RX8 := ⟨⟨B.exec, B.bytes, hml, findClass_of_methodNamed B.named, fun w hw => atoms_spec (ws := Wm yX8_putsGroup cX8_putsGroup 4 none) B.pre w (List.mem_cons_of_mem _ hw)⟩, hK, hA, fun _ h => h⟩
  have hx := B.exec
  have hb := B.bytes
  have hr := B.returns
  have hlocks := B.notSynchronized
  clear B hml
  have hS : va_S (AA E) s.heap s.heap [] := va_S.rf
  have hl := lv_entry ([Value.ref (E.2.2 11 28), Value.int a1, Value.int a2, Value.int a3]) (n := 4) (Nat.le_of_ble_eq_true rfl)
  rw [lg_entry_eq]
  generalize (lg_sl ([Value.ref (E.2.2 11 28), Value.int a1, Value.int a2, Value.int a3]) ++ List.replicate (4 - (lg_sl ([Value.ref (E.2.2 11 28), Value.int a1, Value.int a2, Value.int a3])).length) Slot.unset).toArray = ls at hl ⊢
  have hl : lv_has ls 4 [(0, .ref (E.2.2 11 28)), (1, .int a1), (2, .int a2), (3, .int a3)] := hl
  unfold f_X8_putsGroup at h
  refine lv_aload_n hx hb dX8_putsGroup_0 rfl (lv_at hl 0 rfl) ?_
  refine gt_8_0 X wm_90 hP ix_28 dX8_putsGroup_1 ?_
  refine lv_iconst (v := 5) hx hb dX8_putsGroup_4 (by decide) ?_
  refine lv_iconst (v := 4) hx hb dX8_putsGroup_5 (by decide) ?_
  refine lv_iload_n hx hb dX8_putsGroup_6 rfl (lv_at hl 1 rfl) ?_
  refine lv_imul hx hb dX8_putsGroup_7 ?_
  refine lv_iadd hx hb dX8_putsGroup_8 ?_
  refine lv_iload_n hx hb dX8_putsGroup_9 rfl (lv_at hl 2 rfl) ?_
  refine lv_iadd hx hb dX8_putsGroup_10 ?_
  refine lv_iload_n hx hb dX8_putsGroup_11 rfl (lv_at hl 3 rfl) ?_
  obtain ⟨g2, h⟩ := gd_e h
  refine mw_st X hP hS ix_29 (fun _ => rfl) (inb_vp g2) rfl dX8_putsGroup_12 (fun H locs M1 eM1 hP hS => ?_)
  have h := bd_e h eM1
  exact mw_vret X hr hlocks hP hS (Option.some.inj h) dX8_putsGroup_13
/-! SealedGroupsModel.isOpen -/
noncomputable def f_X8_isOpen  (M : Mem) (a1 : Int32) : Option Int32 :=
bO (f_X8_ofGroup M a1 (0 : Int32)) (fun v1 =>
(if v1 = (1 : Int32) then
some (1 : Int32)
else
some (0 : Int32)))
theorem pk_X8_isOpen : Pk "SealedGroupsModel" yX8_isOpen cX8_isOpen 2 (some .boolean) 1 := ⟨wm_193, wm_5, rfl, by decide +kernel⟩
theorem pv_X8_isOpen : Cond.instanceMethod yX8_isOpen ∈ wsL_law ∧ Cond.selects "SealedGroupsModel" yX8_isOpen yX8_isOpen ∈ wsL_law := ⟨wm_191, wm_192⟩
set_option maxHeartbeats 4000000 in
set_option maxRecDepth 100000 in
theorem c_X8_isOpen (l : Launch) (E : En) (hA : AdOK E) {M : Mem} {a1 : Int32} {r0 : Int32}  (h : f_X8_isOpen M a1 = some r0) : Met l yX8_isOpen (Wm yX8_isOpen cX8_isOpen 2 (some .boolean)) ({ frames := 1, cells := 0, slots := 0, locals := 22 } : Room) (va_Pc [Value.ref (E.2.2 11 28), Value.int a1] (Wd E M)) (QI E r0 M) 0 0 (AA E) := by
  refine Met.ofW (cc := cX8_isOpen) (maxL := 2) (ret := (some .boolean)) (by decide +kernel) rfl ?_
  intro p e s m args below meth c s₁ B hml hv
  obtain ⟨rfl, hP, hK⟩ := hv
  have X : Cx E (AA E) p s m c _ cX8_isOpen 2 RX8 := ⟨⟨B.exec, B.bytes, hml, findClass_of_methodNamed B.named, fun w hw => atoms_spec (ws := Wm yX8_isOpen cX8_isOpen 2 (some .boolean)) B.pre w (List.mem_cons_of_mem _ hw)⟩, hK, hA, fun _ h => h⟩
  have hx := B.exec
  have hb := B.bytes
  have hr := B.returns
  have hlocks := B.notSynchronized
  clear B hml
  have hS : va_S (AA E) s.heap s.heap [] := va_S.rf
  have hl := lv_entry ([Value.ref (E.2.2 11 28), Value.int a1]) (n := 2) (Nat.le_of_ble_eq_true rfl)
  rw [lg_entry_eq]
  generalize (lg_sl ([Value.ref (E.2.2 11 28), Value.int a1]) ++ List.replicate (2 - (lg_sl ([Value.ref (E.2.2 11 28), Value.int a1])).length) Slot.unset).toArray = ls at hl ⊢
  have hl : lv_has ls 2 [(0, .ref (E.2.2 11 28)), (1, .int a1)] := hl
  unfold f_X8_isOpen at h
  refine lv_aload_n hx hb dX8_isOpen_0 rfl (lv_at hl 0 rfl) ?_
  refine lv_iload_n hx hb dX8_isOpen_1 rfl (lv_at hl 1 rfl) ?_
  refine lv_iconst (v := 0) hx hb dX8_isOpen_2 (by decide) ?_
  obtain ⟨v1, hv1, h⟩ := bO_e h
  refine mw_callVi X (c_X8_ofGroup l E hA hv1) pk_X8_ofGroup pv_X8_ofGroup wm_194 ⟨Nat.le_of_ble_eq_true rfl, Nat.le_of_ble_eq_true rfl⟩ ⟨rfl, rfl⟩ hP hS ix_28 rfl rfl rfl rfl hl.1 (Nat.le_of_ble_eq_true rfl) ⟨Nat.zero_le _, Nat.zero_le _⟩ rfl dX8_isOpen_3 (fun H locs hP hS => ?_)
  refine lv_iconst (v := 1) hx hb dX8_isOpen_6 (by decide) ?_
  refine lv_icmp_ne (tgt := 14) hx hb dX8_isOpen_7 (by decide) (fun c2 => ?_) (fun c2 => ?_)
  · have h := br_0 h c2
    refine lv_iconst (v := 0) hx hb dX8_isOpen_14 (by decide) ?_
    exact mw_zret X hr hlocks hP hS (by decide) (Option.some.inj h) rfl dX8_isOpen_15
  · have h := br_1 h c2
    refine lv_iconst (v := 1) hx hb dX8_isOpen_10 (by decide) ?_
    refine lv_goto (tgt := 15) hx hb dX8_isOpen_11 (by decide) ?_
    exact mw_zret X hr hlocks hP hS (by decide) (Option.some.inj h) rfl dX8_isOpen_15
/-! SealedGroupsModel.ofPage -/
noncomputable def f_X8_ofPage  (M : Mem) (a1 a2 : Int32) : Option Int32 :=
gd (inb (((21 : Int32) + ((6 : Int32) * a1)) + a2) 2117) (
some (M 11 29 ((((21 : Int32) + ((6 : Int32) * a1)) + a2)).toNatClampNeg))
theorem pk_X8_ofPage : Pk "SealedGroupsModel" yX8_ofPage cX8_ofPage 3 (some .int) 2 := ⟨wm_256, wm_5, rfl, by decide +kernel⟩
theorem pv_X8_ofPage : Cond.instanceMethod yX8_ofPage ∈ wsL_law ∧ Cond.selects "SealedGroupsModel" yX8_ofPage yX8_ofPage ∈ wsL_law := ⟨wm_254, wm_255⟩
set_option maxHeartbeats 4000000 in
set_option maxRecDepth 100000 in
theorem c_X8_ofPage (l : Launch) (E : En) (hA : AdOK E) {M : Mem} {a1 a2 : Int32} {r0 : Int32}  (h : f_X8_ofPage M a1 a2 = some r0) : Met l yX8_ofPage (Wm yX8_ofPage cX8_ofPage 3 (some .int)) ({ frames := 0, cells := 0, slots := 0, locals := 0 } : Room) (va_Pc [Value.ref (E.2.2 11 28), Value.int a1, Value.int a2] (Wd E M)) (QI E r0 M) 0 0 (AA E) := by
  refine Met.ofW (cc := cX8_ofPage) (maxL := 3) (ret := (some .int)) (by decide +kernel) rfl ?_
  intro p e s m args below meth c s₁ B hml hv
  obtain ⟨rfl, hP, hK⟩ := hv
  have X : Cx E (AA E) p s m c _ cX8_ofPage 3 RX8 := ⟨⟨B.exec, B.bytes, hml, findClass_of_methodNamed B.named, fun w hw => atoms_spec (ws := Wm yX8_ofPage cX8_ofPage 3 (some .int)) B.pre w (List.mem_cons_of_mem _ hw)⟩, hK, hA, fun _ h => h⟩
  have hx := B.exec
  have hb := B.bytes
  have hr := B.returns
  have hlocks := B.notSynchronized
  clear B hml
  have hS : va_S (AA E) s.heap s.heap [] := va_S.rf
  have hl := lv_entry ([Value.ref (E.2.2 11 28), Value.int a1, Value.int a2]) (n := 3) (Nat.le_of_ble_eq_true rfl)
  rw [lg_entry_eq]
  generalize (lg_sl ([Value.ref (E.2.2 11 28), Value.int a1, Value.int a2]) ++ List.replicate (3 - (lg_sl ([Value.ref (E.2.2 11 28), Value.int a1, Value.int a2])).length) Slot.unset).toArray = ls at hl ⊢
  have hl : lv_has ls 3 [(0, .ref (E.2.2 11 28)), (1, .int a1), (2, .int a2)] := hl
  unfold f_X8_ofPage at h
  refine lv_aload_n hx hb dX8_ofPage_0 rfl (lv_at hl 0 rfl) ?_
  refine gt_8_0 X wm_90 hP ix_28 dX8_ofPage_1 ?_
  refine lv_bipush (v := 21) hx hb dX8_ofPage_4 (by decide) ?_
  refine lv_bipush (v := 6) hx hb dX8_ofPage_6 (by decide) ?_
  refine lv_iload_n hx hb dX8_ofPage_8 rfl (lv_at hl 1 rfl) ?_
  refine lv_imul hx hb dX8_ofPage_9 ?_
  refine lv_iadd hx hb dX8_ofPage_10 ?_
  refine lv_iload_n hx hb dX8_ofPage_11 rfl (lv_at hl 2 rfl) ?_
  refine lv_iadd hx hb dX8_ofPage_12 ?_
  obtain ⟨g1, h⟩ := gd_e h
  refine mw_ld X hP ix_29 rfl (inb_vp g1) rfl dX8_ofPage_13 ?_
  exact mw_iret X hr hlocks hP hS (Option.some.inj h) rfl dX8_ofPage_14
/-! SealedGroupsModel.putsPage -/
noncomputable def f_X8_putsPage  (M : Mem) (a1 a2 a3 : Int32) : Option Mem :=
gd (inb (((21 : Int32) + ((6 : Int32) * a1)) + a2) 2117) (
bd (st M 11 29 ((((21 : Int32) + ((6 : Int32) * a1)) + a2)).toNatClampNeg a3) (fun M1 =>
some M1))
theorem pk_X8_putsPage : Pk "SealedGroupsModel" yX8_putsPage cX8_putsPage 4 none 3 := ⟨wm_272, wm_5, rfl, by decide +kernel⟩
theorem pv_X8_putsPage : Cond.instanceMethod yX8_putsPage ∈ wsL_law ∧ Cond.selects "SealedGroupsModel" yX8_putsPage yX8_putsPage ∈ wsL_law := ⟨wm_270, wm_271⟩
set_option maxHeartbeats 4000000 in
set_option maxRecDepth 100000 in
theorem c_X8_putsPage (l : Launch) (E : En) (hA : AdOK E) {M : Mem} {a1 a2 a3 : Int32} {M0 : Mem}  (h : f_X8_putsPage M a1 a2 a3 = some M0) : Met l yX8_putsPage (Wm yX8_putsPage cX8_putsPage 4 none) ({ frames := 0, cells := 0, slots := 0, locals := 0 } : Room) (va_Pc [Value.ref (E.2.2 11 28), Value.int a1, Value.int a2, Value.int a3] (Wd E M)) (QV E M0) 0 0 (AA E) := by
  refine Met.ofW (cc := cX8_putsPage) (maxL := 4) (ret := none) (by decide +kernel) rfl ?_
  intro p e s m args below meth c s₁ B hml hv
  obtain ⟨rfl, hP, hK⟩ := hv
  have X : Cx E (AA E) p s m c _ cX8_putsPage 4 RX8 := ⟨⟨B.exec, B.bytes, hml, findClass_of_methodNamed B.named, fun w hw => atoms_spec (ws := Wm yX8_putsPage cX8_putsPage 4 none) B.pre w (List.mem_cons_of_mem _ hw)⟩, hK, hA, fun _ h => h⟩
  have hx := B.exec
  have hb := B.bytes
  have hr := B.returns
  have hlocks := B.notSynchronized
  clear B hml
  have hS : va_S (AA E) s.heap s.heap [] := va_S.rf
  have hl := lv_entry ([Value.ref (E.2.2 11 28), Value.int a1, Value.int a2, Value.int a3]) (n := 4) (Nat.le_of_ble_eq_true rfl)
  rw [lg_entry_eq]
  generalize (lg_sl ([Value.ref (E.2.2 11 28), Value.int a1, Value.int a2, Value.int a3]) ++ List.replicate (4 - (lg_sl ([Value.ref (E.2.2 11 28), Value.int a1, Value.int a2, Value.int a3])).length) Slot.unset).toArray = ls at hl ⊢
  have hl : lv_has ls 4 [(0, .ref (E.2.2 11 28)), (1, .int a1), (2, .int a2), (3, .int a3)] := hl
  unfold f_X8_putsPage at h
  refine lv_aload_n hx hb dX8_putsPage_0 rfl (lv_at hl 0 rfl) ?_
  refine gt_8_0 X wm_90 hP ix_28 dX8_putsPage_1 ?_
  refine lv_bipush (v := 21) hx hb dX8_putsPage_4 (by decide) ?_
  refine lv_bipush (v := 6) hx hb dX8_putsPage_6 (by decide) ?_
  refine lv_iload_n hx hb dX8_putsPage_8 rfl (lv_at hl 1 rfl) ?_
  refine lv_imul hx hb dX8_putsPage_9 ?_
  refine lv_iadd hx hb dX8_putsPage_10 ?_
  refine lv_iload_n hx hb dX8_putsPage_11 rfl (lv_at hl 2 rfl) ?_
  refine lv_iadd hx hb dX8_putsPage_12 ?_
  refine lv_iload_n hx hb dX8_putsPage_13 rfl (lv_at hl 3 rfl) ?_
  obtain ⟨g2, h⟩ := gd_e h
  refine mw_st X hP hS ix_29 (fun _ => rfl) (inb_vp g2) rfl dX8_putsPage_14 (fun H locs M1 eM1 hP hS => ?_)
  have h := bd_e h eM1
  exact mw_vret X hr hlocks hP hS (Option.some.inj h) dX8_putsPage_15
/-! SealedGroupsModel.value -/
noncomputable def f_X8_value  (M : Mem) (a1 : Int32) : Option Int32 :=
bO (f_X8_ofPage M a1 (2 : Int32)) (fun v1 =>
(if v1 = (1 : Int32) then
bO (f_X8_ofPage M a1 (3 : Int32)) (fun v4 =>
some v4)
else
bO (f_X8_ofPage M a1 (0 : Int32)) (fun v3 =>
some v3)))
theorem pk_X8_value : Pk "SealedGroupsModel" yX8_value cX8_value 2 (some .int) 1 := ⟨wm_252, wm_5, rfl, by decide +kernel⟩
theorem pv_X8_value : Cond.instanceMethod yX8_value ∈ wsL_law ∧ Cond.selects "SealedGroupsModel" yX8_value yX8_value ∈ wsL_law := ⟨wm_250, wm_251⟩
set_option maxHeartbeats 4000000 in
set_option maxRecDepth 100000 in
theorem c_X8_value (l : Launch) (E : En) (hA : AdOK E) {M : Mem} {a1 : Int32} {r0 : Int32}  (h : f_X8_value M a1 = some r0) : Met l yX8_value (Wm yX8_value cX8_value 2 (some .int)) ({ frames := 1, cells := 0, slots := 0, locals := 22 } : Room) (va_Pc [Value.ref (E.2.2 11 28), Value.int a1] (Wd E M)) (QI E r0 M) 0 0 (AA E) := by
  refine Met.ofW (cc := cX8_value) (maxL := 2) (ret := (some .int)) (by decide +kernel) rfl ?_
  intro p e s m args below meth c s₁ B hml hv
  obtain ⟨rfl, hP, hK⟩ := hv
  have X : Cx E (AA E) p s m c _ cX8_value 2 RX8 := ⟨⟨B.exec, B.bytes, hml, findClass_of_methodNamed B.named, fun w hw => atoms_spec (ws := Wm yX8_value cX8_value 2 (some .int)) B.pre w (List.mem_cons_of_mem _ hw)⟩, hK, hA, fun _ h => h⟩
  have hx := B.exec
  have hb := B.bytes
  have hr := B.returns
  have hlocks := B.notSynchronized
  clear B hml
  have hS : va_S (AA E) s.heap s.heap [] := va_S.rf
  have hl := lv_entry ([Value.ref (E.2.2 11 28), Value.int a1]) (n := 2) (Nat.le_of_ble_eq_true rfl)
  rw [lg_entry_eq]
  generalize (lg_sl ([Value.ref (E.2.2 11 28), Value.int a1]) ++ List.replicate (2 - (lg_sl ([Value.ref (E.2.2 11 28), Value.int a1])).length) Slot.unset).toArray = ls at hl ⊢
  have hl : lv_has ls 2 [(0, .ref (E.2.2 11 28)), (1, .int a1)] := hl
  unfold f_X8_value at h
  refine lv_aload_n hx hb dX8_value_0 rfl (lv_at hl 0 rfl) ?_
  refine lv_iload_n hx hb dX8_value_1 rfl (lv_at hl 1 rfl) ?_
  refine lv_aload_n hx hb dX8_value_2 rfl (lv_at hl 0 rfl) ?_
  refine lv_iload_n hx hb dX8_value_3 rfl (lv_at hl 1 rfl) ?_
  refine lv_iconst (v := 2) hx hb dX8_value_4 (by decide) ?_
  obtain ⟨v1, hv1, h⟩ := bO_e h
  refine mw_callVi X (c_X8_ofPage l E hA hv1) pk_X8_ofPage pv_X8_ofPage wm_253 ⟨Nat.le_of_ble_eq_true rfl, Nat.le_of_ble_eq_true rfl⟩ ⟨rfl, rfl⟩ hP hS ix_28 rfl rfl rfl rfl hl.1 (Nat.le_of_ble_eq_true rfl) ⟨Nat.zero_le _, Nat.zero_le _⟩ rfl dX8_value_5 (fun H locs hP hS => ?_)
  refine lv_iconst (v := 1) hx hb dX8_value_8 (by decide) ?_
  refine lv_icmp_ne (tgt := 16) hx hb dX8_value_9 (by decide) (fun c2 => ?_) (fun c2 => ?_)
  · have h := br_0 h c2
    refine lv_iconst (v := 0) hx hb dX8_value_16 (by decide) ?_
    obtain ⟨v3, hv3, h⟩ := bO_e h
    refine mw_callVi X (c_X8_ofPage l E hA hv3) pk_X8_ofPage pv_X8_ofPage wm_253 ⟨Nat.le_of_ble_eq_true rfl, Nat.le_of_ble_eq_true rfl⟩ ⟨rfl, rfl⟩ hP hS ix_28 rfl rfl rfl rfl hl.1 (Nat.le_of_ble_eq_true rfl) ⟨Nat.zero_le _, Nat.zero_le _⟩ rfl dX8_value_17 (fun H locs hP hS => ?_)
    exact mw_iret X hr hlocks hP hS (Option.some.inj h) rfl dX8_value_20
  · have h := br_1 h c2
    refine lv_iconst (v := 3) hx hb dX8_value_12 (by decide) ?_
    refine lv_goto (tgt := 17) hx hb dX8_value_13 (by decide) ?_
    obtain ⟨v4, hv4, h⟩ := bO_e h
    refine mw_callVi X (c_X8_ofPage l E hA hv4) pk_X8_ofPage pv_X8_ofPage wm_253 ⟨Nat.le_of_ble_eq_true rfl, Nat.le_of_ble_eq_true rfl⟩ ⟨rfl, rfl⟩ hP hS ix_28 rfl rfl rfl rfl hl.1 (Nat.le_of_ble_eq_true rfl) ⟨Nat.zero_le _, Nat.zero_le _⟩ rfl dX8_value_17 (fun H locs hP hS => ?_)
    exact mw_iret X hr hlocks hP hS (Option.some.inj h) rfl dX8_value_20
/-! SealedGroupsModel.mark -/
noncomputable def f_X8_mark  (M : Mem) (a1 : Int32) : Option Int32 :=
bO (f_X8_ofPage M a1 (2 : Int32)) (fun v1 =>
(if v1 = (1 : Int32) then
bO (f_X8_ofPage M a1 (4 : Int32)) (fun v4 =>
some v4)
else
bO (f_X8_ofPage M a1 (1 : Int32)) (fun v3 =>
some v3)))
theorem pk_X8_mark : Pk "SealedGroupsModel" yX8_mark cX8_mark 2 (some .int) 1 := ⟨wm_268, wm_5, rfl, by decide +kernel⟩
theorem pv_X8_mark : Cond.instanceMethod yX8_mark ∈ wsL_law ∧ Cond.selects "SealedGroupsModel" yX8_mark yX8_mark ∈ wsL_law := ⟨wm_266, wm_267⟩
set_option maxHeartbeats 4000000 in
set_option maxRecDepth 100000 in
theorem c_X8_mark (l : Launch) (E : En) (hA : AdOK E) {M : Mem} {a1 : Int32} {r0 : Int32}  (h : f_X8_mark M a1 = some r0) : Met l yX8_mark (Wm yX8_mark cX8_mark 2 (some .int)) ({ frames := 1, cells := 0, slots := 0, locals := 22 } : Room) (va_Pc [Value.ref (E.2.2 11 28), Value.int a1] (Wd E M)) (QI E r0 M) 0 0 (AA E) := by
  refine Met.ofW (cc := cX8_mark) (maxL := 2) (ret := (some .int)) (by decide +kernel) rfl ?_
  intro p e s m args below meth c s₁ B hml hv
  obtain ⟨rfl, hP, hK⟩ := hv
  have X : Cx E (AA E) p s m c _ cX8_mark 2 RX8 := ⟨⟨B.exec, B.bytes, hml, findClass_of_methodNamed B.named, fun w hw => atoms_spec (ws := Wm yX8_mark cX8_mark 2 (some .int)) B.pre w (List.mem_cons_of_mem _ hw)⟩, hK, hA, fun _ h => h⟩
  have hx := B.exec
  have hb := B.bytes
  have hr := B.returns
  have hlocks := B.notSynchronized
  clear B hml
  have hS : va_S (AA E) s.heap s.heap [] := va_S.rf
  have hl := lv_entry ([Value.ref (E.2.2 11 28), Value.int a1]) (n := 2) (Nat.le_of_ble_eq_true rfl)
  rw [lg_entry_eq]
  generalize (lg_sl ([Value.ref (E.2.2 11 28), Value.int a1]) ++ List.replicate (2 - (lg_sl ([Value.ref (E.2.2 11 28), Value.int a1])).length) Slot.unset).toArray = ls at hl ⊢
  have hl : lv_has ls 2 [(0, .ref (E.2.2 11 28)), (1, .int a1)] := hl
  unfold f_X8_mark at h
  refine lv_aload_n hx hb dX8_mark_0 rfl (lv_at hl 0 rfl) ?_
  refine lv_iload_n hx hb dX8_mark_1 rfl (lv_at hl 1 rfl) ?_
  refine lv_aload_n hx hb dX8_mark_2 rfl (lv_at hl 0 rfl) ?_
  refine lv_iload_n hx hb dX8_mark_3 rfl (lv_at hl 1 rfl) ?_
  refine lv_iconst (v := 2) hx hb dX8_mark_4 (by decide) ?_
  obtain ⟨v1, hv1, h⟩ := bO_e h
  refine mw_callVi X (c_X8_ofPage l E hA hv1) pk_X8_ofPage pv_X8_ofPage wm_253 ⟨Nat.le_of_ble_eq_true rfl, Nat.le_of_ble_eq_true rfl⟩ ⟨rfl, rfl⟩ hP hS ix_28 rfl rfl rfl rfl hl.1 (Nat.le_of_ble_eq_true rfl) ⟨Nat.zero_le _, Nat.zero_le _⟩ rfl dX8_mark_5 (fun H locs hP hS => ?_)
  refine lv_iconst (v := 1) hx hb dX8_mark_8 (by decide) ?_
  refine lv_icmp_ne (tgt := 16) hx hb dX8_mark_9 (by decide) (fun c2 => ?_) (fun c2 => ?_)
  · have h := br_0 h c2
    refine lv_iconst (v := 1) hx hb dX8_mark_16 (by decide) ?_
    obtain ⟨v3, hv3, h⟩ := bO_e h
    refine mw_callVi X (c_X8_ofPage l E hA hv3) pk_X8_ofPage pv_X8_ofPage wm_253 ⟨Nat.le_of_ble_eq_true rfl, Nat.le_of_ble_eq_true rfl⟩ ⟨rfl, rfl⟩ hP hS ix_28 rfl rfl rfl rfl hl.1 (Nat.le_of_ble_eq_true rfl) ⟨Nat.zero_le _, Nat.zero_le _⟩ rfl dX8_mark_17 (fun H locs hP hS => ?_)
    exact mw_iret X hr hlocks hP hS (Option.some.inj h) rfl dX8_mark_20
  · have h := br_1 h c2
    refine lv_iconst (v := 4) hx hb dX8_mark_12 (by decide) ?_
    refine lv_goto (tgt := 17) hx hb dX8_mark_13 (by decide) ?_
    obtain ⟨v4, hv4, h⟩ := bO_e h
    refine mw_callVi X (c_X8_ofPage l E hA hv4) pk_X8_ofPage pv_X8_ofPage wm_253 ⟨Nat.le_of_ble_eq_true rfl, Nat.le_of_ble_eq_true rfl⟩ ⟨rfl, rfl⟩ hP hS ix_28 rfl rfl rfl rfl hl.1 (Nat.le_of_ble_eq_true rfl) ⟨Nat.zero_le _, Nat.zero_le _⟩ rfl dX8_mark_17 (fun H locs hP hS => ?_)
    exact mw_iret X hr hlocks hP hS (Option.some.inj h) rfl dX8_mark_20
/-! SealedGroupsModel.isDirty -/
noncomputable def f_X8_isDirty  (M : Mem) (a1 : Int32) : Option Int32 :=
bO (f_X8_mark M a1) (fun v1 =>
bO (f_X8_ofPage M a1 (1 : Int32)) (fun v2 =>
(if v1 = v2 then
some (0 : Int32)
else
some (1 : Int32))))
theorem pk_X8_isDirty : Pk "SealedGroupsModel" yX8_isDirty cX8_isDirty 2 (some .boolean) 1 := ⟨wm_264, wm_5, rfl, by decide +kernel⟩
theorem pv_X8_isDirty : Cond.instanceMethod yX8_isDirty ∈ wsL_law ∧ Cond.selects "SealedGroupsModel" yX8_isDirty yX8_isDirty ∈ wsL_law := ⟨wm_262, wm_263⟩
set_option maxHeartbeats 4000000 in
set_option maxRecDepth 100000 in
theorem c_X8_isDirty (l : Launch) (E : En) (hA : AdOK E) {M : Mem} {a1 : Int32} {r0 : Int32}  (h : f_X8_isDirty M a1 = some r0) : Met l yX8_isDirty (Wm yX8_isDirty cX8_isDirty 2 (some .boolean)) ({ frames := 2, cells := 0, slots := 0, locals := 43 } : Room) (va_Pc [Value.ref (E.2.2 11 28), Value.int a1] (Wd E M)) (QI E r0 M) 0 0 (AA E) := by
  refine Met.ofW (cc := cX8_isDirty) (maxL := 2) (ret := (some .boolean)) (by decide +kernel) rfl ?_
  intro p e s m args below meth c s₁ B hml hv
  obtain ⟨rfl, hP, hK⟩ := hv
  have X : Cx E (AA E) p s m c _ cX8_isDirty 2 RX8 := ⟨⟨B.exec, B.bytes, hml, findClass_of_methodNamed B.named, fun w hw => atoms_spec (ws := Wm yX8_isDirty cX8_isDirty 2 (some .boolean)) B.pre w (List.mem_cons_of_mem _ hw)⟩, hK, hA, fun _ h => h⟩
  have hx := B.exec
  have hb := B.bytes
  have hr := B.returns
  have hlocks := B.notSynchronized
  clear B hml
  have hS : va_S (AA E) s.heap s.heap [] := va_S.rf
  have hl := lv_entry ([Value.ref (E.2.2 11 28), Value.int a1]) (n := 2) (Nat.le_of_ble_eq_true rfl)
  rw [lg_entry_eq]
  generalize (lg_sl ([Value.ref (E.2.2 11 28), Value.int a1]) ++ List.replicate (2 - (lg_sl ([Value.ref (E.2.2 11 28), Value.int a1])).length) Slot.unset).toArray = ls at hl ⊢
  have hl : lv_has ls 2 [(0, .ref (E.2.2 11 28)), (1, .int a1)] := hl
  unfold f_X8_isDirty at h
  refine lv_aload_n hx hb dX8_isDirty_0 rfl (lv_at hl 0 rfl) ?_
  refine lv_iload_n hx hb dX8_isDirty_1 rfl (lv_at hl 1 rfl) ?_
  obtain ⟨v1, hv1, h⟩ := bO_e h
  refine mw_callVi X (c_X8_mark l E hA hv1) pk_X8_mark pv_X8_mark wm_265 ⟨Nat.le_of_ble_eq_true rfl, Nat.le_of_ble_eq_true rfl⟩ ⟨rfl, rfl⟩ hP hS ix_28 rfl rfl rfl rfl hl.1 (Nat.le_of_ble_eq_true rfl) ⟨Nat.zero_le _, Nat.zero_le _⟩ rfl dX8_isDirty_2 (fun H locs hP hS => ?_)
  refine lv_aload_n hx hb dX8_isDirty_5 rfl (lv_at hl 0 rfl) ?_
  refine lv_iload_n hx hb dX8_isDirty_6 rfl (lv_at hl 1 rfl) ?_
  refine lv_iconst (v := 1) hx hb dX8_isDirty_7 (by decide) ?_
  obtain ⟨v2, hv2, h⟩ := bO_e h
  refine mw_callVi X (c_X8_ofPage l E hA hv2) pk_X8_ofPage pv_X8_ofPage wm_253 ⟨Nat.le_of_ble_eq_true rfl, Nat.le_of_ble_eq_true rfl⟩ ⟨rfl, rfl⟩ hP hS ix_28 rfl rfl rfl rfl hl.1 (Nat.le_of_ble_eq_true rfl) ⟨Nat.zero_le _, Nat.zero_le _⟩ rfl dX8_isDirty_8 (fun H locs hP hS => ?_)
  refine lv_icmp_eq (tgt := 18) hx hb dX8_isDirty_11 (by decide) (fun c3 => ?_) (fun c3 => ?_)
  · have h := br_1 h c3
    refine lv_iconst (v := 0) hx hb dX8_isDirty_18 (by decide) ?_
    exact mw_zret X hr hlocks hP hS (by decide) (Option.some.inj h) rfl dX8_isDirty_19
  · have h := br_0 h c3
    refine lv_iconst (v := 1) hx hb dX8_isDirty_14 (by decide) ?_
    refine lv_goto (tgt := 19) hx hb dX8_isDirty_15 (by decide) ?_
    exact mw_zret X hr hlocks hP hS (by decide) (Option.some.inj h) rfl dX8_isDirty_19
/-! SealedGroupsModel.last -/
noncomputable def f_X8_last  (M : Mem) : Option Int32 :=
some (((M 11 29 0) + (M 11 29 1)) - (1 : Int32))
theorem pk_X8_last : Pk "SealedGroupsModel" yX8_last cX8_last 1 (some .int) 0 := ⟨wm_211, wm_5, rfl, by decide +kernel⟩
theorem pv_X8_last : Cond.instanceMethod yX8_last ∈ wsL_law ∧ Cond.selects "SealedGroupsModel" yX8_last yX8_last ∈ wsL_law := ⟨wm_209, wm_210⟩
set_option maxHeartbeats 4000000 in
set_option maxRecDepth 100000 in
theorem c_X8_last (l : Launch) (E : En) (hA : AdOK E) {M : Mem} {r0 : Int32}  (h : f_X8_last M = some r0) : Met l yX8_last (Wm yX8_last cX8_last 1 (some .int)) ({ frames := 0, cells := 0, slots := 0, locals := 0 } : Room) (va_Pc [Value.ref (E.2.2 11 28)] (Wd E M)) (QI E r0 M) 0 0 (AA E) := by
  refine Met.ofW (cc := cX8_last) (maxL := 1) (ret := (some .int)) (by decide +kernel) rfl ?_
  intro p e s m args below meth c s₁ B hml hv
  obtain ⟨rfl, hP, hK⟩ := hv
  have X : Cx E (AA E) p s m c _ cX8_last 1 RX8 := ⟨⟨B.exec, B.bytes, hml, findClass_of_methodNamed B.named, fun w hw => atoms_spec (ws := Wm yX8_last cX8_last 1 (some .int)) B.pre w (List.mem_cons_of_mem _ hw)⟩, hK, hA, fun _ h => h⟩
  have hx := B.exec
  have hb := B.bytes
  have hr := B.returns
  have hlocks := B.notSynchronized
  clear B hml
  have hS : va_S (AA E) s.heap s.heap [] := va_S.rf
  have hl := lv_entry ([Value.ref (E.2.2 11 28)]) (n := 1) (Nat.le_of_ble_eq_true rfl)
  rw [lg_entry_eq]
  generalize (lg_sl ([Value.ref (E.2.2 11 28)]) ++ List.replicate (1 - (lg_sl ([Value.ref (E.2.2 11 28)])).length) Slot.unset).toArray = ls at hl ⊢
  have hl : lv_has ls 1 [(0, .ref (E.2.2 11 28))] := hl
  unfold f_X8_last at h
  refine lv_aload_n hx hb dX8_last_0 rfl (lv_at hl 0 rfl) ?_
  refine gt_8_0 X wm_90 hP ix_28 dX8_last_1 ?_
  refine lv_iconst (v := 0) hx hb dX8_last_4 (by decide) ?_
  refine mw_ld X hP ix_29 rfl (v := (M 11 29 0)) (inb_vp (by decide)) rfl dX8_last_5 ?_
  refine lv_aload_n hx hb dX8_last_6 rfl (lv_at hl 0 rfl) ?_
  refine gt_8_0 X wm_90 hP ix_28 dX8_last_7 ?_
  refine lv_iconst (v := 1) hx hb dX8_last_10 (by decide) ?_
  refine mw_ld X hP ix_29 rfl (v := (M 11 29 1)) (inb_vp (by decide)) rfl dX8_last_11 ?_
  refine lv_iadd hx hb dX8_last_12 ?_
  refine lv_iconst (v := 1) hx hb dX8_last_13 (by decide) ?_
  refine lv_isub hx hb dX8_last_14 ?_
  exact mw_iret X hr hlocks hP hS (Option.some.inj h) rfl dX8_last_15
/-! SealedGroupsModel.isRecord -/
noncomputable def f_X8_isRecord  (M : Mem) (a1 : Int32) : Option Int32 :=
(if a1 < (M 11 29 0) then
some (0 : Int32)
else
bO (f_X8_last M) (fun v2 =>
(if v2 < a1 then
some (0 : Int32)
else
some (1 : Int32))))
theorem pk_X8_isRecord : Pk "SealedGroupsModel" yX8_isRecord cX8_isRecord 2 (some .boolean) 1 := ⟨wm_632, wm_5, rfl, by decide +kernel⟩
theorem pv_X8_isRecord : Cond.instanceMethod yX8_isRecord ∈ wsL_law ∧ Cond.selects "SealedGroupsModel" yX8_isRecord yX8_isRecord ∈ wsL_law := ⟨wm_630, wm_631⟩
set_option maxHeartbeats 4000000 in
set_option maxRecDepth 100000 in
theorem c_X8_isRecord (l : Launch) (E : En) (hA : AdOK E) {M : Mem} {a1 : Int32} {r0 : Int32}  (h : f_X8_isRecord M a1 = some r0) : Met l yX8_isRecord (Wm yX8_isRecord cX8_isRecord 2 (some .boolean)) ({ frames := 1, cells := 0, slots := 0, locals := 20 } : Room) (va_Pc [Value.ref (E.2.2 11 28), Value.int a1] (Wd E M)) (QI E r0 M) 0 0 (AA E) := by
  refine Met.ofW (cc := cX8_isRecord) (maxL := 2) (ret := (some .boolean)) (by decide +kernel) rfl ?_
  intro p e s m args below meth c s₁ B hml hv
  obtain ⟨rfl, hP, hK⟩ := hv
  have X : Cx E (AA E) p s m c _ cX8_isRecord 2 RX8 := ⟨⟨B.exec, B.bytes, hml, findClass_of_methodNamed B.named, fun w hw => atoms_spec (ws := Wm yX8_isRecord cX8_isRecord 2 (some .boolean)) B.pre w (List.mem_cons_of_mem _ hw)⟩, hK, hA, fun _ h => h⟩
  have hx := B.exec
  have hb := B.bytes
  have hr := B.returns
  have hlocks := B.notSynchronized
  clear B hml
  have hS : va_S (AA E) s.heap s.heap [] := va_S.rf
  have hl := lv_entry ([Value.ref (E.2.2 11 28), Value.int a1]) (n := 2) (Nat.le_of_ble_eq_true rfl)
  rw [lg_entry_eq]
  generalize (lg_sl ([Value.ref (E.2.2 11 28), Value.int a1]) ++ List.replicate (2 - (lg_sl ([Value.ref (E.2.2 11 28), Value.int a1])).length) Slot.unset).toArray = ls at hl ⊢
  have hl : lv_has ls 2 [(0, .ref (E.2.2 11 28)), (1, .int a1)] := hl
  unfold f_X8_isRecord at h
  refine lv_iload_n hx hb dX8_isRecord_0 rfl (lv_at hl 1 rfl) ?_
  refine lv_aload_n hx hb dX8_isRecord_1 rfl (lv_at hl 0 rfl) ?_
  refine gt_8_0 X wm_90 hP ix_28 dX8_isRecord_2 ?_
  refine lv_iconst (v := 0) hx hb dX8_isRecord_5 (by decide) ?_
  refine mw_ld X hP ix_29 rfl (v := (M 11 29 0)) (inb_vp (by decide)) rfl dX8_isRecord_6 ?_
  refine lv_icmp_lt (tgt := 22) hx hb dX8_isRecord_7 (by decide) (fun c1 => ?_) (fun c1 => ?_)
  · have h := br_1 h c1
    refine lv_iconst (v := 0) hx hb dX8_isRecord_22 (by decide) ?_
    exact mw_zret X hr hlocks hP hS (by decide) (Option.some.inj h) rfl dX8_isRecord_23
  · have h := br_0 h c1
    refine lv_iload_n hx hb dX8_isRecord_10 rfl (lv_at hl 1 rfl) ?_
    refine lv_aload_n hx hb dX8_isRecord_11 rfl (lv_at hl 0 rfl) ?_
    obtain ⟨v2, hv2, h⟩ := bO_e h
    refine mw_callVi X (c_X8_last l E hA hv2) pk_X8_last pv_X8_last wm_208 ⟨Nat.le_of_ble_eq_true rfl, Nat.le_of_ble_eq_true rfl⟩ ⟨rfl, rfl⟩ hP hS ix_28 rfl rfl rfl rfl hl.1 (Nat.le_of_ble_eq_true rfl) ⟨Nat.zero_le _, Nat.zero_le _⟩ rfl dX8_isRecord_12 (fun H locs hP hS => ?_)
    refine lv_icmp_gt (tgt := 22) hx hb dX8_isRecord_15 (by decide) (fun c3 => ?_) (fun c3 => ?_)
    · have h := br_1 h c3
      refine lv_iconst (v := 0) hx hb dX8_isRecord_22 (by decide) ?_
      exact mw_zret X hr hlocks hP hS (by decide) (Option.some.inj h) rfl dX8_isRecord_23
    · have h := br_0 h c3
      refine lv_iconst (v := 1) hx hb dX8_isRecord_18 (by decide) ?_
      refine lv_goto (tgt := 23) hx hb dX8_isRecord_19 (by decide) ?_
      exact mw_zret X hr hlocks hP hS (by decide) (Option.some.inj h) rfl dX8_isRecord_23
/-! SealedGroupsModel.of -/
noncomputable def f_X8_of  (M : Mem) (a1 a2 : Int32) : Option Int32 :=
gd (inb (((69 : Int32) + ((16 : Int32) * (a1 - (M 11 29 0)))) + a2) 2117) (
some (M 11 29 ((((69 : Int32) + ((16 : Int32) * (a1 - (M 11 29 0)))) + a2)).toNatClampNeg))
theorem pk_X8_of : Pk "SealedGroupsModel" yX8_of cX8_of 3 (some .int) 2 := ⟨wm_366, wm_5, rfl, by decide +kernel⟩
theorem pv_X8_of : Cond.instanceMethod yX8_of ∈ wsL_law ∧ Cond.selects "SealedGroupsModel" yX8_of yX8_of ∈ wsL_law := ⟨wm_364, wm_365⟩
set_option maxHeartbeats 4000000 in
set_option maxRecDepth 100000 in
theorem c_X8_of (l : Launch) (E : En) (hA : AdOK E) {M : Mem} {a1 a2 : Int32} {r0 : Int32}  (h : f_X8_of M a1 a2 = some r0) : Met l yX8_of (Wm yX8_of cX8_of 3 (some .int)) ({ frames := 0, cells := 0, slots := 0, locals := 0 } : Room) (va_Pc [Value.ref (E.2.2 11 28), Value.int a1, Value.int a2] (Wd E M)) (QI E r0 M) 0 0 (AA E) := by
  refine Met.ofW (cc := cX8_of) (maxL := 3) (ret := (some .int)) (by decide +kernel) rfl ?_
  intro p e s m args below meth c s₁ B hml hv
  obtain ⟨rfl, hP, hK⟩ := hv
  have X : Cx E (AA E) p s m c _ cX8_of 3 RX8 := ⟨⟨B.exec, B.bytes, hml, findClass_of_methodNamed B.named, fun w hw => atoms_spec (ws := Wm yX8_of cX8_of 3 (some .int)) B.pre w (List.mem_cons_of_mem _ hw)⟩, hK, hA, fun _ h => h⟩
  have hx := B.exec
  have hb := B.bytes
  have hr := B.returns
  have hlocks := B.notSynchronized
  clear B hml
  have hS : va_S (AA E) s.heap s.heap [] := va_S.rf
  have hl := lv_entry ([Value.ref (E.2.2 11 28), Value.int a1, Value.int a2]) (n := 3) (Nat.le_of_ble_eq_true rfl)
  rw [lg_entry_eq]
  generalize (lg_sl ([Value.ref (E.2.2 11 28), Value.int a1, Value.int a2]) ++ List.replicate (3 - (lg_sl ([Value.ref (E.2.2 11 28), Value.int a1, Value.int a2])).length) Slot.unset).toArray = ls at hl ⊢
  have hl : lv_has ls 3 [(0, .ref (E.2.2 11 28)), (1, .int a1), (2, .int a2)] := hl
  unfold f_X8_of at h
  refine lv_aload_n hx hb dX8_of_0 rfl (lv_at hl 0 rfl) ?_
  refine gt_8_0 X wm_90 hP ix_28 dX8_of_1 ?_
  refine lv_bipush (v := 69) hx hb dX8_of_4 (by decide) ?_
  refine lv_bipush (v := 16) hx hb dX8_of_6 (by decide) ?_
  refine lv_iload_n hx hb dX8_of_8 rfl (lv_at hl 1 rfl) ?_
  refine lv_aload_n hx hb dX8_of_9 rfl (lv_at hl 0 rfl) ?_
  refine gt_8_0 X wm_90 hP ix_28 dX8_of_10 ?_
  refine lv_iconst (v := 0) hx hb dX8_of_13 (by decide) ?_
  refine mw_ld X hP ix_29 rfl (v := (M 11 29 0)) (inb_vp (by decide)) rfl dX8_of_14 ?_
  refine lv_isub hx hb dX8_of_15 ?_
  refine lv_imul hx hb dX8_of_16 ?_
  refine lv_iadd hx hb dX8_of_17 ?_
  refine lv_iload_n hx hb dX8_of_18 rfl (lv_at hl 2 rfl) ?_
  refine lv_iadd hx hb dX8_of_19 ?_
  obtain ⟨g1, h⟩ := gd_e h
  refine mw_ld X hP ix_29 rfl (inb_vp g1) rfl dX8_of_20 ?_
  exact mw_iret X hr hlocks hP hS (Option.some.inj h) rfl dX8_of_21
/-! SealedGroupsModel.adds -/
noncomputable def f_X8_adds_L17  (K17 : Mem → Int32 → Int32 → Int32 → Int32 → Int32 → Int32 → Int32 → Int32 → Option (Int32 × Mem)) (M : Mem) (y1 y2 y3 y4 y5 y6 y7 y8 : Int32) : Option (Int32 × Mem) :=
(if (16 : Int32) ≤ y8 then
gd (inb (y7 + (0 : Int32)) 2117) (
bd (st M 11 29 ((y7 + (0 : Int32))).toNatClampNeg y1) (fun M3 =>
gd (inb (y7 + (1 : Int32)) 2117) (
bd (st M3 11 29 ((y7 + (1 : Int32))).toNatClampNeg y2) (fun M5 =>
gd (inb (y7 + (2 : Int32)) 2117) (
bd (st M5 11 29 ((y7 + (2 : Int32))).toNatClampNeg y3) (fun M7 =>
gd (inb (y7 + (3 : Int32)) 2117) (
bd (st M7 11 29 ((y7 + (3 : Int32))).toNatClampNeg y4) (fun M9 =>
gd (inb (y7 + (4 : Int32)) 2117) (
bd (st M9 11 29 ((y7 + (4 : Int32))).toNatClampNeg y5) (fun M11 =>
gd (inb (y7 + (5 : Int32)) 2117) (
bd (st M11 11 29 ((y7 + (5 : Int32))).toNatClampNeg y6) (fun M13 =>
bd (st M13 11 29 1 ((M13 11 29 1) + (1 : Int32))) (fun M15 =>
bO (f_X8_last M15) (fun v16 =>
some (v16, M15)))))))))))))))
else
gd (inb (y7 + y8) 2117) (
bd (st M 11 29 ((y7 + y8)).toNatClampNeg (0 : Int32)) (fun M17 =>
bd (y8 + (1 : Int32)) (fun x19 =>
K17 M17 y1 y2 y3 y4 y5 y6 y7 x19))))
noncomputable def f_X8_adds  (M : Mem) (a1 a2 a3 a4 a5 a6 : Int32) : Option (Int32 × Mem) :=
bd (((69 : Int32) + ((16 : Int32) * (M 11 29 1)))) (fun x1 =>
itr (f_X8_adds_L17 ) (fun _ _ _ _ _ _ _ _ _ => none) FU M a1 a2 a3 a4 a5 a6 x1 (0 : Int32))
theorem pk_X8_adds : Pk "SealedGroupsModel" yX8_adds cX8_adds 9 (some .int) 6 := ⟨wm_207, wm_5, rfl, by decide +kernel⟩
theorem pv_X8_adds : Cond.instanceMethod yX8_adds ∈ wsL_law ∧ Cond.selects "SealedGroupsModel" yX8_adds yX8_adds ∈ wsL_law := ⟨wm_205, wm_206⟩
set_option maxHeartbeats 4000000 in
set_option maxRecDepth 100000 in
theorem c_X8_adds (l : Launch) (E : En) (hA : AdOK E) {M : Mem} {a1 a2 a3 a4 a5 a6 : Int32} {r0 : Int32} {M0 : Mem}  (h : f_X8_adds M a1 a2 a3 a4 a5 a6 = some (r0, M0)) : Met l yX8_adds (Wm yX8_adds cX8_adds 9 (some .int)) ({ frames := 1, cells := 0, slots := 0, locals := 20 } : Room) (va_Pc [Value.ref (E.2.2 11 28), Value.int a1, Value.int a2, Value.int a3, Value.int a4, Value.int a5, Value.int a6] (Wd E M)) (QI E r0 M0) 0 0 (AA E) := by
  refine Met.ofW (cc := cX8_adds) (maxL := 9) (ret := (some .int)) (by decide +kernel) rfl ?_
  intro p e s m args below meth c s₁ B hml hv
  obtain ⟨rfl, hP, hK⟩ := hv
  have X : Cx E (AA E) p s m c _ cX8_adds 9 RX8 := ⟨⟨B.exec, B.bytes, hml, findClass_of_methodNamed B.named, fun w hw => atoms_spec (ws := Wm yX8_adds cX8_adds 9 (some .int)) B.pre w (List.mem_cons_of_mem _ hw)⟩, hK, hA, fun _ h => h⟩
  have hx := B.exec
  have hb := B.bytes
  have hr := B.returns
  have hlocks := B.notSynchronized
  clear B hml
  have hS : va_S (AA E) s.heap s.heap [] := va_S.rf
  have hl := lv_entry ([Value.ref (E.2.2 11 28), Value.int a1, Value.int a2, Value.int a3, Value.int a4, Value.int a5, Value.int a6]) (n := 9) (Nat.le_of_ble_eq_true rfl)
  rw [lg_entry_eq]
  generalize (lg_sl ([Value.ref (E.2.2 11 28), Value.int a1, Value.int a2, Value.int a3, Value.int a4, Value.int a5, Value.int a6]) ++ List.replicate (9 - (lg_sl ([Value.ref (E.2.2 11 28), Value.int a1, Value.int a2, Value.int a3, Value.int a4, Value.int a5, Value.int a6])).length) Slot.unset).toArray = ls at hl ⊢
  have hl : lv_has ls 9 [(0, .ref (E.2.2 11 28)), (1, .int a1), (2, .int a2), (3, .int a3), (4, .int a4), (5, .int a5), (6, .int a6)] := hl
  have w_L17 : ∀ (n17 : Nat) (M : Mem) (y1 y2 y3 y4 y5 y6 y7 y8 : Int32) (H : Heap) (locs : List Loc) (ls : Array Slot), itr (f_X8_adds_L17 ) (fun _ _ _ _ _ _ _ _ _ => none) n17 M y1 y2 y3 y4 y5 y6 y7 y8 = some (r0, M0) → va_P E.1 vwCl (wl E M) H → va_S (AA E) s.heap H locs → lv_has ls 9 [(0, .ref (E.2.2 11 28)), (1, .int y1), (2, .int y2), (3, .int y3), (4, .int y4), (5, .int y5), (6, .int y6), (7, .int y7), (8, .int y8)] → W p l e (headSpec (Wm yX8_adds cX8_adds 9 (some .int)) ({ frames := 1, cells := 0, slots := 0, locals := 20 } : Room)).room s m ([Value.ref (E.2.2 11 28), Value.int a1, Value.int a2, Value.int a3, Value.int a4, Value.int a5, Value.int a6] : List Value).toArray below meth c H locs 0 0 (MQ below (QI E r0 M0) ([Value.ref (E.2.2 11 28), Value.int a1, Value.int a2, Value.int a3, Value.int a4, Value.int a5, Value.int a6] : List Value).toArray s 0 0 (AA E)) (F0 m 17 ls []) := by
    intro n17
    induction n17 with
    | zero => intro M y1 y2 y3 y4 y5 y6 y7 y8 H locs ls h; exact (nomatch (show (none : Option (Int32 × Mem)) = some _ from h))
    | succ n17 ih17 =>
      intro M y1 y2 y3 y4 y5 y6 y7 y8 H locs ls h hP hS hl
      have h : f_X8_adds_L17 (itr (f_X8_adds_L17 ) (fun _ _ _ _ _ _ _ _ _ => none) n17) M y1 y2 y3 y4 y5 y6 y7 y8 = some (r0, M0) := h
      unfold f_X8_adds_L17 at h
      refine lv_iload hx hb dX8_adds_17 (lv_at hl 8 rfl) ?_
      refine lv_bipush (v := 16) hx hb dX8_adds_19 (by decide) ?_
      refine lv_icmp_ge (tgt := 41) hx hb dX8_adds_21 (by decide) (fun c2 => ?_) (fun c2 => ?_)
      · have h := br_1 h c2
        refine lv_aload_n hx hb dX8_adds_41 rfl (lv_at hl 0 rfl) ?_
        refine gt_8_0 X wm_90 hP ix_28 dX8_adds_42 ?_
        refine lv_iload hx hb dX8_adds_45 (lv_at hl 7 rfl) ?_
        refine lv_iconst (v := 0) hx hb dX8_adds_47 (by decide) ?_
        refine lv_iadd hx hb dX8_adds_48 ?_
        refine lv_iload_n hx hb dX8_adds_49 rfl (lv_at hl 1 rfl) ?_
        obtain ⟨g4, h⟩ := gd_e h
        refine mw_st X hP hS ix_29 (fun _ => rfl) (inb_vp g4) rfl dX8_adds_50 (fun H locs M3 eM3 hP hS => ?_)
        have h := bd_e h eM3
        refine lv_aload_n hx hb dX8_adds_51 rfl (lv_at hl 0 rfl) ?_
        refine gt_8_0 X wm_90 hP ix_28 dX8_adds_52 ?_
        refine lv_iload hx hb dX8_adds_55 (lv_at hl 7 rfl) ?_
        refine lv_iconst (v := 1) hx hb dX8_adds_57 (by decide) ?_
        refine lv_iadd hx hb dX8_adds_58 ?_
        refine lv_iload_n hx hb dX8_adds_59 rfl (lv_at hl 2 rfl) ?_
        obtain ⟨g6, h⟩ := gd_e h
        refine mw_st X hP hS ix_29 (fun _ => rfl) (inb_vp g6) rfl dX8_adds_60 (fun H locs M5 eM5 hP hS => ?_)
        have h := bd_e h eM5
        refine lv_aload_n hx hb dX8_adds_61 rfl (lv_at hl 0 rfl) ?_
        refine gt_8_0 X wm_90 hP ix_28 dX8_adds_62 ?_
        refine lv_iload hx hb dX8_adds_65 (lv_at hl 7 rfl) ?_
        refine lv_iconst (v := 2) hx hb dX8_adds_67 (by decide) ?_
        refine lv_iadd hx hb dX8_adds_68 ?_
        refine lv_iload_n hx hb dX8_adds_69 rfl (lv_at hl 3 rfl) ?_
        obtain ⟨g8, h⟩ := gd_e h
        refine mw_st X hP hS ix_29 (fun _ => rfl) (inb_vp g8) rfl dX8_adds_70 (fun H locs M7 eM7 hP hS => ?_)
        have h := bd_e h eM7
        refine lv_aload_n hx hb dX8_adds_71 rfl (lv_at hl 0 rfl) ?_
        refine gt_8_0 X wm_90 hP ix_28 dX8_adds_72 ?_
        refine lv_iload hx hb dX8_adds_75 (lv_at hl 7 rfl) ?_
        refine lv_iconst (v := 3) hx hb dX8_adds_77 (by decide) ?_
        refine lv_iadd hx hb dX8_adds_78 ?_
        refine lv_iload hx hb dX8_adds_79 (lv_at hl 4 rfl) ?_
        obtain ⟨g10, h⟩ := gd_e h
        refine mw_st X hP hS ix_29 (fun _ => rfl) (inb_vp g10) rfl dX8_adds_81 (fun H locs M9 eM9 hP hS => ?_)
        have h := bd_e h eM9
        refine lv_aload_n hx hb dX8_adds_82 rfl (lv_at hl 0 rfl) ?_
        refine gt_8_0 X wm_90 hP ix_28 dX8_adds_83 ?_
        refine lv_iload hx hb dX8_adds_86 (lv_at hl 7 rfl) ?_
        refine lv_iconst (v := 4) hx hb dX8_adds_88 (by decide) ?_
        refine lv_iadd hx hb dX8_adds_89 ?_
        refine lv_iload hx hb dX8_adds_90 (lv_at hl 5 rfl) ?_
        obtain ⟨g12, h⟩ := gd_e h
        refine mw_st X hP hS ix_29 (fun _ => rfl) (inb_vp g12) rfl dX8_adds_92 (fun H locs M11 eM11 hP hS => ?_)
        have h := bd_e h eM11
        refine lv_aload_n hx hb dX8_adds_93 rfl (lv_at hl 0 rfl) ?_
        refine gt_8_0 X wm_90 hP ix_28 dX8_adds_94 ?_
        refine lv_iload hx hb dX8_adds_97 (lv_at hl 7 rfl) ?_
        refine lv_iconst (v := 5) hx hb dX8_adds_99 (by decide) ?_
        refine lv_iadd hx hb dX8_adds_100 ?_
        refine lv_iload hx hb dX8_adds_101 (lv_at hl 6 rfl) ?_
        obtain ⟨g14, h⟩ := gd_e h
        refine mw_st X hP hS ix_29 (fun _ => rfl) (inb_vp g14) rfl dX8_adds_103 (fun H locs M13 eM13 hP hS => ?_)
        have h := bd_e h eM13
        refine lv_aload_n hx hb dX8_adds_104 rfl (lv_at hl 0 rfl) ?_
        refine gt_8_0 X wm_90 hP ix_28 dX8_adds_105 ?_
        refine lv_iconst (v := 1) hx hb dX8_adds_108 (by decide) ?_
        refine lv_dup2_11 hx hb dX8_adds_109 rfl rfl ?_
        refine mw_ld X hP ix_29 rfl (v := (M13 11 29 1)) (inb_vp (by decide)) rfl dX8_adds_110 ?_
        refine lv_iconst (v := 1) hx hb dX8_adds_111 (by decide) ?_
        refine lv_iadd hx hb dX8_adds_112 ?_
        refine mw_st X hP hS ix_29 (fun _ => rfl) (j := 1) (inb_vp (by decide)) rfl dX8_adds_113 (fun H locs M15 eM15 hP hS => ?_)
        have h := bd_e h eM15
        refine lv_aload_n hx hb dX8_adds_114 rfl (lv_at hl 0 rfl) ?_
        obtain ⟨v16, hv16, h⟩ := bO_e h
        refine mw_callVi X (c_X8_last l E hA hv16) pk_X8_last pv_X8_last wm_208 ⟨Nat.le_of_ble_eq_true rfl, Nat.le_of_ble_eq_true rfl⟩ ⟨rfl, rfl⟩ hP hS ix_28 rfl rfl rfl rfl hl.1 (Nat.le_of_ble_eq_true rfl) ⟨Nat.zero_le _, Nat.zero_le _⟩ rfl dX8_adds_115 (fun H locs hP hS => ?_)
        have h := Option.some.inj h
        exact mw_iret X hr hlocks hP hS (congrArg Prod.fst h) (congrArg Prod.snd h) dX8_adds_118
      · have h := br_0 h c2
        refine lv_aload_n hx hb dX8_adds_24 rfl (lv_at hl 0 rfl) ?_
        refine gt_8_0 X wm_90 hP ix_28 dX8_adds_25 ?_
        refine lv_iload hx hb dX8_adds_28 (lv_at hl 7 rfl) ?_
        refine lv_iload hx hb dX8_adds_30 (lv_at hl 8 rfl) ?_
        refine lv_iadd hx hb dX8_adds_32 ?_
        refine lv_iconst (v := 0) hx hb dX8_adds_33 (by decide) ?_
        obtain ⟨g18, h⟩ := gd_e h
        refine mw_st X hP hS ix_29 (fun _ => rfl) (inb_vp g18) rfl dX8_adds_34 (fun H locs M17 eM17 hP hS => ?_)
        have h := bd_e h eM17
        obtain ⟨x19, ex19⟩ : ∃ y : Int32, y = y8 + (1 : Int32) := ⟨_, rfl⟩
        have h := bd_e h ex19
        refine lv_iinc (v := x19) (lv' := [(8, .int x19), (0, .ref (E.2.2 11 28)), (1, .int y1), (2, .int y2), (3, .int y3), (4, .int y4), (5, .int y5), (6, .int y6), (7, .int y7)]) hx hb dX8_adds_35 hl (k := 8) rfl (by rw [ex19]; rfl) (by decide) rfl (fun ls hl => ?_)
        refine lv_goto (tgt := 17) hx hb dX8_adds_38 (by decide) ?_
        exact ih17 _ _ _ _ _ _ _ _ _ _ _ _ h hP hS (lv_sub hl [1, 2, 3, 4, 5, 6, 7, 8, 0] rfl)
  unfold f_X8_adds at h
  refine lv_bipush (v := 69) hx hb dX8_adds_0 (by decide) ?_
  refine lv_bipush (v := 16) hx hb dX8_adds_2 (by decide) ?_
  refine lv_aload_n hx hb dX8_adds_4 rfl (lv_at hl 0 rfl) ?_
  refine gt_8_0 X wm_90 hP ix_28 dX8_adds_5 ?_
  refine lv_iconst (v := 1) hx hb dX8_adds_8 (by decide) ?_
  refine mw_ld X hP ix_29 rfl (v := (M 11 29 1)) (inb_vp (by decide)) rfl dX8_adds_9 ?_
  refine lv_imul hx hb dX8_adds_10 ?_
  refine lv_iadd hx hb dX8_adds_11 ?_
  refine lv_topi (fun x1 ex1 => ?_)
  have h := bd_e h ex1
  refine lv_istore (lv' := [(7, .int x1), (0, .ref (E.2.2 11 28)), (1, .int a1), (2, .int a2), (3, .int a3), (4, .int a4), (5, .int a5), (6, .int a6)]) hx hb dX8_adds_12 hl (by decide) rfl (fun ls hl => ?_)
  refine lv_iconst (v := 0) hx hb dX8_adds_14 (by decide) ?_
  refine lv_istore (lv' := [(8, .int (0 : Int32)), (7, .int x1), (0, .ref (E.2.2 11 28)), (1, .int a1), (2, .int a2), (3, .int a3), (4, .int a4), (5, .int a5), (6, .int a6)]) hx hb dX8_adds_15 hl (by decide) rfl (fun ls hl => ?_)
  exact w_L17 FU _ _ _ _ _ _ _ _ _ _ _ _ h hP hS (lv_sub hl [2, 3, 4, 5, 6, 7, 8, 1, 0] rfl)
/-! SealedGroupsModel.forces -/
noncomputable def f_X8_forces_L22  (M : Mem) (z0 : Int32) : Option (Int32 × Mem) :=
bd (st M 11 29 2 ((M 11 29 2) + z0)) (fun M2 =>
some (z0, M2))
noncomputable def f_X8_forces  (M : Mem) (a1 : Int32) : Option (Int32 × Mem) :=
(if a1 ≤ (M 11 29 2) then
f_X8_forces_L22 M (0 : Int32)
else
f_X8_forces_L22 M (a1 - (M 11 29 2)))
theorem pk_X8_forces : Pk "SealedGroupsModel" yX8_forces cX8_forces 3 (some .int) 1 := ⟨wm_315, wm_5, rfl, by decide +kernel⟩
theorem pv_X8_forces : Cond.instanceMethod yX8_forces ∈ wsL_law ∧ Cond.selects "SealedGroupsModel" yX8_forces yX8_forces ∈ wsL_law := ⟨wm_313, wm_314⟩
set_option maxHeartbeats 4000000 in
set_option maxRecDepth 100000 in
theorem c_X8_forces (l : Launch) (E : En) (hA : AdOK E) {M : Mem} {a1 : Int32} {r0 : Int32} {M0 : Mem}  (h : f_X8_forces M a1 = some (r0, M0)) : Met l yX8_forces (Wm yX8_forces cX8_forces 3 (some .int)) ({ frames := 0, cells := 0, slots := 0, locals := 0 } : Room) (va_Pc [Value.ref (E.2.2 11 28), Value.int a1] (Wd E M)) (QI E r0 M0) 0 0 (AA E) := by
  refine Met.ofW (cc := cX8_forces) (maxL := 3) (ret := (some .int)) (by decide +kernel) rfl ?_
  intro p e s m args below meth c s₁ B hml hv
  obtain ⟨rfl, hP, hK⟩ := hv
  have X : Cx E (AA E) p s m c _ cX8_forces 3 RX8 := ⟨⟨B.exec, B.bytes, hml, findClass_of_methodNamed B.named, fun w hw => atoms_spec (ws := Wm yX8_forces cX8_forces 3 (some .int)) B.pre w (List.mem_cons_of_mem _ hw)⟩, hK, hA, fun _ h => h⟩
  have hx := B.exec
  have hb := B.bytes
  have hr := B.returns
  have hlocks := B.notSynchronized
  clear B hml
  have hS : va_S (AA E) s.heap s.heap [] := va_S.rf
  have hl := lv_entry ([Value.ref (E.2.2 11 28), Value.int a1]) (n := 3) (Nat.le_of_ble_eq_true rfl)
  rw [lg_entry_eq]
  generalize (lg_sl ([Value.ref (E.2.2 11 28), Value.int a1]) ++ List.replicate (3 - (lg_sl ([Value.ref (E.2.2 11 28), Value.int a1])).length) Slot.unset).toArray = ls at hl ⊢
  have hl : lv_has ls 3 [(0, .ref (E.2.2 11 28)), (1, .int a1)] := hl
  have w_L22 : ∀ (M : Mem) (z0 : Int32) (H : Heap) (locs : List Loc) (ls : Array Slot), f_X8_forces_L22  M z0 = some (r0, M0) → va_P E.1 vwCl (wl E M) H → va_S (AA E) s.heap H locs → lv_has ls 3 [(0, .ref (E.2.2 11 28))] → W p l e (headSpec (Wm yX8_forces cX8_forces 3 (some .int)) ({ frames := 0, cells := 0, slots := 0, locals := 0 } : Room)).room s m ([Value.ref (E.2.2 11 28), Value.int a1] : List Value).toArray below meth c H locs 0 0 (MQ below (QI E r0 M0) ([Value.ref (E.2.2 11 28), Value.int a1] : List Value).toArray s 0 0 (AA E)) (F0 m 22 ls [.int z0]) := by
    intro M z0 H locs ls h hP hS hl
    unfold f_X8_forces_L22 at h
    refine lv_istore_n (lv' := [(2, .int z0), (0, .ref (E.2.2 11 28))]) hx hb dX8_forces_22 rfl hl (by decide) rfl (fun ls hl => ?_)
    refine lv_aload_n hx hb dX8_forces_23 rfl (lv_at hl 1 rfl) ?_
    refine gt_8_0 X wm_90 hP ix_28 dX8_forces_24 ?_
    refine lv_iconst (v := 2) hx hb dX8_forces_27 (by decide) ?_
    refine lv_dup2_11 hx hb dX8_forces_28 rfl rfl ?_
    refine mw_ld X hP ix_29 rfl (v := (M 11 29 2)) (inb_vp (by decide)) rfl dX8_forces_29 ?_
    refine lv_iload_n hx hb dX8_forces_30 rfl (lv_at hl 0 rfl) ?_
    refine lv_iadd hx hb dX8_forces_31 ?_
    refine mw_st X hP hS ix_29 (fun _ => rfl) (j := 2) (inb_vp (by decide)) rfl dX8_forces_32 (fun H locs M2 eM2 hP hS => ?_)
    have h := bd_e h eM2
    refine lv_iload_n hx hb dX8_forces_33 rfl (lv_at hl 0 rfl) ?_
    have h := Option.some.inj h
    exact mw_iret X hr hlocks hP hS (congrArg Prod.fst h) (congrArg Prod.snd h) dX8_forces_34
  unfold f_X8_forces at h
  refine lv_iload_n hx hb dX8_forces_0 rfl (lv_at hl 1 rfl) ?_
  refine lv_aload_n hx hb dX8_forces_1 rfl (lv_at hl 0 rfl) ?_
  refine gt_8_0 X wm_90 hP ix_28 dX8_forces_2 ?_
  refine lv_iconst (v := 2) hx hb dX8_forces_5 (by decide) ?_
  refine mw_ld X hP ix_29 rfl (v := (M 11 29 2)) (inb_vp (by decide)) rfl dX8_forces_6 ?_
  refine lv_icmp_le (tgt := 21) hx hb dX8_forces_7 (by decide) (fun c1 => ?_) (fun c1 => ?_)
  · have h := br_1 h c1
    refine lv_iconst (v := 0) hx hb dX8_forces_21 (by decide) ?_
    exact w_L22 _ _ _ _ _ h hP hS (lv_sub hl [0] rfl)
  · have h := br_0 h c1
    refine lv_iload_n hx hb dX8_forces_10 rfl (lv_at hl 1 rfl) ?_
    refine lv_aload_n hx hb dX8_forces_11 rfl (lv_at hl 0 rfl) ?_
    refine gt_8_0 X wm_90 hP ix_28 dX8_forces_12 ?_
    refine lv_iconst (v := 2) hx hb dX8_forces_15 (by decide) ?_
    refine mw_ld X hP ix_29 rfl (v := (M 11 29 2)) (inb_vp (by decide)) rfl dX8_forces_16 ?_
    refine lv_isub hx hb dX8_forces_17 ?_
    refine lv_goto (tgt := 22) hx hb dX8_forces_18 (by decide) ?_
    exact w_L22 _ _ _ _ _ h hP hS (lv_sub hl [0] rfl)
/-! SealedGroupsModel.comes -/
noncomputable def f_X8_comes_L21  (M : Mem) (y1 y2 y3 z0 z1 z2 : Int32) : Option Mem :=
bO (f_X8_putsPage M z2 z1 z0) (fun M4 =>
bO (f_X8_putsPage M4 y1 (2 : Int32) (1 : Int32)) (fun M6 =>
bO (f_X8_putsPage M6 y1 (3 : Int32) y2) (fun M8 =>
bO (f_X8_putsPage M8 y1 (4 : Int32) y3) (fun M10 =>
some M10))))
noncomputable def f_X8_comes  (M : Mem) (a1 a2 a3 : Int32) : Option Mem :=
bO (f_X8_isDirty M a1) (fun v1 =>
(if v1 = 0 then
f_X8_comes_L21 M a1 a2 a3 a3 (5 : Int32) a1
else
bO (f_X8_ofPage M a1 (5 : Int32)) (fun v11 =>
f_X8_comes_L21 M a1 a2 a3 v11 (5 : Int32) a1)))
theorem pk_X8_comes : Pk "SealedGroupsModel" yX8_comes cX8_comes 4 none 3 := ⟨wm_260, wm_5, rfl, by decide +kernel⟩
theorem pv_X8_comes : Cond.instanceMethod yX8_comes ∈ wsL_law ∧ Cond.selects "SealedGroupsModel" yX8_comes yX8_comes ∈ wsL_law := ⟨wm_258, wm_259⟩
set_option maxHeartbeats 4000000 in
set_option maxRecDepth 100000 in
theorem c_X8_comes (l : Launch) (E : En) (hA : AdOK E) {M : Mem} {a1 a2 a3 : Int32} {M0 : Mem}  (h : f_X8_comes M a1 a2 a3 = some M0) : Met l yX8_comes (Wm yX8_comes cX8_comes 4 none) ({ frames := 3, cells := 0, slots := 0, locals := 64 } : Room) (va_Pc [Value.ref (E.2.2 11 28), Value.int a1, Value.int a2, Value.int a3] (Wd E M)) (QV E M0) 0 0 (AA E) := by
  refine Met.ofW (cc := cX8_comes) (maxL := 4) (ret := none) (by decide +kernel) rfl ?_
  intro p e s m args below meth c s₁ B hml hv
  obtain ⟨rfl, hP, hK⟩ := hv
  have X : Cx E (AA E) p s m c _ cX8_comes 4 RX8 := ⟨⟨B.exec, B.bytes, hml, findClass_of_methodNamed B.named, fun w hw => atoms_spec (ws := Wm yX8_comes cX8_comes 4 none) B.pre w (List.mem_cons_of_mem _ hw)⟩, hK, hA, fun _ h => h⟩
  have hx := B.exec
  have hb := B.bytes
  have hr := B.returns
  have hlocks := B.notSynchronized
  clear B hml
  have hS : va_S (AA E) s.heap s.heap [] := va_S.rf
  have hl := lv_entry ([Value.ref (E.2.2 11 28), Value.int a1, Value.int a2, Value.int a3]) (n := 4) (Nat.le_of_ble_eq_true rfl)
  rw [lg_entry_eq]
  generalize (lg_sl ([Value.ref (E.2.2 11 28), Value.int a1, Value.int a2, Value.int a3]) ++ List.replicate (4 - (lg_sl ([Value.ref (E.2.2 11 28), Value.int a1, Value.int a2, Value.int a3])).length) Slot.unset).toArray = ls at hl ⊢
  have hl : lv_has ls 4 [(0, .ref (E.2.2 11 28)), (1, .int a1), (2, .int a2), (3, .int a3)] := hl
  have w_L21 : ∀ (M : Mem) (y1 y2 y3 z0 z1 z2 : Int32) (H : Heap) (locs : List Loc) (ls : Array Slot), f_X8_comes_L21  M y1 y2 y3 z0 z1 z2 = some M0 → va_P E.1 vwCl (wl E M) H → va_S (AA E) s.heap H locs → lv_has ls 4 [(0, .ref (E.2.2 11 28)), (1, .int y1), (2, .int y2), (3, .int y3)] → W p l e (headSpec (Wm yX8_comes cX8_comes 4 none) ({ frames := 3, cells := 0, slots := 0, locals := 64 } : Room)).room s m ([Value.ref (E.2.2 11 28), Value.int a1, Value.int a2, Value.int a3] : List Value).toArray below meth c H locs 0 0 (MQ below (QV E M0) ([Value.ref (E.2.2 11 28), Value.int a1, Value.int a2, Value.int a3] : List Value).toArray s 0 0 (AA E)) (F0 m 21 ls [.int z0, .int z1, .int z2, .ref (E.2.2 11 28)]) := by
    intro M y1 y2 y3 z0 z1 z2 H locs ls h hP hS hl
    unfold f_X8_comes_L21 at h
    obtain ⟨M4, hv3, h⟩ := bO_e h
    refine mw_callVv X (c_X8_putsPage l E hA hv3) pk_X8_putsPage pv_X8_putsPage wm_269 ⟨Nat.le_of_ble_eq_true rfl, Nat.le_of_ble_eq_true rfl⟩ ⟨rfl, rfl⟩ hP hS ix_28 rfl rfl rfl rfl hl.1 (Nat.le_of_ble_eq_true rfl) ⟨Nat.zero_le _, Nat.zero_le _⟩ rfl dX8_comes_21 (fun H locs hP hS => ?_)
    refine lv_aload_n hx hb dX8_comes_24 rfl (lv_at hl 0 rfl) ?_
    refine lv_iload_n hx hb dX8_comes_25 rfl (lv_at hl 1 rfl) ?_
    refine lv_iconst (v := 2) hx hb dX8_comes_26 (by decide) ?_
    refine lv_iconst (v := 1) hx hb dX8_comes_27 (by decide) ?_
    obtain ⟨M6, hv5, h⟩ := bO_e h
    refine mw_callVv X (c_X8_putsPage l E hA hv5) pk_X8_putsPage pv_X8_putsPage wm_269 ⟨Nat.le_of_ble_eq_true rfl, Nat.le_of_ble_eq_true rfl⟩ ⟨rfl, rfl⟩ hP hS ix_28 rfl rfl rfl rfl hl.1 (Nat.le_of_ble_eq_true rfl) ⟨Nat.zero_le _, Nat.zero_le _⟩ rfl dX8_comes_28 (fun H locs hP hS => ?_)
    refine lv_aload_n hx hb dX8_comes_31 rfl (lv_at hl 0 rfl) ?_
    refine lv_iload_n hx hb dX8_comes_32 rfl (lv_at hl 1 rfl) ?_
    refine lv_iconst (v := 3) hx hb dX8_comes_33 (by decide) ?_
    refine lv_iload_n hx hb dX8_comes_34 rfl (lv_at hl 2 rfl) ?_
    obtain ⟨M8, hv7, h⟩ := bO_e h
    refine mw_callVv X (c_X8_putsPage l E hA hv7) pk_X8_putsPage pv_X8_putsPage wm_269 ⟨Nat.le_of_ble_eq_true rfl, Nat.le_of_ble_eq_true rfl⟩ ⟨rfl, rfl⟩ hP hS ix_28 rfl rfl rfl rfl hl.1 (Nat.le_of_ble_eq_true rfl) ⟨Nat.zero_le _, Nat.zero_le _⟩ rfl dX8_comes_35 (fun H locs hP hS => ?_)
    refine lv_aload_n hx hb dX8_comes_38 rfl (lv_at hl 0 rfl) ?_
    refine lv_iload_n hx hb dX8_comes_39 rfl (lv_at hl 1 rfl) ?_
    refine lv_iconst (v := 4) hx hb dX8_comes_40 (by decide) ?_
    refine lv_iload_n hx hb dX8_comes_41 rfl (lv_at hl 3 rfl) ?_
    obtain ⟨M10, hv9, h⟩ := bO_e h
    refine mw_callVv X (c_X8_putsPage l E hA hv9) pk_X8_putsPage pv_X8_putsPage wm_269 ⟨Nat.le_of_ble_eq_true rfl, Nat.le_of_ble_eq_true rfl⟩ ⟨rfl, rfl⟩ hP hS ix_28 rfl rfl rfl rfl hl.1 (Nat.le_of_ble_eq_true rfl) ⟨Nat.zero_le _, Nat.zero_le _⟩ rfl dX8_comes_42 (fun H locs hP hS => ?_)
    exact mw_vret X hr hlocks hP hS (Option.some.inj h) dX8_comes_45
  unfold f_X8_comes at h
  refine lv_aload_n hx hb dX8_comes_0 rfl (lv_at hl 0 rfl) ?_
  refine lv_iload_n hx hb dX8_comes_1 rfl (lv_at hl 1 rfl) ?_
  refine lv_iconst (v := 5) hx hb dX8_comes_2 (by decide) ?_
  refine lv_aload_n hx hb dX8_comes_3 rfl (lv_at hl 0 rfl) ?_
  refine lv_iload_n hx hb dX8_comes_4 rfl (lv_at hl 1 rfl) ?_
  obtain ⟨v1, hv1, h⟩ := bO_e h
  refine mw_callVi X (c_X8_isDirty l E hA hv1) pk_X8_isDirty pv_X8_isDirty wm_261 ⟨Nat.le_of_ble_eq_true rfl, Nat.le_of_ble_eq_true rfl⟩ ⟨rfl, rfl⟩ hP hS ix_28 rfl rfl rfl rfl hl.1 (Nat.le_of_ble_eq_true rfl) ⟨Nat.zero_le _, Nat.zero_le _⟩ rfl dX8_comes_5 (fun H locs hP hS => ?_)
  refine lv_if_eq (tgt := 20) hx hb dX8_comes_8 (by decide) (fun c2 => ?_) (fun c2 => ?_)
  · have h := br_1 h c2
    refine lv_iload_n hx hb dX8_comes_20 rfl (lv_at hl 3 rfl) ?_
    exact w_L21 _ _ _ _ _ _ _ _ _ _ h hP hS (lv_sub hl [0, 1, 2, 3] rfl)
  · have h := br_0 h c2
    refine lv_aload_n hx hb dX8_comes_11 rfl (lv_at hl 0 rfl) ?_
    refine lv_iload_n hx hb dX8_comes_12 rfl (lv_at hl 1 rfl) ?_
    refine lv_iconst (v := 5) hx hb dX8_comes_13 (by decide) ?_
    obtain ⟨v11, hv11, h⟩ := bO_e h
    refine mw_callVi X (c_X8_ofPage l E hA hv11) pk_X8_ofPage pv_X8_ofPage wm_253 ⟨Nat.le_of_ble_eq_true rfl, Nat.le_of_ble_eq_true rfl⟩ ⟨rfl, rfl⟩ hP hS ix_28 rfl rfl rfl rfl hl.1 (Nat.le_of_ble_eq_true rfl) ⟨Nat.zero_le _, Nat.zero_le _⟩ rfl dX8_comes_14 (fun H locs hP hS => ?_)
    refine lv_goto (tgt := 21) hx hb dX8_comes_17 (by decide) ?_
    exact w_L21 _ _ _ _ _ _ _ _ _ _ h hP hS (lv_sub hl [0, 1, 2, 3] rfl)
/-! SealedGroupsModel.holder -/
noncomputable def f_X8_holder_L37  (M : Mem) (K5 : Int32 → Int32 → Int32 → Option Int32) (y1 y3 z0 : Int32) : Option Int32 :=
bd (y3 + (1 : Int32)) (fun x4 =>
K5 y1 z0 x4)
noncomputable def f_X8_holder_L36  (M : Mem) (K5 : Int32 → Int32 → Int32 → Option Int32) (y1 y2 y3 : Int32) : Option Int32 :=
f_X8_holder_L37 M K5 y1 y3 y2
noncomputable def f_X8_holder_L5  (M : Mem) (K5 : Int32 → Int32 → Int32 → Option Int32) (y1 y2 y3 : Int32) : Option Int32 :=
(if (4 : Int32) ≤ y3 then
some y2
else
bO (f_X8_isOpen M y3) (fun v2 =>
(if v2 = 0 then
f_X8_holder_L36 M K5 y1 y2 y3
else
bO (f_X8_ofGroup M y3 (3 : Int32)) (fun v5 =>
(if ((v5 >>> (y1 &&& 31)) &&& (1 : Int32)) = (1 : Int32) then
f_X8_holder_L37 M K5 y1 y3 y3
else
f_X8_holder_L36 M K5 y1 y2 y3)))))
noncomputable def f_X8_holder  (M : Mem) (a1 : Int32) : Option Int32 :=
itr (f_X8_holder_L5 M) (fun _ _ _ => none) FU a1 (-1000004 : Int32) (0 : Int32)
theorem pk_X8_holder : Pk "SealedGroupsModel" yX8_holder cX8_holder 4 (some .int) 1 := ⟨wm_248, wm_5, rfl, by decide +kernel⟩
theorem pv_X8_holder : Cond.instanceMethod yX8_holder ∈ wsL_law ∧ Cond.selects "SealedGroupsModel" yX8_holder yX8_holder ∈ wsL_law := ⟨wm_246, wm_247⟩
set_option maxHeartbeats 4000000 in
set_option maxRecDepth 100000 in
theorem c_X8_holder (l : Launch) (E : En) (hA : AdOK E) {M : Mem} {a1 : Int32} {r0 : Int32}  (h : f_X8_holder M a1 = some r0) : Met l yX8_holder (Wm yX8_holder cX8_holder 4 (some .int)) ({ frames := 2, cells := 0, slots := 0, locals := 43 } : Room) (va_Pc [Value.ref (E.2.2 11 28), Value.int a1] (Wd E M)) (QI E r0 M) 0 0 (AA E) := by
  refine Met.ofW (cc := cX8_holder) (maxL := 4) (ret := (some .int)) (by decide +kernel) rfl ?_
  intro p e s m args below meth c s₁ B hml hv
  obtain ⟨rfl, hP, hK⟩ := hv
  have X : Cx E (AA E) p s m c _ cX8_holder 4 RX8 := ⟨⟨B.exec, B.bytes, hml, findClass_of_methodNamed B.named, fun w hw => atoms_spec (ws := Wm yX8_holder cX8_holder 4 (some .int)) B.pre w (List.mem_cons_of_mem _ hw)⟩, hK, hA, fun _ h => h⟩
  have hx := B.exec
  have hb := B.bytes
  have hr := B.returns
  have hlocks := B.notSynchronized
  clear B hml
  have hS : va_S (AA E) s.heap s.heap [] := va_S.rf
  have hl := lv_entry ([Value.ref (E.2.2 11 28), Value.int a1]) (n := 4) (Nat.le_of_ble_eq_true rfl)
  rw [lg_entry_eq]
  generalize (lg_sl ([Value.ref (E.2.2 11 28), Value.int a1]) ++ List.replicate (4 - (lg_sl ([Value.ref (E.2.2 11 28), Value.int a1])).length) Slot.unset).toArray = ls at hl ⊢
  have hl : lv_has ls 4 [(0, .ref (E.2.2 11 28)), (1, .int a1)] := hl
  have w_L5 : ∀ (n5 : Nat)  (y1 y2 y3 : Int32) (H : Heap) (locs : List Loc) (ls : Array Slot), itr (f_X8_holder_L5 M) (fun _ _ _ => none) n5 y1 y2 y3 = some r0 → va_P E.1 vwCl (wl E M) H → va_S (AA E) s.heap H locs → lv_has ls 4 [(0, .ref (E.2.2 11 28)), (1, .int y1), (2, .int y2), (3, .int y3)] → W p l e (headSpec (Wm yX8_holder cX8_holder 4 (some .int)) ({ frames := 2, cells := 0, slots := 0, locals := 43 } : Room)).room s m ([Value.ref (E.2.2 11 28), Value.int a1] : List Value).toArray below meth c H locs 0 0 (MQ below (QI E r0 M) ([Value.ref (E.2.2 11 28), Value.int a1] : List Value).toArray s 0 0 (AA E)) (F0 m 5 ls []) := by
    intro n5
    induction n5 with
    | zero => intro y1 y2 y3 H locs ls h; exact (nomatch (show (none : Option Int32) = some _ from h))
    | succ n5 ih5 =>
      intro y1 y2 y3 H locs ls h hP hS hl
      have h : f_X8_holder_L5 M (itr (f_X8_holder_L5 M) (fun _ _ _ => none) n5) y1 y2 y3 = some r0 := h
      have w_L37 : ∀  (y1 y3 z0 : Int32) (H : Heap) (locs : List Loc) (ls : Array Slot), f_X8_holder_L37 M (itr (f_X8_holder_L5 M) (fun _ _ _ => none) n5) y1 y3 z0 = some r0 → va_P E.1 vwCl (wl E M) H → va_S (AA E) s.heap H locs → lv_has ls 4 [(0, .ref (E.2.2 11 28)), (1, .int y1), (3, .int y3)] → W p l e (headSpec (Wm yX8_holder cX8_holder 4 (some .int)) ({ frames := 2, cells := 0, slots := 0, locals := 43 } : Room)).room s m ([Value.ref (E.2.2 11 28), Value.int a1] : List Value).toArray below meth c H locs 0 0 (MQ below (QI E r0 M) ([Value.ref (E.2.2 11 28), Value.int a1] : List Value).toArray s 0 0 (AA E)) (F0 m 37 ls [.int z0]) := by
        intro y1 y3 z0 H locs ls h hP hS hl
        unfold f_X8_holder_L37 at h
        refine lv_istore_n (lv' := [(2, .int z0), (0, .ref (E.2.2 11 28)), (1, .int y1), (3, .int y3)]) hx hb dX8_holder_37 rfl hl (by decide) rfl (fun ls hl => ?_)
        obtain ⟨x4, ex4⟩ : ∃ y : Int32, y = y3 + (1 : Int32) := ⟨_, rfl⟩
        have h := bd_e h ex4
        refine lv_iinc (v := x4) (lv' := [(3, .int x4), (2, .int z0), (0, .ref (E.2.2 11 28)), (1, .int y1)]) hx hb dX8_holder_38 hl (k := 3) rfl (by rw [ex4]; rfl) (by decide) rfl (fun ls hl => ?_)
        refine lv_goto (tgt := 5) hx hb dX8_holder_41 (by decide) ?_
        exact ih5 _ _ _ _ _ _ h hP hS (lv_sub hl [2, 3, 1, 0] rfl)
      have w_L36 : ∀  (y1 y2 y3 : Int32) (H : Heap) (locs : List Loc) (ls : Array Slot), f_X8_holder_L36 M (itr (f_X8_holder_L5 M) (fun _ _ _ => none) n5) y1 y2 y3 = some r0 → va_P E.1 vwCl (wl E M) H → va_S (AA E) s.heap H locs → lv_has ls 4 [(0, .ref (E.2.2 11 28)), (1, .int y1), (2, .int y2), (3, .int y3)] → W p l e (headSpec (Wm yX8_holder cX8_holder 4 (some .int)) ({ frames := 2, cells := 0, slots := 0, locals := 43 } : Room)).room s m ([Value.ref (E.2.2 11 28), Value.int a1] : List Value).toArray below meth c H locs 0 0 (MQ below (QI E r0 M) ([Value.ref (E.2.2 11 28), Value.int a1] : List Value).toArray s 0 0 (AA E)) (F0 m 36 ls []) := by
        intro y1 y2 y3 H locs ls h hP hS hl
        unfold f_X8_holder_L36 at h
        refine lv_iload_n hx hb dX8_holder_36 rfl (lv_at hl 2 rfl) ?_
        exact w_L37 _ _ _ _ _ _ h hP hS (lv_sub hl [0, 1, 3] rfl)
      unfold f_X8_holder_L5 at h
      refine lv_iload_n hx hb dX8_holder_5 rfl (lv_at hl 3 rfl) ?_
      refine lv_iconst (v := 4) hx hb dX8_holder_6 (by decide) ?_
      refine lv_icmp_ge (tgt := 44) hx hb dX8_holder_7 (by decide) (fun c1 => ?_) (fun c1 => ?_)
      · have h := br_1 h c1
        refine lv_iload_n hx hb dX8_holder_44 rfl (lv_at hl 2 rfl) ?_
        exact mw_iret X hr hlocks hP hS (Option.some.inj h) rfl dX8_holder_45
      · have h := br_0 h c1
        refine lv_aload_n hx hb dX8_holder_10 rfl (lv_at hl 0 rfl) ?_
        refine lv_iload_n hx hb dX8_holder_11 rfl (lv_at hl 3 rfl) ?_
        obtain ⟨v2, hv2, h⟩ := bO_e h
        refine mw_callVi X (c_X8_isOpen l E hA hv2) pk_X8_isOpen pv_X8_isOpen wm_190 ⟨Nat.le_of_ble_eq_true rfl, Nat.le_of_ble_eq_true rfl⟩ ⟨rfl, rfl⟩ hP hS ix_28 rfl rfl rfl rfl hl.1 (Nat.le_of_ble_eq_true rfl) ⟨Nat.zero_le _, Nat.zero_le _⟩ rfl dX8_holder_12 (fun H locs hP hS => ?_)
        refine lv_if_eq (tgt := 36) hx hb dX8_holder_15 (by decide) (fun c3 => ?_) (fun c3 => ?_)
        · have h := br_1 h c3
          exact w_L36 _ _ _ _ _ _ h hP hS (lv_sub hl [0, 1, 2, 3] rfl)
        · have h := br_0 h c3
          refine lv_aload_n hx hb dX8_holder_18 rfl (lv_at hl 0 rfl) ?_
          refine lv_iload_n hx hb dX8_holder_19 rfl (lv_at hl 3 rfl) ?_
          refine lv_iconst (v := 3) hx hb dX8_holder_20 (by decide) ?_
          obtain ⟨v5, hv5, h⟩ := bO_e h
          refine mw_callVi X (c_X8_ofGroup l E hA hv5) pk_X8_ofGroup pv_X8_ofGroup wm_194 ⟨Nat.le_of_ble_eq_true rfl, Nat.le_of_ble_eq_true rfl⟩ ⟨rfl, rfl⟩ hP hS ix_28 rfl rfl rfl rfl hl.1 (Nat.le_of_ble_eq_true rfl) ⟨Nat.zero_le _, Nat.zero_le _⟩ rfl dX8_holder_21 (fun H locs hP hS => ?_)
          refine lv_iload_n hx hb dX8_holder_24 rfl (lv_at hl 1 rfl) ?_
          refine lv_ishr hx hb dX8_holder_25 ?_
          refine lv_iconst (v := 1) hx hb dX8_holder_26 (by decide) ?_
          refine lv_iand hx hb dX8_holder_27 ?_
          refine lv_iconst (v := 1) hx hb dX8_holder_28 (by decide) ?_
          refine lv_icmp_ne (tgt := 36) hx hb dX8_holder_29 (by decide) (fun c6 => ?_) (fun c6 => ?_)
          · have h := br_0 h c6
            exact w_L36 _ _ _ _ _ _ h hP hS (lv_sub hl [0, 1, 2, 3] rfl)
          · have h := br_1 h c6
            refine lv_iload_n hx hb dX8_holder_32 rfl (lv_at hl 3 rfl) ?_
            refine lv_goto (tgt := 37) hx hb dX8_holder_33 (by decide) ?_
            exact w_L37 _ _ _ _ _ _ h hP hS (lv_sub hl [0, 1, 3] rfl)
  unfold f_X8_holder at h
  refine lv_ldc hx hb X.1.2.2.2.1 (X.1.2.2.2.2 _ wm_182) dX8_holder_0 ?_
  refine lv_istore_n (lv' := [(2, .int (-1000004 : Int32)), (0, .ref (E.2.2 11 28)), (1, .int a1)]) hx hb dX8_holder_2 rfl hl (by decide) rfl (fun ls hl => ?_)
  refine lv_iconst (v := 0) hx hb dX8_holder_3 (by decide) ?_
  refine lv_istore_n (lv' := [(3, .int (0 : Int32)), (2, .int (-1000004 : Int32)), (0, .ref (E.2.2 11 28)), (1, .int a1)]) hx hb dX8_holder_4 rfl hl (by decide) rfl (fun ls hl => ?_)
  exact w_L5 FU _ _ _ _ _ _ h hP hS (lv_sub hl [2, 3, 1, 0] rfl)
/-! SealedGroupsModel.begin -/
noncomputable def f_X8_begin  (M : Mem) (a1 : Int32) : Option (Int32 × Mem) :=
bO (f_X8_in M a1 (0 : Int32) (3 : Int32)) (fun v1 =>
(if v1 = 0 then
some ((-1000001 : Int32), M)
else
bO (f_X8_isStopped M) (fun v3 =>
(if v3 = 0 then
bO (f_X8_isOpen M a1) (fun v5 =>
(if v5 = 0 then
(if (M 11 29 1) < (60 : Int32) then
bO (f_X8_changes M) (fun M9 =>
bP (f_X8_adds M9 (0 : Int32) a1 (-1000004 : Int32) (-1000004 : Int32) (-1000004 : Int32) (-1000004 : Int32)) (fun v10 M11 =>
bO (f_X8_putsGroup M11 a1 (0 : Int32) (1 : Int32)) (fun M13 =>
bO (f_X8_putsGroup M13 a1 (1 : Int32) v10) (fun M15 =>
bO (f_X8_putsGroup M15 a1 (2 : Int32) (0 : Int32)) (fun M17 =>
bO (f_X8_putsGroup M17 a1 (3 : Int32) (0 : Int32)) (fun M19 =>
some (v10, M19)))))))
else
some ((-1000003 : Int32), M))
else
some ((-1000002 : Int32), M)))
else
some ((-1000002 : Int32), M)))))
theorem pk_X8_begin : Pk "SealedGroupsModel" yX8_begin cX8_begin 3 (some .int) 1 := ⟨wm_178, wm_5, rfl, by decide +kernel⟩
theorem pv_X8_begin : Cond.instanceMethod yX8_begin ∈ wsL_law ∧ Cond.selects "SealedGroupsModel" yX8_begin yX8_begin ∈ wsL_law := ⟨wm_176, wm_177⟩
set_option maxHeartbeats 4000000 in
set_option maxRecDepth 100000 in
theorem c_X8_begin (l : Launch) (E : En) (hA : AdOK E) {M : Mem} {a1 : Int32} {r0 : Int32} {M0 : Mem}  (h : f_X8_begin M a1 = some (r0, M0)) : Met l yX8_begin (Wm yX8_begin cX8_begin 3 (some .int)) ({ frames := 2, cells := 0, slots := 0, locals := 48 } : Room) (va_Pc [Value.ref (E.2.2 11 28), Value.int a1] (Wd E M)) (QI E r0 M0) 0 0 (AA E) := by
  refine Met.ofW (cc := cX8_begin) (maxL := 3) (ret := (some .int)) (by decide +kernel) rfl ?_
  intro p e s m args below meth c s₁ B hml hv
  obtain ⟨rfl, hP, hK⟩ := hv
  have X : Cx E (AA E) p s m c _ cX8_begin 3 RX8 := ⟨⟨B.exec, B.bytes, hml, findClass_of_methodNamed B.named, fun w hw => atoms_spec (ws := Wm yX8_begin cX8_begin 3 (some .int)) B.pre w (List.mem_cons_of_mem _ hw)⟩, hK, hA, fun _ h => h⟩
  have hx := B.exec
  have hb := B.bytes
  have hr := B.returns
  have hlocks := B.notSynchronized
  clear B hml
  have hS : va_S (AA E) s.heap s.heap [] := va_S.rf
  have hl := lv_entry ([Value.ref (E.2.2 11 28), Value.int a1]) (n := 3) (Nat.le_of_ble_eq_true rfl)
  rw [lg_entry_eq]
  generalize (lg_sl ([Value.ref (E.2.2 11 28), Value.int a1]) ++ List.replicate (3 - (lg_sl ([Value.ref (E.2.2 11 28), Value.int a1])).length) Slot.unset).toArray = ls at hl ⊢
  have hl : lv_has ls 3 [(0, .ref (E.2.2 11 28)), (1, .int a1)] := hl
  unfold f_X8_begin at h
  refine lv_iload_n hx hb dX8_begin_0 rfl (lv_at hl 1 rfl) ?_
  refine lv_iconst (v := 0) hx hb dX8_begin_1 (by decide) ?_
  refine lv_iconst (v := 3) hx hb dX8_begin_2 (by decide) ?_
  obtain ⟨v1, hv1, h⟩ := bO_e h
  refine mw_callSi X (c_X8_in l E hA hv1) pk_X8_in wm_184 wm_183 ⟨Nat.le_of_ble_eq_true rfl, Nat.le_of_ble_eq_true rfl⟩ ⟨rfl, rfl⟩ hP hS rfl hl.1 (Nat.le_of_ble_eq_true rfl) ⟨Nat.zero_le _, Nat.zero_le _⟩ rfl dX8_begin_3 (fun H locs hP hS => ?_)
  refine lv_if_ne (tgt := 12) hx hb dX8_begin_6 (by decide) (fun c2 => ?_) (fun c2 => ?_)
  · have h := br_0 h c2
    refine lv_aload_n hx hb dX8_begin_12 rfl (lv_at hl 0 rfl) ?_
    obtain ⟨v3, hv3, h⟩ := bO_e h
    refine mw_callVi X (c_X8_isStopped l E hA hv3) pk_X8_isStopped pv_X8_isStopped wm_186 ⟨Nat.le_of_ble_eq_true rfl, Nat.le_of_ble_eq_true rfl⟩ ⟨rfl, rfl⟩ hP hS ix_28 rfl rfl rfl rfl hl.1 (Nat.le_of_ble_eq_true rfl) ⟨Nat.zero_le _, Nat.zero_le _⟩ rfl dX8_begin_13 (fun H locs hP hS => ?_)
    refine lv_if_ne (tgt := 27) hx hb dX8_begin_16 (by decide) (fun c4 => ?_) (fun c4 => ?_)
    · have h := br_0 h c4
      refine lv_ldc hx hb X.1.2.2.2.1 (X.1.2.2.2.2 _ wm_180) dX8_begin_27 ?_
      have h := Option.some.inj h
      exact mw_iret X hr hlocks hP hS (congrArg Prod.fst h) (congrArg Prod.snd h) dX8_begin_29
    · have h := br_1 h c4
      refine lv_aload_n hx hb dX8_begin_19 rfl (lv_at hl 0 rfl) ?_
      refine lv_iload_n hx hb dX8_begin_20 rfl (lv_at hl 1 rfl) ?_
      obtain ⟨v5, hv5, h⟩ := bO_e h
      refine mw_callVi X (c_X8_isOpen l E hA hv5) pk_X8_isOpen pv_X8_isOpen wm_190 ⟨Nat.le_of_ble_eq_true rfl, Nat.le_of_ble_eq_true rfl⟩ ⟨rfl, rfl⟩ hP hS ix_28 rfl rfl rfl rfl hl.1 (Nat.le_of_ble_eq_true rfl) ⟨Nat.zero_le _, Nat.zero_le _⟩ rfl dX8_begin_21 (fun H locs hP hS => ?_)
      refine lv_if_eq (tgt := 30) hx hb dX8_begin_24 (by decide) (fun c6 => ?_) (fun c6 => ?_)
      · have h := br_1 h c6
        refine lv_aload_n hx hb dX8_begin_30 rfl (lv_at hl 0 rfl) ?_
        refine gt_8_0 X wm_90 hP ix_28 dX8_begin_31 ?_
        refine lv_iconst (v := 1) hx hb dX8_begin_34 (by decide) ?_
        refine mw_ld X hP ix_29 rfl (v := (M 11 29 1)) (inb_vp (by decide)) rfl dX8_begin_35 ?_
        refine lv_bipush (v := 60) hx hb dX8_begin_36 (by decide) ?_
        refine lv_icmp_lt (tgt := 44) hx hb dX8_begin_38 (by decide) (fun c7 => ?_) (fun c7 => ?_)
        · have h := br_1 h c7
          refine lv_aload_n hx hb dX8_begin_44 rfl (lv_at hl 0 rfl) ?_
          obtain ⟨M9, hv8, h⟩ := bO_e h
          refine mw_callVv X (c_X8_changes l E hA hv8) pk_X8_changes pv_X8_changes wm_198 ⟨Nat.le_of_ble_eq_true rfl, Nat.le_of_ble_eq_true rfl⟩ ⟨rfl, rfl⟩ hP hS ix_28 rfl rfl rfl rfl hl.1 (Nat.le_of_ble_eq_true rfl) ⟨Nat.zero_le _, Nat.zero_le _⟩ rfl dX8_begin_45 (fun H locs hP hS => ?_)
          refine lv_aload_n hx hb dX8_begin_48 rfl (lv_at hl 0 rfl) ?_
          refine lv_iconst (v := 0) hx hb dX8_begin_49 (by decide) ?_
          refine lv_iload_n hx hb dX8_begin_50 rfl (lv_at hl 1 rfl) ?_
          refine lv_ldc hx hb X.1.2.2.2.1 (X.1.2.2.2.2 _ wm_182) dX8_begin_51 ?_
          refine lv_ldc hx hb X.1.2.2.2.1 (X.1.2.2.2.2 _ wm_182) dX8_begin_53 ?_
          refine lv_ldc hx hb X.1.2.2.2.1 (X.1.2.2.2.2 _ wm_182) dX8_begin_55 ?_
          refine lv_ldc hx hb X.1.2.2.2.1 (X.1.2.2.2.2 _ wm_182) dX8_begin_57 ?_
          obtain ⟨v10, M11, hv10, h⟩ := bP_e h
          refine mw_callVi X (c_X8_adds l E hA hv10) pk_X8_adds pv_X8_adds wm_204 ⟨Nat.le_of_ble_eq_true rfl, Nat.le_of_ble_eq_true rfl⟩ ⟨rfl, rfl⟩ hP hS ix_28 rfl rfl rfl rfl hl.1 (Nat.le_of_ble_eq_true rfl) ⟨Nat.zero_le _, Nat.zero_le _⟩ rfl dX8_begin_59 (fun H locs hP hS => ?_)
          refine lv_istore_n (lv' := [(2, .int v10), (0, .ref (E.2.2 11 28)), (1, .int a1)]) hx hb dX8_begin_62 rfl hl (by decide) rfl (fun ls hl => ?_)
          refine lv_aload_n hx hb dX8_begin_63 rfl (lv_at hl 1 rfl) ?_
          refine lv_iload_n hx hb dX8_begin_64 rfl (lv_at hl 2 rfl) ?_
          refine lv_iconst (v := 0) hx hb dX8_begin_65 (by decide) ?_
          refine lv_iconst (v := 1) hx hb dX8_begin_66 (by decide) ?_
          obtain ⟨M13, hv12, h⟩ := bO_e h
          refine mw_callVv X (c_X8_putsGroup l E hA hv12) pk_X8_putsGroup pv_X8_putsGroup wm_212 ⟨Nat.le_of_ble_eq_true rfl, Nat.le_of_ble_eq_true rfl⟩ ⟨rfl, rfl⟩ hP hS ix_28 rfl rfl rfl rfl hl.1 (Nat.le_of_ble_eq_true rfl) ⟨Nat.zero_le _, Nat.zero_le _⟩ rfl dX8_begin_67 (fun H locs hP hS => ?_)
          refine lv_aload_n hx hb dX8_begin_70 rfl (lv_at hl 1 rfl) ?_
          refine lv_iload_n hx hb dX8_begin_71 rfl (lv_at hl 2 rfl) ?_
          refine lv_iconst (v := 1) hx hb dX8_begin_72 (by decide) ?_
          refine lv_iload_n hx hb dX8_begin_73 rfl (lv_at hl 0 rfl) ?_
          obtain ⟨M15, hv14, h⟩ := bO_e h
          refine mw_callVv X (c_X8_putsGroup l E hA hv14) pk_X8_putsGroup pv_X8_putsGroup wm_212 ⟨Nat.le_of_ble_eq_true rfl, Nat.le_of_ble_eq_true rfl⟩ ⟨rfl, rfl⟩ hP hS ix_28 rfl rfl rfl rfl hl.1 (Nat.le_of_ble_eq_true rfl) ⟨Nat.zero_le _, Nat.zero_le _⟩ rfl dX8_begin_74 (fun H locs hP hS => ?_)
          refine lv_aload_n hx hb dX8_begin_77 rfl (lv_at hl 1 rfl) ?_
          refine lv_iload_n hx hb dX8_begin_78 rfl (lv_at hl 2 rfl) ?_
          refine lv_iconst (v := 2) hx hb dX8_begin_79 (by decide) ?_
          refine lv_iconst (v := 0) hx hb dX8_begin_80 (by decide) ?_
          obtain ⟨M17, hv16, h⟩ := bO_e h
          refine mw_callVv X (c_X8_putsGroup l E hA hv16) pk_X8_putsGroup pv_X8_putsGroup wm_212 ⟨Nat.le_of_ble_eq_true rfl, Nat.le_of_ble_eq_true rfl⟩ ⟨rfl, rfl⟩ hP hS ix_28 rfl rfl rfl rfl hl.1 (Nat.le_of_ble_eq_true rfl) ⟨Nat.zero_le _, Nat.zero_le _⟩ rfl dX8_begin_81 (fun H locs hP hS => ?_)
          refine lv_aload_n hx hb dX8_begin_84 rfl (lv_at hl 1 rfl) ?_
          refine lv_iload_n hx hb dX8_begin_85 rfl (lv_at hl 2 rfl) ?_
          refine lv_iconst (v := 3) hx hb dX8_begin_86 (by decide) ?_
          refine lv_iconst (v := 0) hx hb dX8_begin_87 (by decide) ?_
          obtain ⟨M19, hv18, h⟩ := bO_e h
          refine mw_callVv X (c_X8_putsGroup l E hA hv18) pk_X8_putsGroup pv_X8_putsGroup wm_212 ⟨Nat.le_of_ble_eq_true rfl, Nat.le_of_ble_eq_true rfl⟩ ⟨rfl, rfl⟩ hP hS ix_28 rfl rfl rfl rfl hl.1 (Nat.le_of_ble_eq_true rfl) ⟨Nat.zero_le _, Nat.zero_le _⟩ rfl dX8_begin_88 (fun H locs hP hS => ?_)
          refine lv_iload_n hx hb dX8_begin_91 rfl (lv_at hl 0 rfl) ?_
          have h := Option.some.inj h
          exact mw_iret X hr hlocks hP hS (congrArg Prod.fst h) (congrArg Prod.snd h) dX8_begin_92
        · have h := br_0 h c7
          refine lv_ldc hx hb X.1.2.2.2.1 (X.1.2.2.2.2 _ wm_181) dX8_begin_41 ?_
          have h := Option.some.inj h
          exact mw_iret X hr hlocks hP hS (congrArg Prod.fst h) (congrArg Prod.snd h) dX8_begin_43
      · have h := br_0 h c6
        refine lv_ldc hx hb X.1.2.2.2.1 (X.1.2.2.2.2 _ wm_180) dX8_begin_27 ?_
        have h := Option.some.inj h
        exact mw_iret X hr hlocks hP hS (congrArg Prod.fst h) (congrArg Prod.snd h) dX8_begin_29
  · have h := br_1 h c2
    refine lv_ldc hx hb X.1.2.2.2.1 (X.1.2.2.2.2 _ wm_179) dX8_begin_9 ?_
    have h := Option.some.inj h
    exact mw_iret X hr hlocks hP hS (congrArg Prod.fst h) (congrArg Prod.snd h) dX8_begin_11
/-! SealedGroupsModel.write -/
noncomputable def f_X8_write_L68  (M : Mem) (y1 y2 y3 : Int32) : Option (Int32 × Mem) :=
(if (M 11 29 1) < (60 : Int32) then
bO (f_X8_changes M) (fun M15 =>
bO (f_X8_value M15 y2) (fun v16 =>
bP (f_X8_adds M15 (1 : Int32) y1 y2 v16 y3 (-1000004 : Int32)) (fun v17 M18 =>
bO (f_X8_comes M18 y2 y3 v17) (fun M20 =>
bO (f_X8_ofGroup M20 y1 (2 : Int32)) (fun v21 =>
bO (f_X8_putsGroup M20 y1 (2 : Int32) (v21 + (1 : Int32))) (fun M23 =>
bO (f_X8_ofGroup M23 y1 (3 : Int32)) (fun v24 =>
bO (f_X8_putsGroup M23 y1 (3 : Int32) (v24 ||| ((1 : Int32) <<< (y2 &&& 31)))) (fun M26 =>
some (v16, M26)))))))))
else
some ((-1000003 : Int32), M))
noncomputable def f_X8_write  (M : Mem) (a1 a2 a3 : Int32) : Option (Int32 × Mem) :=
bO (f_X8_in M a1 (0 : Int32) (3 : Int32)) (fun v1 =>
(if v1 = 0 then
some ((-1000001 : Int32), M)
else
bO (f_X8_in M a2 (0 : Int32) (7 : Int32)) (fun v3 =>
(if v3 = 0 then
some ((-1000001 : Int32), M)
else
bO (f_X8_in M a3 (0 : Int32) (99 : Int32)) (fun v5 =>
(if v5 = 0 then
some ((-1000001 : Int32), M)
else
bO (f_X8_holder M a2) (fun v7 =>
bO (f_X8_isStopped M) (fun v8 =>
(if v8 = 0 then
bO (f_X8_isOpen M a1) (fun v10 =>
(if v10 = 0 then
some ((-1000002 : Int32), M)
else
(if v7 < 0 then
f_X8_write_L68 M a1 a2 a3
else
(if v7 = a1 then
f_X8_write_L68 M a1 a2 a3
else
some ((-1000002 : Int32), M)))))
else
some ((-1000002 : Int32), M))))))))))
theorem pk_X8_write : Pk "SealedGroupsModel" yX8_write cX8_write 7 (some .int) 3 := ⟨wm_244, wm_5, rfl, by decide +kernel⟩
theorem pv_X8_write : Cond.instanceMethod yX8_write ∈ wsL_law ∧ Cond.selects "SealedGroupsModel" yX8_write yX8_write ∈ wsL_law := ⟨wm_242, wm_243⟩
set_option maxHeartbeats 4000000 in
set_option maxRecDepth 100000 in
theorem c_X8_write (l : Launch) (E : En) (hA : AdOK E) {M : Mem} {a1 a2 a3 : Int32} {r0 : Int32} {M0 : Mem}  (h : f_X8_write M a1 a2 a3 = some (r0, M0)) : Met l yX8_write (Wm yX8_write cX8_write 7 (some .int)) ({ frames := 4, cells := 0, slots := 0, locals := 87 } : Room) (va_Pc [Value.ref (E.2.2 11 28), Value.int a1, Value.int a2, Value.int a3] (Wd E M)) (QI E r0 M0) 0 0 (AA E) := by
  refine Met.ofW (cc := cX8_write) (maxL := 7) (ret := (some .int)) (by decide +kernel) rfl ?_
  intro p e s m args below meth c s₁ B hml hv
  obtain ⟨rfl, hP, hK⟩ := hv
  have X : Cx E (AA E) p s m c _ cX8_write 7 RX8 := ⟨⟨B.exec, B.bytes, hml, findClass_of_methodNamed B.named, fun w hw => atoms_spec (ws := Wm yX8_write cX8_write 7 (some .int)) B.pre w (List.mem_cons_of_mem _ hw)⟩, hK, hA, fun _ h => h⟩
  have hx := B.exec
  have hb := B.bytes
  have hr := B.returns
  have hlocks := B.notSynchronized
  clear B hml
  have hS : va_S (AA E) s.heap s.heap [] := va_S.rf
  have hl := lv_entry ([Value.ref (E.2.2 11 28), Value.int a1, Value.int a2, Value.int a3]) (n := 7) (Nat.le_of_ble_eq_true rfl)
  rw [lg_entry_eq]
  generalize (lg_sl ([Value.ref (E.2.2 11 28), Value.int a1, Value.int a2, Value.int a3]) ++ List.replicate (7 - (lg_sl ([Value.ref (E.2.2 11 28), Value.int a1, Value.int a2, Value.int a3])).length) Slot.unset).toArray = ls at hl ⊢
  have hl : lv_has ls 7 [(0, .ref (E.2.2 11 28)), (1, .int a1), (2, .int a2), (3, .int a3)] := hl
  have w_L68 : ∀ (M : Mem) (y1 y2 y3 : Int32) (H : Heap) (locs : List Loc) (ls : Array Slot), f_X8_write_L68  M y1 y2 y3 = some (r0, M0) → va_P E.1 vwCl (wl E M) H → va_S (AA E) s.heap H locs → lv_has ls 7 [(0, .ref (E.2.2 11 28)), (1, .int y1), (2, .int y2), (3, .int y3)] → W p l e (headSpec (Wm yX8_write cX8_write 7 (some .int)) ({ frames := 4, cells := 0, slots := 0, locals := 87 } : Room)).room s m ([Value.ref (E.2.2 11 28), Value.int a1, Value.int a2, Value.int a3] : List Value).toArray below meth c H locs 0 0 (MQ below (QI E r0 M0) ([Value.ref (E.2.2 11 28), Value.int a1, Value.int a2, Value.int a3] : List Value).toArray s 0 0 (AA E)) (F0 m 68 ls []) := by
    intro M y1 y2 y3 H locs ls h hP hS hl
    unfold f_X8_write_L68 at h
    refine lv_aload_n hx hb dX8_write_68 rfl (lv_at hl 0 rfl) ?_
    refine gt_8_0 X wm_90 hP ix_28 dX8_write_69 ?_
    refine lv_iconst (v := 1) hx hb dX8_write_72 (by decide) ?_
    refine mw_ld X hP ix_29 rfl (v := (M 11 29 1)) (inb_vp (by decide)) rfl dX8_write_73 ?_
    refine lv_bipush (v := 60) hx hb dX8_write_74 (by decide) ?_
    refine lv_icmp_lt (tgt := 82) hx hb dX8_write_76 (by decide) (fun c13 => ?_) (fun c13 => ?_)
    · have h := br_1 h c13
      refine lv_aload_n hx hb dX8_write_82 rfl (lv_at hl 0 rfl) ?_
      obtain ⟨M15, hv14, h⟩ := bO_e h
      refine mw_callVv X (c_X8_changes l E hA hv14) pk_X8_changes pv_X8_changes wm_198 ⟨Nat.le_of_ble_eq_true rfl, Nat.le_of_ble_eq_true rfl⟩ ⟨rfl, rfl⟩ hP hS ix_28 rfl rfl rfl rfl hl.1 (Nat.le_of_ble_eq_true rfl) ⟨Nat.zero_le _, Nat.zero_le _⟩ rfl dX8_write_83 (fun H locs hP hS => ?_)
      refine lv_aload_n hx hb dX8_write_86 rfl (lv_at hl 0 rfl) ?_
      refine lv_iload_n hx hb dX8_write_87 rfl (lv_at hl 2 rfl) ?_
      obtain ⟨v16, hv16, h⟩ := bO_e h
      refine mw_callVi X (c_X8_value l E hA hv16) pk_X8_value pv_X8_value wm_249 ⟨Nat.le_of_ble_eq_true rfl, Nat.le_of_ble_eq_true rfl⟩ ⟨rfl, rfl⟩ hP hS ix_28 rfl rfl rfl rfl hl.1 (Nat.le_of_ble_eq_true rfl) ⟨Nat.zero_le _, Nat.zero_le _⟩ rfl dX8_write_88 (fun H locs hP hS => ?_)
      refine lv_istore (lv' := [(5, .int v16), (0, .ref (E.2.2 11 28)), (1, .int y1), (2, .int y2), (3, .int y3)]) hx hb dX8_write_91 hl (by decide) rfl (fun ls hl => ?_)
      refine lv_aload_n hx hb dX8_write_93 rfl (lv_at hl 1 rfl) ?_
      refine lv_iconst (v := 1) hx hb dX8_write_94 (by decide) ?_
      refine lv_iload_n hx hb dX8_write_95 rfl (lv_at hl 2 rfl) ?_
      refine lv_iload_n hx hb dX8_write_96 rfl (lv_at hl 3 rfl) ?_
      refine lv_iload hx hb dX8_write_97 (lv_at hl 0 rfl) ?_
      refine lv_iload_n hx hb dX8_write_99 rfl (lv_at hl 4 rfl) ?_
      refine lv_ldc hx hb X.1.2.2.2.1 (X.1.2.2.2.2 _ wm_182) dX8_write_100 ?_
      obtain ⟨v17, M18, hv17, h⟩ := bP_e h
      refine mw_callVi X (c_X8_adds l E hA hv17) pk_X8_adds pv_X8_adds wm_204 ⟨Nat.le_of_ble_eq_true rfl, Nat.le_of_ble_eq_true rfl⟩ ⟨rfl, rfl⟩ hP hS ix_28 rfl rfl rfl rfl hl.1 (Nat.le_of_ble_eq_true rfl) ⟨Nat.zero_le _, Nat.zero_le _⟩ rfl dX8_write_102 (fun H locs hP hS => ?_)
      refine lv_istore (lv' := [(6, .int v17), (5, .int v16), (0, .ref (E.2.2 11 28)), (1, .int y1), (2, .int y2), (3, .int y3)]) hx hb dX8_write_105 hl (by decide) rfl (fun ls hl => ?_)
      refine lv_aload_n hx hb dX8_write_107 rfl (lv_at hl 2 rfl) ?_
      refine lv_iload_n hx hb dX8_write_108 rfl (lv_at hl 4 rfl) ?_
      refine lv_iload_n hx hb dX8_write_109 rfl (lv_at hl 5 rfl) ?_
      refine lv_iload hx hb dX8_write_110 (lv_at hl 0 rfl) ?_
      obtain ⟨M20, hv19, h⟩ := bO_e h
      refine mw_callVv X (c_X8_comes l E hA hv19) pk_X8_comes pv_X8_comes wm_257 ⟨Nat.le_of_ble_eq_true rfl, Nat.le_of_ble_eq_true rfl⟩ ⟨rfl, rfl⟩ hP hS ix_28 rfl rfl rfl rfl hl.1 (Nat.le_of_ble_eq_true rfl) ⟨Nat.zero_le _, Nat.zero_le _⟩ rfl dX8_write_112 (fun H locs hP hS => ?_)
      refine lv_aload_n hx hb dX8_write_115 rfl (lv_at hl 2 rfl) ?_
      refine lv_iload_n hx hb dX8_write_116 rfl (lv_at hl 3 rfl) ?_
      refine lv_iconst (v := 2) hx hb dX8_write_117 (by decide) ?_
      refine lv_aload_n hx hb dX8_write_118 rfl (lv_at hl 2 rfl) ?_
      refine lv_iload_n hx hb dX8_write_119 rfl (lv_at hl 3 rfl) ?_
      refine lv_iconst (v := 2) hx hb dX8_write_120 (by decide) ?_
      obtain ⟨v21, hv21, h⟩ := bO_e h
      refine mw_callVi X (c_X8_ofGroup l E hA hv21) pk_X8_ofGroup pv_X8_ofGroup wm_194 ⟨Nat.le_of_ble_eq_true rfl, Nat.le_of_ble_eq_true rfl⟩ ⟨rfl, rfl⟩ hP hS ix_28 rfl rfl rfl rfl hl.1 (Nat.le_of_ble_eq_true rfl) ⟨Nat.zero_le _, Nat.zero_le _⟩ rfl dX8_write_121 (fun H locs hP hS => ?_)
      refine lv_iconst (v := 1) hx hb dX8_write_124 (by decide) ?_
      refine lv_iadd hx hb dX8_write_125 ?_
      obtain ⟨M23, hv22, h⟩ := bO_e h
      refine mw_callVv X (c_X8_putsGroup l E hA hv22) pk_X8_putsGroup pv_X8_putsGroup wm_212 ⟨Nat.le_of_ble_eq_true rfl, Nat.le_of_ble_eq_true rfl⟩ ⟨rfl, rfl⟩ hP hS ix_28 rfl rfl rfl rfl hl.1 (Nat.le_of_ble_eq_true rfl) ⟨Nat.zero_le _, Nat.zero_le _⟩ rfl dX8_write_126 (fun H locs hP hS => ?_)
      refine lv_aload_n hx hb dX8_write_129 rfl (lv_at hl 2 rfl) ?_
      refine lv_iload_n hx hb dX8_write_130 rfl (lv_at hl 3 rfl) ?_
      refine lv_iconst (v := 3) hx hb dX8_write_131 (by decide) ?_
      refine lv_aload_n hx hb dX8_write_132 rfl (lv_at hl 2 rfl) ?_
      refine lv_iload_n hx hb dX8_write_133 rfl (lv_at hl 3 rfl) ?_
      refine lv_iconst (v := 3) hx hb dX8_write_134 (by decide) ?_
      obtain ⟨v24, hv24, h⟩ := bO_e h
      refine mw_callVi X (c_X8_ofGroup l E hA hv24) pk_X8_ofGroup pv_X8_ofGroup wm_194 ⟨Nat.le_of_ble_eq_true rfl, Nat.le_of_ble_eq_true rfl⟩ ⟨rfl, rfl⟩ hP hS ix_28 rfl rfl rfl rfl hl.1 (Nat.le_of_ble_eq_true rfl) ⟨Nat.zero_le _, Nat.zero_le _⟩ rfl dX8_write_135 (fun H locs hP hS => ?_)
      refine lv_iconst (v := 1) hx hb dX8_write_138 (by decide) ?_
      refine lv_iload_n hx hb dX8_write_139 rfl (lv_at hl 4 rfl) ?_
      refine lv_ishl hx hb dX8_write_140 ?_
      refine lv_ior hx hb dX8_write_141 ?_
      obtain ⟨M26, hv25, h⟩ := bO_e h
      refine mw_callVv X (c_X8_putsGroup l E hA hv25) pk_X8_putsGroup pv_X8_putsGroup wm_212 ⟨Nat.le_of_ble_eq_true rfl, Nat.le_of_ble_eq_true rfl⟩ ⟨rfl, rfl⟩ hP hS ix_28 rfl rfl rfl rfl hl.1 (Nat.le_of_ble_eq_true rfl) ⟨Nat.zero_le _, Nat.zero_le _⟩ rfl dX8_write_142 (fun H locs hP hS => ?_)
      refine lv_iload hx hb dX8_write_145 (lv_at hl 1 rfl) ?_
      have h := Option.some.inj h
      exact mw_iret X hr hlocks hP hS (congrArg Prod.fst h) (congrArg Prod.snd h) dX8_write_147
    · have h := br_0 h c13
      refine lv_ldc hx hb X.1.2.2.2.1 (X.1.2.2.2.2 _ wm_181) dX8_write_79 ?_
      have h := Option.some.inj h
      exact mw_iret X hr hlocks hP hS (congrArg Prod.fst h) (congrArg Prod.snd h) dX8_write_81
  unfold f_X8_write at h
  refine lv_iload_n hx hb dX8_write_0 rfl (lv_at hl 1 rfl) ?_
  refine lv_iconst (v := 0) hx hb dX8_write_1 (by decide) ?_
  refine lv_iconst (v := 3) hx hb dX8_write_2 (by decide) ?_
  obtain ⟨v1, hv1, h⟩ := bO_e h
  refine mw_callSi X (c_X8_in l E hA hv1) pk_X8_in wm_184 wm_183 ⟨Nat.le_of_ble_eq_true rfl, Nat.le_of_ble_eq_true rfl⟩ ⟨rfl, rfl⟩ hP hS rfl hl.1 (Nat.le_of_ble_eq_true rfl) ⟨Nat.zero_le _, Nat.zero_le _⟩ rfl dX8_write_3 (fun H locs hP hS => ?_)
  refine lv_if_eq (tgt := 29) hx hb dX8_write_6 (by decide) (fun c2 => ?_) (fun c2 => ?_)
  · have h := br_1 h c2
    refine lv_ldc hx hb X.1.2.2.2.1 (X.1.2.2.2.2 _ wm_179) dX8_write_29 ?_
    have h := Option.some.inj h
    exact mw_iret X hr hlocks hP hS (congrArg Prod.fst h) (congrArg Prod.snd h) dX8_write_31
  · have h := br_0 h c2
    refine lv_iload_n hx hb dX8_write_9 rfl (lv_at hl 2 rfl) ?_
    refine lv_iconst (v := 0) hx hb dX8_write_10 (by decide) ?_
    refine lv_bipush (v := 7) hx hb dX8_write_11 (by decide) ?_
    obtain ⟨v3, hv3, h⟩ := bO_e h
    refine mw_callSi X (c_X8_in l E hA hv3) pk_X8_in wm_184 wm_183 ⟨Nat.le_of_ble_eq_true rfl, Nat.le_of_ble_eq_true rfl⟩ ⟨rfl, rfl⟩ hP hS rfl hl.1 (Nat.le_of_ble_eq_true rfl) ⟨Nat.zero_le _, Nat.zero_le _⟩ rfl dX8_write_13 (fun H locs hP hS => ?_)
    refine lv_if_eq (tgt := 29) hx hb dX8_write_16 (by decide) (fun c4 => ?_) (fun c4 => ?_)
    · have h := br_1 h c4
      refine lv_ldc hx hb X.1.2.2.2.1 (X.1.2.2.2.2 _ wm_179) dX8_write_29 ?_
      have h := Option.some.inj h
      exact mw_iret X hr hlocks hP hS (congrArg Prod.fst h) (congrArg Prod.snd h) dX8_write_31
    · have h := br_0 h c4
      refine lv_iload_n hx hb dX8_write_19 rfl (lv_at hl 3 rfl) ?_
      refine lv_iconst (v := 0) hx hb dX8_write_20 (by decide) ?_
      refine lv_bipush (v := 99) hx hb dX8_write_21 (by decide) ?_
      obtain ⟨v5, hv5, h⟩ := bO_e h
      refine mw_callSi X (c_X8_in l E hA hv5) pk_X8_in wm_184 wm_183 ⟨Nat.le_of_ble_eq_true rfl, Nat.le_of_ble_eq_true rfl⟩ ⟨rfl, rfl⟩ hP hS rfl hl.1 (Nat.le_of_ble_eq_true rfl) ⟨Nat.zero_le _, Nat.zero_le _⟩ rfl dX8_write_23 (fun H locs hP hS => ?_)
      refine lv_if_ne (tgt := 32) hx hb dX8_write_26 (by decide) (fun c6 => ?_) (fun c6 => ?_)
      · have h := br_0 h c6
        refine lv_aload_n hx hb dX8_write_32 rfl (lv_at hl 0 rfl) ?_
        refine lv_iload_n hx hb dX8_write_33 rfl (lv_at hl 2 rfl) ?_
        obtain ⟨v7, hv7, h⟩ := bO_e h
        refine mw_callVi X (c_X8_holder l E hA hv7) pk_X8_holder pv_X8_holder wm_245 ⟨Nat.le_of_ble_eq_true rfl, Nat.le_of_ble_eq_true rfl⟩ ⟨rfl, rfl⟩ hP hS ix_28 rfl rfl rfl rfl hl.1 (Nat.le_of_ble_eq_true rfl) ⟨Nat.zero_le _, Nat.zero_le _⟩ rfl dX8_write_34 (fun H locs hP hS => ?_)
        refine lv_istore (lv' := [(4, .int v7), (0, .ref (E.2.2 11 28)), (1, .int a1), (2, .int a2), (3, .int a3)]) hx hb dX8_write_37 hl (by decide) rfl (fun ls hl => ?_)
        refine lv_aload_n hx hb dX8_write_39 rfl (lv_at hl 1 rfl) ?_
        obtain ⟨v8, hv8, h⟩ := bO_e h
        refine mw_callVi X (c_X8_isStopped l E hA hv8) pk_X8_isStopped pv_X8_isStopped wm_186 ⟨Nat.le_of_ble_eq_true rfl, Nat.le_of_ble_eq_true rfl⟩ ⟨rfl, rfl⟩ hP hS ix_28 rfl rfl rfl rfl hl.1 (Nat.le_of_ble_eq_true rfl) ⟨Nat.zero_le _, Nat.zero_le _⟩ rfl dX8_write_40 (fun H locs hP hS => ?_)
        refine lv_if_ne (tgt := 65) hx hb dX8_write_43 (by decide) (fun c9 => ?_) (fun c9 => ?_)
        · have h := br_0 h c9
          refine lv_ldc hx hb X.1.2.2.2.1 (X.1.2.2.2.2 _ wm_180) dX8_write_65 ?_
          have h := Option.some.inj h
          exact mw_iret X hr hlocks hP hS (congrArg Prod.fst h) (congrArg Prod.snd h) dX8_write_67
        · have h := br_1 h c9
          refine lv_aload_n hx hb dX8_write_46 rfl (lv_at hl 1 rfl) ?_
          refine lv_iload_n hx hb dX8_write_47 rfl (lv_at hl 2 rfl) ?_
          obtain ⟨v10, hv10, h⟩ := bO_e h
          refine mw_callVi X (c_X8_isOpen l E hA hv10) pk_X8_isOpen pv_X8_isOpen wm_190 ⟨Nat.le_of_ble_eq_true rfl, Nat.le_of_ble_eq_true rfl⟩ ⟨rfl, rfl⟩ hP hS ix_28 rfl rfl rfl rfl hl.1 (Nat.le_of_ble_eq_true rfl) ⟨Nat.zero_le _, Nat.zero_le _⟩ rfl dX8_write_48 (fun H locs hP hS => ?_)
          refine lv_if_eq (tgt := 65) hx hb dX8_write_51 (by decide) (fun c11 => ?_) (fun c11 => ?_)
          · have h := br_1 h c11
            refine lv_ldc hx hb X.1.2.2.2.1 (X.1.2.2.2.2 _ wm_180) dX8_write_65 ?_
            have h := Option.some.inj h
            exact mw_iret X hr hlocks hP hS (congrArg Prod.fst h) (congrArg Prod.snd h) dX8_write_67
          · have h := br_0 h c11
            refine lv_iload hx hb dX8_write_54 (lv_at hl 0 rfl) ?_
            refine lv_if_lt (tgt := 68) hx hb dX8_write_56 (by decide) (fun c12 => ?_) (fun c12 => ?_)
            · have h := br_1 h c12
              exact w_L68 _ _ _ _ _ _ _ h hP hS (lv_sub hl [1, 2, 3, 4] rfl)
            · have h := br_0 h c12
              refine lv_iload hx hb dX8_write_59 (lv_at hl 0 rfl) ?_
              refine lv_iload_n hx hb dX8_write_61 rfl (lv_at hl 2 rfl) ?_
              refine lv_icmp_eq (tgt := 68) hx hb dX8_write_62 (by decide) (fun c27 => ?_) (fun c27 => ?_)
              · have h := br_1 h c27
                exact w_L68 _ _ _ _ _ _ _ h hP hS (lv_sub hl [1, 2, 3, 4] rfl)
              · have h := br_0 h c27
                refine lv_ldc hx hb X.1.2.2.2.1 (X.1.2.2.2.2 _ wm_180) dX8_write_65 ?_
                have h := Option.some.inj h
                exact mw_iret X hr hlocks hP hS (congrArg Prod.fst h) (congrArg Prod.snd h) dX8_write_67
      · have h := br_1 h c6
        refine lv_ldc hx hb X.1.2.2.2.1 (X.1.2.2.2.2 _ wm_179) dX8_write_29 ?_
        have h := Option.some.inj h
        exact mw_iret X hr hlocks hP hS (congrArg Prod.fst h) (congrArg Prod.snd h) dX8_write_31
/-! SealedGroupsModel.bits -/
noncomputable def f_X8_bits_L4  (M : Mem) (K4 : Int32 → Int32 → Int32 → Option Int32) (y0 y1 y2 : Int32) : Option Int32 :=
(if (8 : Int32) ≤ y2 then
some y1
else
bd ((y1 + ((y0 >>> (y2 &&& 31)) &&& (1 : Int32)))) (fun x2 =>
bd (y2 + (1 : Int32)) (fun x3 =>
K4 y0 x2 x3)))
noncomputable def f_X8_bits  (M : Mem) (a1 : Int32) : Option Int32 :=
itr (f_X8_bits_L4 M) (fun _ _ _ => none) FU a1 (0 : Int32) (0 : Int32)
theorem pk_X8_bits : Pk "SealedGroupsModel" yX8_bits cX8_bits 3 (some .int) 1 := ⟨wm_318, wm_5, rfl, by decide +kernel⟩
set_option maxHeartbeats 4000000 in
set_option maxRecDepth 100000 in
theorem c_X8_bits (l : Launch) (E : En) (hA : AdOK E) {M : Mem} {a1 : Int32} {r0 : Int32}  (h : f_X8_bits M a1 = some r0) : Met l yX8_bits (Wm yX8_bits cX8_bits 3 (some .int)) ({ frames := 0, cells := 0, slots := 0, locals := 0 } : Room) (va_Pc [Value.int a1] (Wd E M)) (QI E r0 M) 0 0 (AA E) := by
  refine Met.ofW (cc := cX8_bits) (maxL := 3) (ret := (some .int)) (by decide +kernel) rfl ?_
  intro p e s m args below meth c s₁ B hml hv
  obtain ⟨rfl, hP, hK⟩ := hv
  have X : Cx E (AA E) p s m c _ cX8_bits 3 RX8 := ⟨⟨B.exec, B.bytes, hml, findClass_of_methodNamed B.named, fun w hw => atoms_spec (ws := Wm yX8_bits cX8_bits 3 (some .int)) B.pre w (List.mem_cons_of_mem _ hw)⟩, hK, hA, fun _ h => h⟩
  have hx := B.exec
  have hb := B.bytes
  have hr := B.returns
  have hlocks := B.notSynchronized
  clear B hml
  have hS : va_S (AA E) s.heap s.heap [] := va_S.rf
  have hl := lv_entry ([Value.int a1]) (n := 3) (Nat.le_of_ble_eq_true rfl)
  rw [lg_entry_eq]
  generalize (lg_sl ([Value.int a1]) ++ List.replicate (3 - (lg_sl ([Value.int a1])).length) Slot.unset).toArray = ls at hl ⊢
  have hl : lv_has ls 3 [(0, .int a1)] := hl
  have w_L4 : ∀ (n4 : Nat)  (y0 y1 y2 : Int32) (H : Heap) (locs : List Loc) (ls : Array Slot), itr (f_X8_bits_L4 M) (fun _ _ _ => none) n4 y0 y1 y2 = some r0 → va_P E.1 vwCl (wl E M) H → va_S (AA E) s.heap H locs → lv_has ls 3 [(0, .int y0), (1, .int y1), (2, .int y2)] → W p l e (headSpec (Wm yX8_bits cX8_bits 3 (some .int)) ({ frames := 0, cells := 0, slots := 0, locals := 0 } : Room)).room s m ([Value.int a1] : List Value).toArray below meth c H locs 0 0 (MQ below (QI E r0 M) ([Value.int a1] : List Value).toArray s 0 0 (AA E)) (F0 m 4 ls []) := by
    intro n4
    induction n4 with
    | zero => intro y0 y1 y2 H locs ls h; exact (nomatch (show (none : Option Int32) = some _ from h))
    | succ n4 ih4 =>
      intro y0 y1 y2 H locs ls h hP hS hl
      have h : f_X8_bits_L4 M (itr (f_X8_bits_L4 M) (fun _ _ _ => none) n4) y0 y1 y2 = some r0 := h
      unfold f_X8_bits_L4 at h
      refine lv_iload_n hx hb dX8_bits_4 rfl (lv_at hl 2 rfl) ?_
      refine lv_bipush (v := 8) hx hb dX8_bits_5 (by decide) ?_
      refine lv_icmp_ge (tgt := 24) hx hb dX8_bits_7 (by decide) (fun c1 => ?_) (fun c1 => ?_)
      · have h := br_1 h c1
        refine lv_iload_n hx hb dX8_bits_24 rfl (lv_at hl 1 rfl) ?_
        exact mw_iret X hr hlocks hP hS (Option.some.inj h) rfl dX8_bits_25
      · have h := br_0 h c1
        refine lv_iload_n hx hb dX8_bits_10 rfl (lv_at hl 1 rfl) ?_
        refine lv_iload_n hx hb dX8_bits_11 rfl (lv_at hl 0 rfl) ?_
        refine lv_iload_n hx hb dX8_bits_12 rfl (lv_at hl 2 rfl) ?_
        refine lv_ishr hx hb dX8_bits_13 ?_
        refine lv_iconst (v := 1) hx hb dX8_bits_14 (by decide) ?_
        refine lv_iand hx hb dX8_bits_15 ?_
        refine lv_iadd hx hb dX8_bits_16 ?_
        refine lv_topi (fun x2 ex2 => ?_)
        have h := bd_e h ex2
        refine lv_istore_n (lv' := [(1, .int x2), (0, .int y0), (2, .int y2)]) hx hb dX8_bits_17 rfl hl (by decide) rfl (fun ls hl => ?_)
        obtain ⟨x3, ex3⟩ : ∃ y : Int32, y = y2 + (1 : Int32) := ⟨_, rfl⟩
        have h := bd_e h ex3
        refine lv_iinc (v := x3) (lv' := [(2, .int x3), (1, .int x2), (0, .int y0)]) hx hb dX8_bits_18 hl (k := 2) rfl (by rw [ex3]; rfl) (by decide) rfl (fun ls hl => ?_)
        refine lv_goto (tgt := 4) hx hb dX8_bits_21 (by decide) ?_
        exact ih4 _ _ _ _ _ _ h hP hS (lv_sub hl [2, 1, 0] rfl)
  unfold f_X8_bits at h
  refine lv_iconst (v := 0) hx hb dX8_bits_0 (by decide) ?_
  refine lv_istore_n (lv' := [(1, .int (0 : Int32)), (0, .int a1)]) hx hb dX8_bits_1 rfl hl (by decide) rfl (fun ls hl => ?_)
  refine lv_iconst (v := 0) hx hb dX8_bits_2 (by decide) ?_
  refine lv_istore_n (lv' := [(2, .int (0 : Int32)), (1, .int (0 : Int32)), (0, .int a1)]) hx hb dX8_bits_3 rfl hl (by decide) rfl (fun ls hl => ?_)
  exact w_L4 FU _ _ _ _ _ _ h hP hS (lv_sub hl [2, 1, 0] rfl)
/-! SealedGroupsModel.closes -/
noncomputable def f_X8_closes_L2  (K2 : Mem → Int32 → Int32 → Option Mem) (M : Mem) (y1 y2 : Int32) : Option Mem :=
(if (4 : Int32) ≤ y2 then
some M
else
bO (f_X8_putsGroup M y1 y2 (0 : Int32)) (fun M3 =>
bd (y2 + (1 : Int32)) (fun x4 =>
K2 M3 y1 x4)))
noncomputable def f_X8_closes  (M : Mem) (a1 : Int32) : Option Mem :=
itr (f_X8_closes_L2 ) (fun _ _ _ => none) FU M a1 (0 : Int32)
theorem pk_X8_closes : Pk "SealedGroupsModel" yX8_closes cX8_closes 3 none 1 := ⟨wm_322, wm_5, rfl, by decide +kernel⟩
theorem pv_X8_closes : Cond.instanceMethod yX8_closes ∈ wsL_law ∧ Cond.selects "SealedGroupsModel" yX8_closes yX8_closes ∈ wsL_law := ⟨wm_320, wm_321⟩
set_option maxHeartbeats 4000000 in
set_option maxRecDepth 100000 in
theorem c_X8_closes (l : Launch) (E : En) (hA : AdOK E) {M : Mem} {a1 : Int32} {M0 : Mem}  (h : f_X8_closes M a1 = some M0) : Met l yX8_closes (Wm yX8_closes cX8_closes 3 none) ({ frames := 1, cells := 0, slots := 0, locals := 23 } : Room) (va_Pc [Value.ref (E.2.2 11 28), Value.int a1] (Wd E M)) (QV E M0) 0 0 (AA E) := by
  refine Met.ofW (cc := cX8_closes) (maxL := 3) (ret := none) (by decide +kernel) rfl ?_
  intro p e s m args below meth c s₁ B hml hv
  obtain ⟨rfl, hP, hK⟩ := hv
  have X : Cx E (AA E) p s m c _ cX8_closes 3 RX8 := ⟨⟨B.exec, B.bytes, hml, findClass_of_methodNamed B.named, fun w hw => atoms_spec (ws := Wm yX8_closes cX8_closes 3 none) B.pre w (List.mem_cons_of_mem _ hw)⟩, hK, hA, fun _ h => h⟩
  have hx := B.exec
  have hb := B.bytes
  have hr := B.returns
  have hlocks := B.notSynchronized
  clear B hml
  have hS : va_S (AA E) s.heap s.heap [] := va_S.rf
  have hl := lv_entry ([Value.ref (E.2.2 11 28), Value.int a1]) (n := 3) (Nat.le_of_ble_eq_true rfl)
  rw [lg_entry_eq]
  generalize (lg_sl ([Value.ref (E.2.2 11 28), Value.int a1]) ++ List.replicate (3 - (lg_sl ([Value.ref (E.2.2 11 28), Value.int a1])).length) Slot.unset).toArray = ls at hl ⊢
  have hl : lv_has ls 3 [(0, .ref (E.2.2 11 28)), (1, .int a1)] := hl
  have w_L2 : ∀ (n2 : Nat) (M : Mem) (y1 y2 : Int32) (H : Heap) (locs : List Loc) (ls : Array Slot), itr (f_X8_closes_L2 ) (fun _ _ _ => none) n2 M y1 y2 = some M0 → va_P E.1 vwCl (wl E M) H → va_S (AA E) s.heap H locs → lv_has ls 3 [(0, .ref (E.2.2 11 28)), (1, .int y1), (2, .int y2)] → W p l e (headSpec (Wm yX8_closes cX8_closes 3 none) ({ frames := 1, cells := 0, slots := 0, locals := 23 } : Room)).room s m ([Value.ref (E.2.2 11 28), Value.int a1] : List Value).toArray below meth c H locs 0 0 (MQ below (QV E M0) ([Value.ref (E.2.2 11 28), Value.int a1] : List Value).toArray s 0 0 (AA E)) (F0 m 2 ls []) := by
    intro n2
    induction n2 with
    | zero => intro M y1 y2 H locs ls h; exact (nomatch (show (none : Option Mem) = some _ from h))
    | succ n2 ih2 =>
      intro M y1 y2 H locs ls h hP hS hl
      have h : f_X8_closes_L2 (itr (f_X8_closes_L2 ) (fun _ _ _ => none) n2) M y1 y2 = some M0 := h
      unfold f_X8_closes_L2 at h
      refine lv_iload_n hx hb dX8_closes_2 rfl (lv_at hl 2 rfl) ?_
      refine lv_iconst (v := 4) hx hb dX8_closes_3 (by decide) ?_
      refine lv_icmp_ge (tgt := 20) hx hb dX8_closes_4 (by decide) (fun c1 => ?_) (fun c1 => ?_)
      · have h := br_1 h c1
        exact mw_vret X hr hlocks hP hS (Option.some.inj h) dX8_closes_20
      · have h := br_0 h c1
        refine lv_aload_n hx hb dX8_closes_7 rfl (lv_at hl 0 rfl) ?_
        refine lv_iload_n hx hb dX8_closes_8 rfl (lv_at hl 1 rfl) ?_
        refine lv_iload_n hx hb dX8_closes_9 rfl (lv_at hl 2 rfl) ?_
        refine lv_iconst (v := 0) hx hb dX8_closes_10 (by decide) ?_
        obtain ⟨M3, hv2, h⟩ := bO_e h
        refine mw_callVv X (c_X8_putsGroup l E hA hv2) pk_X8_putsGroup pv_X8_putsGroup wm_212 ⟨Nat.le_of_ble_eq_true rfl, Nat.le_of_ble_eq_true rfl⟩ ⟨rfl, rfl⟩ hP hS ix_28 rfl rfl rfl rfl hl.1 (Nat.le_of_ble_eq_true rfl) ⟨Nat.zero_le _, Nat.zero_le _⟩ rfl dX8_closes_11 (fun H locs hP hS => ?_)
        obtain ⟨x4, ex4⟩ : ∃ y : Int32, y = y2 + (1 : Int32) := ⟨_, rfl⟩
        have h := bd_e h ex4
        refine lv_iinc (v := x4) (lv' := [(2, .int x4), (0, .ref (E.2.2 11 28)), (1, .int y1)]) hx hb dX8_closes_14 hl (k := 2) rfl (by rw [ex4]; rfl) (by decide) rfl (fun ls hl => ?_)
        refine lv_goto (tgt := 2) hx hb dX8_closes_17 (by decide) ?_
        exact ih2 _ _ _ _ _ _ h hP hS (lv_sub hl [1, 2, 0] rfl)
  unfold f_X8_closes at h
  refine lv_iconst (v := 0) hx hb dX8_closes_0 (by decide) ?_
  refine lv_istore_n (lv' := [(2, .int (0 : Int32)), (0, .ref (E.2.2 11 28)), (1, .int a1)]) hx hb dX8_closes_1 rfl hl (by decide) rfl (fun ls hl => ?_)
  exact w_L2 FU _ _ _ _ _ _ h hP hS (lv_sub hl [1, 2, 0] rfl)
/-! SealedGroupsModel.settle -/
noncomputable def f_X8_settle  (M : Mem) (a1 : Int32) : Option (Int32 × Mem) :=
bO (f_X8_in M a1 (0 : Int32) (3 : Int32)) (fun v1 =>
(if v1 = 0 then
some ((-1000001 : Int32), M)
else
bO (f_X8_isStopped M) (fun v3 =>
(if v3 = 0 then
bO (f_X8_isOpen M a1) (fun v5 =>
(if v5 = 0 then
some ((-1000002 : Int32), M)
else
(if (M 11 29 1) < (60 : Int32) then
bO (f_X8_changes M) (fun M9 =>
bP (f_X8_adds M9 (2 : Int32) a1 (-1000004 : Int32) (-1000004 : Int32) (-1000004 : Int32) (-1000004 : Int32)) (fun v10 M11 =>
bP (f_X8_forces M11 v10) (fun v12 M13 =>
bO (f_X8_ofGroup M13 a1 (3 : Int32)) (fun v14 =>
bO (f_X8_bits M13 v14) (fun v15 =>
bO (f_X8_closes M13 a1) (fun M17 =>
some (v15, M17)))))))
else
some ((-1000003 : Int32), M))))
else
some ((-1000002 : Int32), M)))))
theorem pk_X8_settle : Pk "SealedGroupsModel" yX8_settle cX8_settle 3 (some .int) 1 := ⟨wm_311, wm_5, rfl, by decide +kernel⟩
theorem pv_X8_settle : Cond.instanceMethod yX8_settle ∈ wsL_law ∧ Cond.selects "SealedGroupsModel" yX8_settle yX8_settle ∈ wsL_law := ⟨wm_309, wm_310⟩
set_option maxHeartbeats 4000000 in
set_option maxRecDepth 100000 in
theorem c_X8_settle (l : Launch) (E : En) (hA : AdOK E) {M : Mem} {a1 : Int32} {r0 : Int32} {M0 : Mem}  (h : f_X8_settle M a1 = some (r0, M0)) : Met l yX8_settle (Wm yX8_settle cX8_settle 3 (some .int)) ({ frames := 2, cells := 0, slots := 0, locals := 48 } : Room) (va_Pc [Value.ref (E.2.2 11 28), Value.int a1] (Wd E M)) (QI E r0 M0) 0 0 (AA E) := by
  refine Met.ofW (cc := cX8_settle) (maxL := 3) (ret := (some .int)) (by decide +kernel) rfl ?_
  intro p e s m args below meth c s₁ B hml hv
  obtain ⟨rfl, hP, hK⟩ := hv
  have X : Cx E (AA E) p s m c _ cX8_settle 3 RX8 := ⟨⟨B.exec, B.bytes, hml, findClass_of_methodNamed B.named, fun w hw => atoms_spec (ws := Wm yX8_settle cX8_settle 3 (some .int)) B.pre w (List.mem_cons_of_mem _ hw)⟩, hK, hA, fun _ h => h⟩
  have hx := B.exec
  have hb := B.bytes
  have hr := B.returns
  have hlocks := B.notSynchronized
  clear B hml
  have hS : va_S (AA E) s.heap s.heap [] := va_S.rf
  have hl := lv_entry ([Value.ref (E.2.2 11 28), Value.int a1]) (n := 3) (Nat.le_of_ble_eq_true rfl)
  rw [lg_entry_eq]
  generalize (lg_sl ([Value.ref (E.2.2 11 28), Value.int a1]) ++ List.replicate (3 - (lg_sl ([Value.ref (E.2.2 11 28), Value.int a1])).length) Slot.unset).toArray = ls at hl ⊢
  have hl : lv_has ls 3 [(0, .ref (E.2.2 11 28)), (1, .int a1)] := hl
  unfold f_X8_settle at h
  refine lv_iload_n hx hb dX8_settle_0 rfl (lv_at hl 1 rfl) ?_
  refine lv_iconst (v := 0) hx hb dX8_settle_1 (by decide) ?_
  refine lv_iconst (v := 3) hx hb dX8_settle_2 (by decide) ?_
  obtain ⟨v1, hv1, h⟩ := bO_e h
  refine mw_callSi X (c_X8_in l E hA hv1) pk_X8_in wm_184 wm_183 ⟨Nat.le_of_ble_eq_true rfl, Nat.le_of_ble_eq_true rfl⟩ ⟨rfl, rfl⟩ hP hS rfl hl.1 (Nat.le_of_ble_eq_true rfl) ⟨Nat.zero_le _, Nat.zero_le _⟩ rfl dX8_settle_3 (fun H locs hP hS => ?_)
  refine lv_if_ne (tgt := 12) hx hb dX8_settle_6 (by decide) (fun c2 => ?_) (fun c2 => ?_)
  · have h := br_0 h c2
    refine lv_aload_n hx hb dX8_settle_12 rfl (lv_at hl 0 rfl) ?_
    obtain ⟨v3, hv3, h⟩ := bO_e h
    refine mw_callVi X (c_X8_isStopped l E hA hv3) pk_X8_isStopped pv_X8_isStopped wm_186 ⟨Nat.le_of_ble_eq_true rfl, Nat.le_of_ble_eq_true rfl⟩ ⟨rfl, rfl⟩ hP hS ix_28 rfl rfl rfl rfl hl.1 (Nat.le_of_ble_eq_true rfl) ⟨Nat.zero_le _, Nat.zero_le _⟩ rfl dX8_settle_13 (fun H locs hP hS => ?_)
    refine lv_if_ne (tgt := 27) hx hb dX8_settle_16 (by decide) (fun c4 => ?_) (fun c4 => ?_)
    · have h := br_0 h c4
      refine lv_ldc hx hb X.1.2.2.2.1 (X.1.2.2.2.2 _ wm_180) dX8_settle_27 ?_
      have h := Option.some.inj h
      exact mw_iret X hr hlocks hP hS (congrArg Prod.fst h) (congrArg Prod.snd h) dX8_settle_29
    · have h := br_1 h c4
      refine lv_aload_n hx hb dX8_settle_19 rfl (lv_at hl 0 rfl) ?_
      refine lv_iload_n hx hb dX8_settle_20 rfl (lv_at hl 1 rfl) ?_
      obtain ⟨v5, hv5, h⟩ := bO_e h
      refine mw_callVi X (c_X8_isOpen l E hA hv5) pk_X8_isOpen pv_X8_isOpen wm_190 ⟨Nat.le_of_ble_eq_true rfl, Nat.le_of_ble_eq_true rfl⟩ ⟨rfl, rfl⟩ hP hS ix_28 rfl rfl rfl rfl hl.1 (Nat.le_of_ble_eq_true rfl) ⟨Nat.zero_le _, Nat.zero_le _⟩ rfl dX8_settle_21 (fun H locs hP hS => ?_)
      refine lv_if_ne (tgt := 30) hx hb dX8_settle_24 (by decide) (fun c6 => ?_) (fun c6 => ?_)
      · have h := br_0 h c6
        refine lv_aload_n hx hb dX8_settle_30 rfl (lv_at hl 0 rfl) ?_
        refine gt_8_0 X wm_90 hP ix_28 dX8_settle_31 ?_
        refine lv_iconst (v := 1) hx hb dX8_settle_34 (by decide) ?_
        refine mw_ld X hP ix_29 rfl (v := (M 11 29 1)) (inb_vp (by decide)) rfl dX8_settle_35 ?_
        refine lv_bipush (v := 60) hx hb dX8_settle_36 (by decide) ?_
        refine lv_icmp_lt (tgt := 44) hx hb dX8_settle_38 (by decide) (fun c7 => ?_) (fun c7 => ?_)
        · have h := br_1 h c7
          refine lv_aload_n hx hb dX8_settle_44 rfl (lv_at hl 0 rfl) ?_
          obtain ⟨M9, hv8, h⟩ := bO_e h
          refine mw_callVv X (c_X8_changes l E hA hv8) pk_X8_changes pv_X8_changes wm_198 ⟨Nat.le_of_ble_eq_true rfl, Nat.le_of_ble_eq_true rfl⟩ ⟨rfl, rfl⟩ hP hS ix_28 rfl rfl rfl rfl hl.1 (Nat.le_of_ble_eq_true rfl) ⟨Nat.zero_le _, Nat.zero_le _⟩ rfl dX8_settle_45 (fun H locs hP hS => ?_)
          refine lv_aload_n hx hb dX8_settle_48 rfl (lv_at hl 0 rfl) ?_
          refine lv_aload_n hx hb dX8_settle_49 rfl (lv_at hl 0 rfl) ?_
          refine lv_iconst (v := 2) hx hb dX8_settle_50 (by decide) ?_
          refine lv_iload_n hx hb dX8_settle_51 rfl (lv_at hl 1 rfl) ?_
          refine lv_ldc hx hb X.1.2.2.2.1 (X.1.2.2.2.2 _ wm_182) dX8_settle_52 ?_
          refine lv_ldc hx hb X.1.2.2.2.1 (X.1.2.2.2.2 _ wm_182) dX8_settle_54 ?_
          refine lv_ldc hx hb X.1.2.2.2.1 (X.1.2.2.2.2 _ wm_182) dX8_settle_56 ?_
          refine lv_ldc hx hb X.1.2.2.2.1 (X.1.2.2.2.2 _ wm_182) dX8_settle_58 ?_
          obtain ⟨v10, M11, hv10, h⟩ := bP_e h
          refine mw_callVi X (c_X8_adds l E hA hv10) pk_X8_adds pv_X8_adds wm_204 ⟨Nat.le_of_ble_eq_true rfl, Nat.le_of_ble_eq_true rfl⟩ ⟨rfl, rfl⟩ hP hS ix_28 rfl rfl rfl rfl hl.1 (Nat.le_of_ble_eq_true rfl) ⟨Nat.zero_le _, Nat.zero_le _⟩ rfl dX8_settle_60 (fun H locs hP hS => ?_)
          obtain ⟨v12, M13, hv12, h⟩ := bP_e h
          refine mw_callVi X (c_X8_forces l E hA hv12) pk_X8_forces pv_X8_forces wm_312 ⟨Nat.le_of_ble_eq_true rfl, Nat.le_of_ble_eq_true rfl⟩ ⟨rfl, rfl⟩ hP hS ix_28 rfl rfl rfl rfl hl.1 (Nat.le_of_ble_eq_true rfl) ⟨Nat.zero_le _, Nat.zero_le _⟩ rfl dX8_settle_63 (fun H locs hP hS => ?_)
          refine lv_pop hx hb dX8_settle_66 rfl ?_
          refine lv_aload_n hx hb dX8_settle_67 rfl (lv_at hl 0 rfl) ?_
          refine lv_iload_n hx hb dX8_settle_68 rfl (lv_at hl 1 rfl) ?_
          refine lv_iconst (v := 3) hx hb dX8_settle_69 (by decide) ?_
          obtain ⟨v14, hv14, h⟩ := bO_e h
          refine mw_callVi X (c_X8_ofGroup l E hA hv14) pk_X8_ofGroup pv_X8_ofGroup wm_194 ⟨Nat.le_of_ble_eq_true rfl, Nat.le_of_ble_eq_true rfl⟩ ⟨rfl, rfl⟩ hP hS ix_28 rfl rfl rfl rfl hl.1 (Nat.le_of_ble_eq_true rfl) ⟨Nat.zero_le _, Nat.zero_le _⟩ rfl dX8_settle_70 (fun H locs hP hS => ?_)
          obtain ⟨v15, hv15, h⟩ := bO_e h
          refine mw_callSi X (c_X8_bits l E hA hv15) pk_X8_bits wm_317 wm_316 ⟨Nat.le_of_ble_eq_true rfl, Nat.le_of_ble_eq_true rfl⟩ ⟨rfl, rfl⟩ hP hS rfl hl.1 (Nat.le_of_ble_eq_true rfl) ⟨Nat.zero_le _, Nat.zero_le _⟩ rfl dX8_settle_73 (fun H locs hP hS => ?_)
          refine lv_istore_n (lv' := [(2, .int v15), (0, .ref (E.2.2 11 28)), (1, .int a1)]) hx hb dX8_settle_76 rfl hl (by decide) rfl (fun ls hl => ?_)
          refine lv_aload_n hx hb dX8_settle_77 rfl (lv_at hl 1 rfl) ?_
          refine lv_iload_n hx hb dX8_settle_78 rfl (lv_at hl 2 rfl) ?_
          obtain ⟨M17, hv16, h⟩ := bO_e h
          refine mw_callVv X (c_X8_closes l E hA hv16) pk_X8_closes pv_X8_closes wm_319 ⟨Nat.le_of_ble_eq_true rfl, Nat.le_of_ble_eq_true rfl⟩ ⟨rfl, rfl⟩ hP hS ix_28 rfl rfl rfl rfl hl.1 (Nat.le_of_ble_eq_true rfl) ⟨Nat.zero_le _, Nat.zero_le _⟩ rfl dX8_settle_79 (fun H locs hP hS => ?_)
          refine lv_iload_n hx hb dX8_settle_82 rfl (lv_at hl 0 rfl) ?_
          have h := Option.some.inj h
          exact mw_iret X hr hlocks hP hS (congrArg Prod.fst h) (congrArg Prod.snd h) dX8_settle_83
        · have h := br_0 h c7
          refine lv_ldc hx hb X.1.2.2.2.1 (X.1.2.2.2.2 _ wm_181) dX8_settle_41 ?_
          have h := Option.some.inj h
          exact mw_iret X hr hlocks hP hS (congrArg Prod.fst h) (congrArg Prod.snd h) dX8_settle_43
      · have h := br_1 h c6
        refine lv_ldc hx hb X.1.2.2.2.1 (X.1.2.2.2.2 _ wm_180) dX8_settle_27 ?_
        have h := Option.some.inj h
        exact mw_iret X hr hlocks hP hS (congrArg Prod.fst h) (congrArg Prod.snd h) dX8_settle_29
  · have h := br_1 h c2
    refine lv_ldc hx hb X.1.2.2.2.1 (X.1.2.2.2.2 _ wm_179) dX8_settle_9 ?_
    have h := Option.some.inj h
    exact mw_iret X hr hlocks hP hS (congrArg Prod.fst h) (congrArg Prod.snd h) dX8_settle_11
/-! SealedGroupsModel.isTakenBack -/
noncomputable def f_X8_isTakenBack_L46  (M : Mem) (K9 : Int32 → Int32 → Int32 → Option Int32) (y1 y3 z0 : Int32) : Option Int32 :=
bd (y3 + (1 : Int32)) (fun x6 =>
K9 y1 z0 x6)
noncomputable def f_X8_isTakenBack_L41  (M : Mem) (K9 : Int32 → Int32 → Int32 → Option Int32) (y1 y3 : Int32) : Option Int32 :=
f_X8_isTakenBack_L46 M K9 y1 y3 (1 : Int32)
noncomputable def f_X8_isTakenBack_L45  (M : Mem) (K9 : Int32 → Int32 → Int32 → Option Int32) (y1 y3 : Int32) : Option Int32 :=
f_X8_isTakenBack_L46 M K9 y1 y3 (0 : Int32)
noncomputable def f_X8_isTakenBack_L9  (M : Mem) (K9 : Int32 → Int32 → Int32 → Option Int32) (y1 y2 y3 : Int32) : Option Int32 :=
bO (f_X8_last M) (fun v2 =>
(if v2 < y3 then
gd (isB y2) (some y2)
else
(if y2 = 0 then
bO (f_X8_of M y3 (0 : Int32)) (fun v7 =>
(if v7 = (3 : Int32) then
bO (f_X8_of M y3 (5 : Int32)) (fun v9 =>
(if v9 = y1 then
f_X8_isTakenBack_L41 M K9 y1 y3
else
f_X8_isTakenBack_L45 M K9 y1 y3))
else
f_X8_isTakenBack_L45 M K9 y1 y3))
else
f_X8_isTakenBack_L41 M K9 y1 y3)))
noncomputable def f_X8_isTakenBack  (M : Mem) (a1 : Int32) : Option Int32 :=
bd ((M 11 29 0)) (fun x1 =>
itr (f_X8_isTakenBack_L9 M) (fun _ _ _ => none) FU a1 (0 : Int32) x1)
theorem pk_X8_isTakenBack : Pk "SealedGroupsModel" yX8_isTakenBack cX8_isTakenBack 4 (some .boolean) 1 := ⟨wm_370, wm_5, rfl, by decide +kernel⟩
theorem pv_X8_isTakenBack : Cond.instanceMethod yX8_isTakenBack ∈ wsL_law ∧ Cond.selects "SealedGroupsModel" yX8_isTakenBack yX8_isTakenBack ∈ wsL_law := ⟨wm_368, wm_369⟩
set_option maxHeartbeats 4000000 in
set_option maxRecDepth 100000 in
theorem c_X8_isTakenBack (l : Launch) (E : En) (hA : AdOK E) {M : Mem} {a1 : Int32} {r0 : Int32}  (h : f_X8_isTakenBack M a1 = some r0) : Met l yX8_isTakenBack (Wm yX8_isTakenBack cX8_isTakenBack 4 (some .boolean)) ({ frames := 1, cells := 0, slots := 0, locals := 22 } : Room) (va_Pc [Value.ref (E.2.2 11 28), Value.int a1] (Wd E M)) (QI E r0 M) 0 0 (AA E) := by
  refine Met.ofW (cc := cX8_isTakenBack) (maxL := 4) (ret := (some .boolean)) (by decide +kernel) rfl ?_
  intro p e s m args below meth c s₁ B hml hv
  obtain ⟨rfl, hP, hK⟩ := hv
  have X : Cx E (AA E) p s m c _ cX8_isTakenBack 4 RX8 := ⟨⟨B.exec, B.bytes, hml, findClass_of_methodNamed B.named, fun w hw => atoms_spec (ws := Wm yX8_isTakenBack cX8_isTakenBack 4 (some .boolean)) B.pre w (List.mem_cons_of_mem _ hw)⟩, hK, hA, fun _ h => h⟩
  have hx := B.exec
  have hb := B.bytes
  have hr := B.returns
  have hlocks := B.notSynchronized
  clear B hml
  have hS : va_S (AA E) s.heap s.heap [] := va_S.rf
  have hl := lv_entry ([Value.ref (E.2.2 11 28), Value.int a1]) (n := 4) (Nat.le_of_ble_eq_true rfl)
  rw [lg_entry_eq]
  generalize (lg_sl ([Value.ref (E.2.2 11 28), Value.int a1]) ++ List.replicate (4 - (lg_sl ([Value.ref (E.2.2 11 28), Value.int a1])).length) Slot.unset).toArray = ls at hl ⊢
  have hl : lv_has ls 4 [(0, .ref (E.2.2 11 28)), (1, .int a1)] := hl
  have w_L9 : ∀ (n9 : Nat)  (y1 y2 y3 : Int32) (H : Heap) (locs : List Loc) (ls : Array Slot), itr (f_X8_isTakenBack_L9 M) (fun _ _ _ => none) n9 y1 y2 y3 = some r0 → va_P E.1 vwCl (wl E M) H → va_S (AA E) s.heap H locs → lv_has ls 4 [(0, .ref (E.2.2 11 28)), (1, .int y1), (2, .int y2), (3, .int y3)] → W p l e (headSpec (Wm yX8_isTakenBack cX8_isTakenBack 4 (some .boolean)) ({ frames := 1, cells := 0, slots := 0, locals := 22 } : Room)).room s m ([Value.ref (E.2.2 11 28), Value.int a1] : List Value).toArray below meth c H locs 0 0 (MQ below (QI E r0 M) ([Value.ref (E.2.2 11 28), Value.int a1] : List Value).toArray s 0 0 (AA E)) (F0 m 9 ls []) := by
    intro n9
    induction n9 with
    | zero => intro y1 y2 y3 H locs ls h; exact (nomatch (show (none : Option Int32) = some _ from h))
    | succ n9 ih9 =>
      intro y1 y2 y3 H locs ls h hP hS hl
      have h : f_X8_isTakenBack_L9 M (itr (f_X8_isTakenBack_L9 M) (fun _ _ _ => none) n9) y1 y2 y3 = some r0 := h
      have w_L46 : ∀  (y1 y3 z0 : Int32) (H : Heap) (locs : List Loc) (ls : Array Slot), f_X8_isTakenBack_L46 M (itr (f_X8_isTakenBack_L9 M) (fun _ _ _ => none) n9) y1 y3 z0 = some r0 → va_P E.1 vwCl (wl E M) H → va_S (AA E) s.heap H locs → lv_has ls 4 [(0, .ref (E.2.2 11 28)), (1, .int y1), (3, .int y3)] → W p l e (headSpec (Wm yX8_isTakenBack cX8_isTakenBack 4 (some .boolean)) ({ frames := 1, cells := 0, slots := 0, locals := 22 } : Room)).room s m ([Value.ref (E.2.2 11 28), Value.int a1] : List Value).toArray below meth c H locs 0 0 (MQ below (QI E r0 M) ([Value.ref (E.2.2 11 28), Value.int a1] : List Value).toArray s 0 0 (AA E)) (F0 m 46 ls [.int z0]) := by
        intro y1 y3 z0 H locs ls h hP hS hl
        unfold f_X8_isTakenBack_L46 at h
        refine lv_istore_n (lv' := [(2, .int z0), (0, .ref (E.2.2 11 28)), (1, .int y1), (3, .int y3)]) hx hb dX8_isTakenBack_46 rfl hl (by decide) rfl (fun ls hl => ?_)
        obtain ⟨x6, ex6⟩ : ∃ y : Int32, y = y3 + (1 : Int32) := ⟨_, rfl⟩
        have h := bd_e h ex6
        refine lv_iinc (v := x6) (lv' := [(3, .int x6), (2, .int z0), (0, .ref (E.2.2 11 28)), (1, .int y1)]) hx hb dX8_isTakenBack_47 hl (k := 3) rfl (by rw [ex6]; rfl) (by decide) rfl (fun ls hl => ?_)
        refine lv_goto (tgt := 9) hx hb dX8_isTakenBack_50 (by decide) ?_
        exact ih9 _ _ _ _ _ _ h hP hS (lv_sub hl [2, 3, 1, 0] rfl)
      have w_L41 : ∀  (y1 y3 : Int32) (H : Heap) (locs : List Loc) (ls : Array Slot), f_X8_isTakenBack_L41 M (itr (f_X8_isTakenBack_L9 M) (fun _ _ _ => none) n9) y1 y3 = some r0 → va_P E.1 vwCl (wl E M) H → va_S (AA E) s.heap H locs → lv_has ls 4 [(0, .ref (E.2.2 11 28)), (1, .int y1), (3, .int y3)] → W p l e (headSpec (Wm yX8_isTakenBack cX8_isTakenBack 4 (some .boolean)) ({ frames := 1, cells := 0, slots := 0, locals := 22 } : Room)).room s m ([Value.ref (E.2.2 11 28), Value.int a1] : List Value).toArray below meth c H locs 0 0 (MQ below (QI E r0 M) ([Value.ref (E.2.2 11 28), Value.int a1] : List Value).toArray s 0 0 (AA E)) (F0 m 41 ls []) := by
        intro y1 y3 H locs ls h hP hS hl
        unfold f_X8_isTakenBack_L41 at h
        refine lv_iconst (v := 1) hx hb dX8_isTakenBack_41 (by decide) ?_
        refine lv_goto (tgt := 46) hx hb dX8_isTakenBack_42 (by decide) ?_
        exact w_L46 _ _ _ _ _ _ h hP hS (lv_sub hl [0, 1, 2] rfl)
      have w_L45 : ∀  (y1 y3 : Int32) (H : Heap) (locs : List Loc) (ls : Array Slot), f_X8_isTakenBack_L45 M (itr (f_X8_isTakenBack_L9 M) (fun _ _ _ => none) n9) y1 y3 = some r0 → va_P E.1 vwCl (wl E M) H → va_S (AA E) s.heap H locs → lv_has ls 4 [(0, .ref (E.2.2 11 28)), (1, .int y1), (3, .int y3)] → W p l e (headSpec (Wm yX8_isTakenBack cX8_isTakenBack 4 (some .boolean)) ({ frames := 1, cells := 0, slots := 0, locals := 22 } : Room)).room s m ([Value.ref (E.2.2 11 28), Value.int a1] : List Value).toArray below meth c H locs 0 0 (MQ below (QI E r0 M) ([Value.ref (E.2.2 11 28), Value.int a1] : List Value).toArray s 0 0 (AA E)) (F0 m 45 ls []) := by
        intro y1 y3 H locs ls h hP hS hl
        unfold f_X8_isTakenBack_L45 at h
        refine lv_iconst (v := 0) hx hb dX8_isTakenBack_45 (by decide) ?_
        exact w_L46 _ _ _ _ _ _ h hP hS (lv_sub hl [0, 1, 2] rfl)
      unfold f_X8_isTakenBack_L9 at h
      refine lv_iload_n hx hb dX8_isTakenBack_9 rfl (lv_at hl 3 rfl) ?_
      refine lv_aload_n hx hb dX8_isTakenBack_10 rfl (lv_at hl 0 rfl) ?_
      obtain ⟨v2, hv2, h⟩ := bO_e h
      refine mw_callVi X (c_X8_last l E hA hv2) pk_X8_last pv_X8_last wm_208 ⟨Nat.le_of_ble_eq_true rfl, Nat.le_of_ble_eq_true rfl⟩ ⟨rfl, rfl⟩ hP hS ix_28 rfl rfl rfl rfl hl.1 (Nat.le_of_ble_eq_true rfl) ⟨Nat.zero_le _, Nat.zero_le _⟩ rfl dX8_isTakenBack_11 (fun H locs hP hS => ?_)
      refine lv_icmp_gt (tgt := 53) hx hb dX8_isTakenBack_14 (by decide) (fun c3 => ?_) (fun c3 => ?_)
      · have h := br_1 h c3
        refine lv_iload_n hx hb dX8_isTakenBack_53 rfl (lv_at hl 2 rfl) ?_
        obtain ⟨g4, h⟩ := gd_e h
        exact mw_zret X hr hlocks hP hS g4 (Option.some.inj h) rfl dX8_isTakenBack_54
      · have h := br_0 h c3
        refine lv_iload_n hx hb dX8_isTakenBack_17 rfl (lv_at hl 2 rfl) ?_
        refine lv_if_ne (tgt := 41) hx hb dX8_isTakenBack_18 (by decide) (fun c5 => ?_) (fun c5 => ?_)
        · have h := br_0 h c5
          exact w_L41 _ _ _ _ _ h hP hS (lv_sub hl [0, 1, 3] rfl)
        · have h := br_1 h c5
          refine lv_aload_n hx hb dX8_isTakenBack_21 rfl (lv_at hl 0 rfl) ?_
          refine lv_iload_n hx hb dX8_isTakenBack_22 rfl (lv_at hl 3 rfl) ?_
          refine lv_iconst (v := 0) hx hb dX8_isTakenBack_23 (by decide) ?_
          obtain ⟨v7, hv7, h⟩ := bO_e h
          refine mw_callVi X (c_X8_of l E hA hv7) pk_X8_of pv_X8_of wm_363 ⟨Nat.le_of_ble_eq_true rfl, Nat.le_of_ble_eq_true rfl⟩ ⟨rfl, rfl⟩ hP hS ix_28 rfl rfl rfl rfl hl.1 (Nat.le_of_ble_eq_true rfl) ⟨Nat.zero_le _, Nat.zero_le _⟩ rfl dX8_isTakenBack_24 (fun H locs hP hS => ?_)
          refine lv_iconst (v := 3) hx hb dX8_isTakenBack_27 (by decide) ?_
          refine lv_icmp_ne (tgt := 45) hx hb dX8_isTakenBack_28 (by decide) (fun c8 => ?_) (fun c8 => ?_)
          · have h := br_0 h c8
            exact w_L45 _ _ _ _ _ h hP hS (lv_sub hl [0, 1, 3] rfl)
          · have h := br_1 h c8
            refine lv_aload_n hx hb dX8_isTakenBack_31 rfl (lv_at hl 0 rfl) ?_
            refine lv_iload_n hx hb dX8_isTakenBack_32 rfl (lv_at hl 3 rfl) ?_
            refine lv_iconst (v := 5) hx hb dX8_isTakenBack_33 (by decide) ?_
            obtain ⟨v9, hv9, h⟩ := bO_e h
            refine mw_callVi X (c_X8_of l E hA hv9) pk_X8_of pv_X8_of wm_363 ⟨Nat.le_of_ble_eq_true rfl, Nat.le_of_ble_eq_true rfl⟩ ⟨rfl, rfl⟩ hP hS ix_28 rfl rfl rfl rfl hl.1 (Nat.le_of_ble_eq_true rfl) ⟨Nat.zero_le _, Nat.zero_le _⟩ rfl dX8_isTakenBack_34 (fun H locs hP hS => ?_)
            refine lv_iload_n hx hb dX8_isTakenBack_37 rfl (lv_at hl 1 rfl) ?_
            refine lv_icmp_ne (tgt := 45) hx hb dX8_isTakenBack_38 (by decide) (fun c10 => ?_) (fun c10 => ?_)
            · have h := br_0 h c10
              exact w_L45 _ _ _ _ _ h hP hS (lv_sub hl [0, 1, 3] rfl)
            · have h := br_1 h c10
              exact w_L41 _ _ _ _ _ h hP hS (lv_sub hl [0, 1, 3] rfl)
  unfold f_X8_isTakenBack at h
  refine lv_iconst (v := 0) hx hb dX8_isTakenBack_0 (by decide) ?_
  refine lv_istore_n (lv' := [(2, .int (0 : Int32)), (0, .ref (E.2.2 11 28)), (1, .int a1)]) hx hb dX8_isTakenBack_1 rfl hl (by decide) rfl (fun ls hl => ?_)
  refine lv_aload_n hx hb dX8_isTakenBack_2 rfl (lv_at hl 1 rfl) ?_
  refine gt_8_0 X wm_90 hP ix_28 dX8_isTakenBack_3 ?_
  refine lv_iconst (v := 0) hx hb dX8_isTakenBack_6 (by decide) ?_
  refine mw_ld X hP ix_29 rfl (v := (M 11 29 0)) (inb_vp (by decide)) rfl dX8_isTakenBack_7 ?_
  refine lv_topi (fun x1 ex1 => ?_)
  have h := bd_e h ex1
  refine lv_istore_n (lv' := [(3, .int x1), (2, .int (0 : Int32)), (0, .ref (E.2.2 11 28)), (1, .int a1)]) hx hb dX8_isTakenBack_8 rfl hl (by decide) rfl (fun ls hl => ?_)
  exact w_L9 FU _ _ _ _ _ _ h hP hS (lv_sub hl [2, 3, 1, 0] rfl)
/-! SealedGroupsModel.takes -/
noncomputable def f_X8_takes_L166  (K10 : Mem → Int32 → Int32 → Int32 → Option (Int32 × Mem)) (M : Mem) (y2 y3 y4 : Int32) : Option (Int32 × Mem) :=
bd (y4 + (-1 : Int32)) (fun x9 =>
K10 M y2 y3 x9)
noncomputable def f_X8_takes_L103  (K10 : Mem → Int32 → Int32 → Int32 → Option (Int32 × Mem)) (M : Mem) (y2 y3 y4 y5 y6 : Int32) : Option (Int32 × Mem) :=
(if y6 = 0 then
f_X8_takes_L166 K10 M y2 y3 y4
else
bO (f_X8_isTakenBack M y4) (fun v10 =>
(if v10 = 0 then
bO (f_X8_of M y4 (2 : Int32)) (fun v12 =>
bO (f_X8_of M y4 (3 : Int32)) (fun v13 =>
bO (f_X8_value M v12) (fun v14 =>
bO (f_X8_of M y4 (3 : Int32)) (fun v15 =>
bP (f_X8_adds M (3 : Int32) y5 v12 v14 v15 y4) (fun v16 M17 =>
bO (f_X8_comes M17 v12 v13 v16) (fun M19 =>
bd (y3 + (1 : Int32)) (fun x20 =>
f_X8_takes_L166 K10 M19 y2 x20 y4)))))))
else
f_X8_takes_L166 K10 M y2 y3 y4)))
noncomputable def f_X8_takes_L60  (K10 : Mem → Int32 → Int32 → Int32 → Option (Int32 × Mem)) (M : Mem) (y2 y3 y4 y5 z0 : Int32) : Option (Int32 × Mem) :=
(if z0 = 0 then
f_X8_takes_L103 K10 M y2 y3 y4 y5 z0
else
bO (f_X8_of M y4 (0 : Int32)) (fun v21 =>
(if v21 = 0 then
bP (f_X8_adds M (4 : Int32) y5 (-1000004 : Int32) (-1000004 : Int32) (-1000004 : Int32) (-1000004 : Int32)) (fun v23 M24 =>
bd ((y2 - ((1 : Int32) <<< (y5 &&& 31)))) (fun x25 =>
f_X8_takes_L166 K10 M24 x25 y3 y4))
else
f_X8_takes_L103 K10 M y2 y3 y4 y5 z0)))
noncomputable def f_X8_takes_L59  (K10 : Mem → Int32 → Int32 → Int32 → Option (Int32 × Mem)) (M : Mem) (y2 y3 y4 y5 : Int32) : Option (Int32 × Mem) :=
f_X8_takes_L60 K10 M y2 y3 y4 y5 (0 : Int32)
noncomputable def f_X8_takes_L10  (K10 : Mem → Int32 → Int32 → Int32 → Option (Int32 × Mem)) (M : Mem) (y2 y3 y4 : Int32) : Option (Int32 × Mem) :=
(if y4 < (M 11 29 0) then
some (y3, M)
else
(if y2 ≤ 0 then
some (y3, M)
else
bO (f_X8_of M y4 (1 : Int32)) (fun v4 =>
bO (f_X8_of M y4 (0 : Int32)) (fun v5 =>
(if (2 : Int32) ≤ v5 then
f_X8_takes_L59 K10 M y2 y3 y4 v4
else
(if ((y2 >>> (v4 &&& 31)) &&& (1 : Int32)) = (1 : Int32) then
f_X8_takes_L60 K10 M y2 y3 y4 v4 (1 : Int32)
else
f_X8_takes_L59 K10 M y2 y3 y4 v4))))))
noncomputable def f_X8_takes  (M : Mem) (a1 : Int32) : Option (Int32 × Mem) :=
bO (f_X8_last M) (fun v1 =>
itr (f_X8_takes_L10 ) (fun _ _ _ _ => none) FU M a1 (0 : Int32) v1)
theorem pk_X8_takes : Pk "SealedGroupsModel" yX8_takes cX8_takes 8 (some .int) 1 := ⟨wm_362, wm_5, rfl, by decide +kernel⟩
theorem pv_X8_takes : Cond.instanceMethod yX8_takes ∈ wsL_law ∧ Cond.selects "SealedGroupsModel" yX8_takes yX8_takes ∈ wsL_law := ⟨wm_360, wm_361⟩
set_option maxHeartbeats 4000000 in
set_option maxRecDepth 100000 in
theorem c_X8_takes (l : Launch) (E : En) (hA : AdOK E) {M : Mem} {a1 : Int32} {r0 : Int32} {M0 : Mem}  (h : f_X8_takes M a1 = some (r0, M0)) : Met l yX8_takes (Wm yX8_takes cX8_takes 8 (some .int)) ({ frames := 4, cells := 0, slots := 0, locals := 87 } : Room) (va_Pc [Value.ref (E.2.2 11 28), Value.int a1] (Wd E M)) (QI E r0 M0) 0 0 (AA E) := by
  refine Met.ofW (cc := cX8_takes) (maxL := 8) (ret := (some .int)) (by decide +kernel) rfl ?_
  intro p e s m args below meth c s₁ B hml hv
  obtain ⟨rfl, hP, hK⟩ := hv
  have X : Cx E (AA E) p s m c _ cX8_takes 8 RX8 := ⟨⟨B.exec, B.bytes, hml, findClass_of_methodNamed B.named, fun w hw => atoms_spec (ws := Wm yX8_takes cX8_takes 8 (some .int)) B.pre w (List.mem_cons_of_mem _ hw)⟩, hK, hA, fun _ h => h⟩
  have hx := B.exec
  have hb := B.bytes
  have hr := B.returns
  have hlocks := B.notSynchronized
  clear B hml
  have hS : va_S (AA E) s.heap s.heap [] := va_S.rf
  have hl := lv_entry ([Value.ref (E.2.2 11 28), Value.int a1]) (n := 8) (Nat.le_of_ble_eq_true rfl)
  rw [lg_entry_eq]
  generalize (lg_sl ([Value.ref (E.2.2 11 28), Value.int a1]) ++ List.replicate (8 - (lg_sl ([Value.ref (E.2.2 11 28), Value.int a1])).length) Slot.unset).toArray = ls at hl ⊢
  have hl : lv_has ls 8 [(0, .ref (E.2.2 11 28)), (1, .int a1)] := hl
  have w_L10 : ∀ (n10 : Nat) (M : Mem) (y2 y3 y4 : Int32) (H : Heap) (locs : List Loc) (ls : Array Slot), itr (f_X8_takes_L10 ) (fun _ _ _ _ => none) n10 M y2 y3 y4 = some (r0, M0) → va_P E.1 vwCl (wl E M) H → va_S (AA E) s.heap H locs → lv_has ls 8 [(0, .ref (E.2.2 11 28)), (2, .int y2), (3, .int y3), (4, .int y4)] → W p l e (headSpec (Wm yX8_takes cX8_takes 8 (some .int)) ({ frames := 4, cells := 0, slots := 0, locals := 87 } : Room)).room s m ([Value.ref (E.2.2 11 28), Value.int a1] : List Value).toArray below meth c H locs 0 0 (MQ below (QI E r0 M0) ([Value.ref (E.2.2 11 28), Value.int a1] : List Value).toArray s 0 0 (AA E)) (F0 m 10 ls []) := by
    intro n10
    induction n10 with
    | zero => intro M y2 y3 y4 H locs ls h; exact (nomatch (show (none : Option (Int32 × Mem)) = some _ from h))
    | succ n10 ih10 =>
      intro M y2 y3 y4 H locs ls h hP hS hl
      have h : f_X8_takes_L10 (itr (f_X8_takes_L10 ) (fun _ _ _ _ => none) n10) M y2 y3 y4 = some (r0, M0) := h
      have w_L166 : ∀ (M : Mem) (y2 y3 y4 : Int32) (H : Heap) (locs : List Loc) (ls : Array Slot), f_X8_takes_L166 (itr (f_X8_takes_L10 ) (fun _ _ _ _ => none) n10) M y2 y3 y4 = some (r0, M0) → va_P E.1 vwCl (wl E M) H → va_S (AA E) s.heap H locs → lv_has ls 8 [(0, .ref (E.2.2 11 28)), (2, .int y2), (3, .int y3), (4, .int y4)] → W p l e (headSpec (Wm yX8_takes cX8_takes 8 (some .int)) ({ frames := 4, cells := 0, slots := 0, locals := 87 } : Room)).room s m ([Value.ref (E.2.2 11 28), Value.int a1] : List Value).toArray below meth c H locs 0 0 (MQ below (QI E r0 M0) ([Value.ref (E.2.2 11 28), Value.int a1] : List Value).toArray s 0 0 (AA E)) (F0 m 166 ls []) := by
        intro M y2 y3 y4 H locs ls h hP hS hl
        unfold f_X8_takes_L166 at h
        obtain ⟨x9, ex9⟩ : ∃ y : Int32, y = y4 + (-1 : Int32) := ⟨_, rfl⟩
        have h := bd_e h ex9
        refine lv_iinc (v := x9) (lv' := [(4, .int x9), (0, .ref (E.2.2 11 28)), (2, .int y2), (3, .int y3)]) hx hb dX8_takes_166 hl (k := 3) rfl (by rw [ex9]; rfl) (by decide) rfl (fun ls hl => ?_)
        refine lv_goto (tgt := 10) hx hb dX8_takes_169 (by decide) ?_
        exact ih10 _ _ _ _ _ _ _ h hP hS (lv_sub hl [1, 2, 3, 0] rfl)
      have w_L103 : ∀ (M : Mem) (y2 y3 y4 y5 y6 : Int32) (H : Heap) (locs : List Loc) (ls : Array Slot), f_X8_takes_L103 (itr (f_X8_takes_L10 ) (fun _ _ _ _ => none) n10) M y2 y3 y4 y5 y6 = some (r0, M0) → va_P E.1 vwCl (wl E M) H → va_S (AA E) s.heap H locs → lv_has ls 8 [(0, .ref (E.2.2 11 28)), (2, .int y2), (3, .int y3), (4, .int y4), (5, .int y5), (6, .int y6)] → W p l e (headSpec (Wm yX8_takes cX8_takes 8 (some .int)) ({ frames := 4, cells := 0, slots := 0, locals := 87 } : Room)).room s m ([Value.ref (E.2.2 11 28), Value.int a1] : List Value).toArray below meth c H locs 0 0 (MQ below (QI E r0 M0) ([Value.ref (E.2.2 11 28), Value.int a1] : List Value).toArray s 0 0 (AA E)) (F0 m 103 ls []) := by
        intro M y2 y3 y4 y5 y6 H locs ls h hP hS hl
        unfold f_X8_takes_L103 at h
        refine lv_iload hx hb dX8_takes_103 (lv_at hl 5 rfl) ?_
        refine lv_if_eq (tgt := 166) hx hb dX8_takes_105 (by decide) (fun c8 => ?_) (fun c8 => ?_)
        · have h := br_1 h c8
          exact w_L166 _ _ _ _ _ _ _ h hP hS (lv_sub hl [0, 1, 2, 3] rfl)
        · have h := br_0 h c8
          refine lv_aload_n hx hb dX8_takes_108 rfl (lv_at hl 0 rfl) ?_
          refine lv_iload hx hb dX8_takes_109 (lv_at hl 3 rfl) ?_
          obtain ⟨v10, hv10, h⟩ := bO_e h
          refine mw_callVi X (c_X8_isTakenBack l E hA hv10) pk_X8_isTakenBack pv_X8_isTakenBack wm_367 ⟨Nat.le_of_ble_eq_true rfl, Nat.le_of_ble_eq_true rfl⟩ ⟨rfl, rfl⟩ hP hS ix_28 rfl rfl rfl rfl hl.1 (Nat.le_of_ble_eq_true rfl) ⟨Nat.zero_le _, Nat.zero_le _⟩ rfl dX8_takes_111 (fun H locs hP hS => ?_)
          refine lv_if_ne (tgt := 166) hx hb dX8_takes_114 (by decide) (fun c11 => ?_) (fun c11 => ?_)
          · have h := br_0 h c11
            exact w_L166 _ _ _ _ _ _ _ h hP hS (lv_sub hl [0, 1, 2, 3] rfl)
          · have h := br_1 h c11
            refine lv_aload_n hx hb dX8_takes_117 rfl (lv_at hl 0 rfl) ?_
            refine lv_iload hx hb dX8_takes_118 (lv_at hl 3 rfl) ?_
            refine lv_iconst (v := 2) hx hb dX8_takes_120 (by decide) ?_
            obtain ⟨v12, hv12, h⟩ := bO_e h
            refine mw_callVi X (c_X8_of l E hA hv12) pk_X8_of pv_X8_of wm_363 ⟨Nat.le_of_ble_eq_true rfl, Nat.le_of_ble_eq_true rfl⟩ ⟨rfl, rfl⟩ hP hS ix_28 rfl rfl rfl rfl hl.1 (Nat.le_of_ble_eq_true rfl) ⟨Nat.zero_le _, Nat.zero_le _⟩ rfl dX8_takes_121 (fun H locs hP hS => ?_)
            refine lv_istore (lv' := [(7, .int v12), (0, .ref (E.2.2 11 28)), (2, .int y2), (3, .int y3), (4, .int y4), (5, .int y5), (6, .int y6)]) hx hb dX8_takes_124 hl (by decide) rfl (fun ls hl => ?_)
            refine lv_aload_n hx hb dX8_takes_126 rfl (lv_at hl 1 rfl) ?_
            refine lv_iload hx hb dX8_takes_127 (lv_at hl 0 rfl) ?_
            refine lv_aload_n hx hb dX8_takes_129 rfl (lv_at hl 1 rfl) ?_
            refine lv_iload hx hb dX8_takes_130 (lv_at hl 4 rfl) ?_
            refine lv_iconst (v := 3) hx hb dX8_takes_132 (by decide) ?_
            obtain ⟨v13, hv13, h⟩ := bO_e h
            refine mw_callVi X (c_X8_of l E hA hv13) pk_X8_of pv_X8_of wm_363 ⟨Nat.le_of_ble_eq_true rfl, Nat.le_of_ble_eq_true rfl⟩ ⟨rfl, rfl⟩ hP hS ix_28 rfl rfl rfl rfl hl.1 (Nat.le_of_ble_eq_true rfl) ⟨Nat.zero_le _, Nat.zero_le _⟩ rfl dX8_takes_133 (fun H locs hP hS => ?_)
            refine lv_aload_n hx hb dX8_takes_136 rfl (lv_at hl 1 rfl) ?_
            refine lv_iconst (v := 3) hx hb dX8_takes_137 (by decide) ?_
            refine lv_iload hx hb dX8_takes_138 (lv_at hl 5 rfl) ?_
            refine lv_iload hx hb dX8_takes_140 (lv_at hl 0 rfl) ?_
            refine lv_aload_n hx hb dX8_takes_142 rfl (lv_at hl 1 rfl) ?_
            refine lv_iload hx hb dX8_takes_143 (lv_at hl 0 rfl) ?_
            obtain ⟨v14, hv14, h⟩ := bO_e h
            refine mw_callVi X (c_X8_value l E hA hv14) pk_X8_value pv_X8_value wm_249 ⟨Nat.le_of_ble_eq_true rfl, Nat.le_of_ble_eq_true rfl⟩ ⟨rfl, rfl⟩ hP hS ix_28 rfl rfl rfl rfl hl.1 (Nat.le_of_ble_eq_true rfl) ⟨Nat.zero_le _, Nat.zero_le _⟩ rfl dX8_takes_145 (fun H locs hP hS => ?_)
            refine lv_aload_n hx hb dX8_takes_148 rfl (lv_at hl 1 rfl) ?_
            refine lv_iload hx hb dX8_takes_149 (lv_at hl 4 rfl) ?_
            refine lv_iconst (v := 3) hx hb dX8_takes_151 (by decide) ?_
            obtain ⟨v15, hv15, h⟩ := bO_e h
            refine mw_callVi X (c_X8_of l E hA hv15) pk_X8_of pv_X8_of wm_363 ⟨Nat.le_of_ble_eq_true rfl, Nat.le_of_ble_eq_true rfl⟩ ⟨rfl, rfl⟩ hP hS ix_28 rfl rfl rfl rfl hl.1 (Nat.le_of_ble_eq_true rfl) ⟨Nat.zero_le _, Nat.zero_le _⟩ rfl dX8_takes_152 (fun H locs hP hS => ?_)
            refine lv_iload hx hb dX8_takes_155 (lv_at hl 4 rfl) ?_
            obtain ⟨v16, M17, hv16, h⟩ := bP_e h
            refine mw_callVi X (c_X8_adds l E hA hv16) pk_X8_adds pv_X8_adds wm_204 ⟨Nat.le_of_ble_eq_true rfl, Nat.le_of_ble_eq_true rfl⟩ ⟨rfl, rfl⟩ hP hS ix_28 rfl rfl rfl rfl hl.1 (Nat.le_of_ble_eq_true rfl) ⟨Nat.zero_le _, Nat.zero_le _⟩ rfl dX8_takes_157 (fun H locs hP hS => ?_)
            obtain ⟨M19, hv18, h⟩ := bO_e h
            refine mw_callVv X (c_X8_comes l E hA hv18) pk_X8_comes pv_X8_comes wm_257 ⟨Nat.le_of_ble_eq_true rfl, Nat.le_of_ble_eq_true rfl⟩ ⟨rfl, rfl⟩ hP hS ix_28 rfl rfl rfl rfl hl.1 (Nat.le_of_ble_eq_true rfl) ⟨Nat.zero_le _, Nat.zero_le _⟩ rfl dX8_takes_160 (fun H locs hP hS => ?_)
            obtain ⟨x20, ex20⟩ : ∃ y : Int32, y = y3 + (1 : Int32) := ⟨_, rfl⟩
            have h := bd_e h ex20
            refine lv_iinc (v := x20) (lv' := [(3, .int x20), (7, .int v12), (0, .ref (E.2.2 11 28)), (2, .int y2), (4, .int y4), (5, .int y5), (6, .int y6)]) hx hb dX8_takes_163 hl (k := 3) rfl (by rw [ex20]; rfl) (by decide) rfl (fun ls hl => ?_)
            exact w_L166 _ _ _ _ _ _ _ h hP hS (lv_sub hl [2, 3, 0, 4] rfl)
      have w_L60 : ∀ (M : Mem) (y2 y3 y4 y5 z0 : Int32) (H : Heap) (locs : List Loc) (ls : Array Slot), f_X8_takes_L60 (itr (f_X8_takes_L10 ) (fun _ _ _ _ => none) n10) M y2 y3 y4 y5 z0 = some (r0, M0) → va_P E.1 vwCl (wl E M) H → va_S (AA E) s.heap H locs → lv_has ls 8 [(0, .ref (E.2.2 11 28)), (2, .int y2), (3, .int y3), (4, .int y4), (5, .int y5)] → W p l e (headSpec (Wm yX8_takes cX8_takes 8 (some .int)) ({ frames := 4, cells := 0, slots := 0, locals := 87 } : Room)).room s m ([Value.ref (E.2.2 11 28), Value.int a1] : List Value).toArray below meth c H locs 0 0 (MQ below (QI E r0 M0) ([Value.ref (E.2.2 11 28), Value.int a1] : List Value).toArray s 0 0 (AA E)) (F0 m 60 ls [.int z0]) := by
        intro M y2 y3 y4 y5 z0 H locs ls h hP hS hl
        unfold f_X8_takes_L60 at h
        refine lv_istore (lv' := [(6, .int z0), (0, .ref (E.2.2 11 28)), (2, .int y2), (3, .int y3), (4, .int y4), (5, .int y5)]) hx hb dX8_takes_60 hl (by decide) rfl (fun ls hl => ?_)
        refine lv_iload hx hb dX8_takes_62 (lv_at hl 0 rfl) ?_
        refine lv_if_eq (tgt := 103) hx hb dX8_takes_64 (by decide) (fun c7 => ?_) (fun c7 => ?_)
        · have h := br_1 h c7
          exact w_L103 _ _ _ _ _ _ _ _ _ h hP hS (lv_sub hl [1, 2, 3, 4, 5, 0] rfl)
        · have h := br_0 h c7
          refine lv_aload_n hx hb dX8_takes_67 rfl (lv_at hl 1 rfl) ?_
          refine lv_iload hx hb dX8_takes_68 (lv_at hl 4 rfl) ?_
          refine lv_iconst (v := 0) hx hb dX8_takes_70 (by decide) ?_
          obtain ⟨v21, hv21, h⟩ := bO_e h
          refine mw_callVi X (c_X8_of l E hA hv21) pk_X8_of pv_X8_of wm_363 ⟨Nat.le_of_ble_eq_true rfl, Nat.le_of_ble_eq_true rfl⟩ ⟨rfl, rfl⟩ hP hS ix_28 rfl rfl rfl rfl hl.1 (Nat.le_of_ble_eq_true rfl) ⟨Nat.zero_le _, Nat.zero_le _⟩ rfl dX8_takes_71 (fun H locs hP hS => ?_)
          refine lv_if_ne (tgt := 103) hx hb dX8_takes_74 (by decide) (fun c22 => ?_) (fun c22 => ?_)
          · have h := br_0 h c22
            exact w_L103 _ _ _ _ _ _ _ _ _ h hP hS (lv_sub hl [1, 2, 3, 4, 5, 0] rfl)
          · have h := br_1 h c22
            refine lv_aload_n hx hb dX8_takes_77 rfl (lv_at hl 1 rfl) ?_
            refine lv_iconst (v := 4) hx hb dX8_takes_78 (by decide) ?_
            refine lv_iload hx hb dX8_takes_79 (lv_at hl 5 rfl) ?_
            refine lv_ldc hx hb X.1.2.2.2.1 (X.1.2.2.2.2 _ wm_182) dX8_takes_81 ?_
            refine lv_ldc hx hb X.1.2.2.2.1 (X.1.2.2.2.2 _ wm_182) dX8_takes_83 ?_
            refine lv_ldc hx hb X.1.2.2.2.1 (X.1.2.2.2.2 _ wm_182) dX8_takes_85 ?_
            refine lv_ldc hx hb X.1.2.2.2.1 (X.1.2.2.2.2 _ wm_182) dX8_takes_87 ?_
            obtain ⟨v23, M24, hv23, h⟩ := bP_e h
            refine mw_callVi X (c_X8_adds l E hA hv23) pk_X8_adds pv_X8_adds wm_204 ⟨Nat.le_of_ble_eq_true rfl, Nat.le_of_ble_eq_true rfl⟩ ⟨rfl, rfl⟩ hP hS ix_28 rfl rfl rfl rfl hl.1 (Nat.le_of_ble_eq_true rfl) ⟨Nat.zero_le _, Nat.zero_le _⟩ rfl dX8_takes_89 (fun H locs hP hS => ?_)
            refine lv_pop hx hb dX8_takes_92 rfl ?_
            refine lv_iload_n hx hb dX8_takes_93 rfl (lv_at hl 2 rfl) ?_
            refine lv_iconst (v := 1) hx hb dX8_takes_94 (by decide) ?_
            refine lv_iload hx hb dX8_takes_95 (lv_at hl 5 rfl) ?_
            refine lv_ishl hx hb dX8_takes_97 ?_
            refine lv_isub hx hb dX8_takes_98 ?_
            refine lv_topi (fun x25 ex25 => ?_)
            have h := bd_e h ex25
            refine lv_istore_n (lv' := [(2, .int x25), (6, .int z0), (0, .ref (E.2.2 11 28)), (3, .int y3), (4, .int y4), (5, .int y5)]) hx hb dX8_takes_99 rfl hl (by decide) rfl (fun ls hl => ?_)
            refine lv_goto (tgt := 166) hx hb dX8_takes_100 (by decide) ?_
            exact w_L166 _ _ _ _ _ _ _ h hP hS (lv_sub hl [2, 0, 3, 4] rfl)
      have w_L59 : ∀ (M : Mem) (y2 y3 y4 y5 : Int32) (H : Heap) (locs : List Loc) (ls : Array Slot), f_X8_takes_L59 (itr (f_X8_takes_L10 ) (fun _ _ _ _ => none) n10) M y2 y3 y4 y5 = some (r0, M0) → va_P E.1 vwCl (wl E M) H → va_S (AA E) s.heap H locs → lv_has ls 8 [(0, .ref (E.2.2 11 28)), (2, .int y2), (3, .int y3), (4, .int y4), (5, .int y5)] → W p l e (headSpec (Wm yX8_takes cX8_takes 8 (some .int)) ({ frames := 4, cells := 0, slots := 0, locals := 87 } : Room)).room s m ([Value.ref (E.2.2 11 28), Value.int a1] : List Value).toArray below meth c H locs 0 0 (MQ below (QI E r0 M0) ([Value.ref (E.2.2 11 28), Value.int a1] : List Value).toArray s 0 0 (AA E)) (F0 m 59 ls []) := by
        intro M y2 y3 y4 y5 H locs ls h hP hS hl
        unfold f_X8_takes_L59 at h
        refine lv_iconst (v := 0) hx hb dX8_takes_59 (by decide) ?_
        exact w_L60 _ _ _ _ _ _ _ _ _ h hP hS (lv_sub hl [0, 1, 2, 3, 4] rfl)
      unfold f_X8_takes_L10 at h
      refine lv_iload hx hb dX8_takes_10 (lv_at hl 3 rfl) ?_
      refine lv_aload_n hx hb dX8_takes_12 rfl (lv_at hl 0 rfl) ?_
      refine gt_8_0 X wm_90 hP ix_28 dX8_takes_13 ?_
      refine lv_iconst (v := 0) hx hb dX8_takes_16 (by decide) ?_
      refine mw_ld X hP ix_29 rfl (v := (M 11 29 0)) (inb_vp (by decide)) rfl dX8_takes_17 ?_
      refine lv_icmp_lt (tgt := 172) hx hb dX8_takes_18 (by decide) (fun c2 => ?_) (fun c2 => ?_)
      · have h := br_1 h c2
        refine lv_iload_n hx hb dX8_takes_172 rfl (lv_at hl 2 rfl) ?_
        have h := Option.some.inj h
        exact mw_iret X hr hlocks hP hS (congrArg Prod.fst h) (congrArg Prod.snd h) dX8_takes_173
      · have h := br_0 h c2
        refine lv_iload_n hx hb dX8_takes_21 rfl (lv_at hl 1 rfl) ?_
        refine lv_if_le (tgt := 172) hx hb dX8_takes_22 (by decide) (fun c3 => ?_) (fun c3 => ?_)
        · have h := br_1 h c3
          refine lv_iload_n hx hb dX8_takes_172 rfl (lv_at hl 2 rfl) ?_
          have h := Option.some.inj h
          exact mw_iret X hr hlocks hP hS (congrArg Prod.fst h) (congrArg Prod.snd h) dX8_takes_173
        · have h := br_0 h c3
          refine lv_aload_n hx hb dX8_takes_25 rfl (lv_at hl 0 rfl) ?_
          refine lv_iload hx hb dX8_takes_26 (lv_at hl 3 rfl) ?_
          refine lv_iconst (v := 1) hx hb dX8_takes_28 (by decide) ?_
          obtain ⟨v4, hv4, h⟩ := bO_e h
          refine mw_callVi X (c_X8_of l E hA hv4) pk_X8_of pv_X8_of wm_363 ⟨Nat.le_of_ble_eq_true rfl, Nat.le_of_ble_eq_true rfl⟩ ⟨rfl, rfl⟩ hP hS ix_28 rfl rfl rfl rfl hl.1 (Nat.le_of_ble_eq_true rfl) ⟨Nat.zero_le _, Nat.zero_le _⟩ rfl dX8_takes_29 (fun H locs hP hS => ?_)
          refine lv_istore (lv' := [(5, .int v4), (0, .ref (E.2.2 11 28)), (2, .int y2), (3, .int y3), (4, .int y4)]) hx hb dX8_takes_32 hl (by decide) rfl (fun ls hl => ?_)
          refine lv_aload_n hx hb dX8_takes_34 rfl (lv_at hl 1 rfl) ?_
          refine lv_iload hx hb dX8_takes_35 (lv_at hl 4 rfl) ?_
          refine lv_iconst (v := 0) hx hb dX8_takes_37 (by decide) ?_
          obtain ⟨v5, hv5, h⟩ := bO_e h
          refine mw_callVi X (c_X8_of l E hA hv5) pk_X8_of pv_X8_of wm_363 ⟨Nat.le_of_ble_eq_true rfl, Nat.le_of_ble_eq_true rfl⟩ ⟨rfl, rfl⟩ hP hS ix_28 rfl rfl rfl rfl hl.1 (Nat.le_of_ble_eq_true rfl) ⟨Nat.zero_le _, Nat.zero_le _⟩ rfl dX8_takes_38 (fun H locs hP hS => ?_)
          refine lv_iconst (v := 2) hx hb dX8_takes_41 (by decide) ?_
          refine lv_icmp_ge (tgt := 59) hx hb dX8_takes_42 (by decide) (fun c6 => ?_) (fun c6 => ?_)
          · have h := br_1 h c6
            exact w_L59 _ _ _ _ _ _ _ _ h hP hS (lv_sub hl [1, 2, 3, 4, 0] rfl)
          · have h := br_0 h c6
            refine lv_iload_n hx hb dX8_takes_45 rfl (lv_at hl 2 rfl) ?_
            refine lv_iload hx hb dX8_takes_46 (lv_at hl 0 rfl) ?_
            refine lv_ishr hx hb dX8_takes_48 ?_
            refine lv_iconst (v := 1) hx hb dX8_takes_49 (by decide) ?_
            refine lv_iand hx hb dX8_takes_50 ?_
            refine lv_iconst (v := 1) hx hb dX8_takes_51 (by decide) ?_
            refine lv_icmp_ne (tgt := 59) hx hb dX8_takes_52 (by decide) (fun c26 => ?_) (fun c26 => ?_)
            · have h := br_0 h c26
              exact w_L59 _ _ _ _ _ _ _ _ h hP hS (lv_sub hl [1, 2, 3, 4, 0] rfl)
            · have h := br_1 h c26
              refine lv_iconst (v := 1) hx hb dX8_takes_55 (by decide) ?_
              refine lv_goto (tgt := 60) hx hb dX8_takes_56 (by decide) ?_
              exact w_L60 _ _ _ _ _ _ _ _ _ h hP hS (lv_sub hl [1, 2, 3, 4, 0] rfl)
  unfold f_X8_takes at h
  refine lv_iload_n hx hb dX8_takes_0 rfl (lv_at hl 1 rfl) ?_
  refine lv_istore_n (lv' := [(2, .int a1), (0, .ref (E.2.2 11 28)), (1, .int a1)]) hx hb dX8_takes_1 rfl hl (by decide) rfl (fun ls hl => ?_)
  refine lv_iconst (v := 0) hx hb dX8_takes_2 (by decide) ?_
  refine lv_istore_n (lv' := [(3, .int (0 : Int32)), (2, .int a1), (0, .ref (E.2.2 11 28)), (1, .int a1)]) hx hb dX8_takes_3 rfl hl (by decide) rfl (fun ls hl => ?_)
  refine lv_aload_n hx hb dX8_takes_4 rfl (lv_at hl 2 rfl) ?_
  obtain ⟨v1, hv1, h⟩ := bO_e h
  refine mw_callVi X (c_X8_last l E hA hv1) pk_X8_last pv_X8_last wm_208 ⟨Nat.le_of_ble_eq_true rfl, Nat.le_of_ble_eq_true rfl⟩ ⟨rfl, rfl⟩ hP hS ix_28 rfl rfl rfl rfl hl.1 (Nat.le_of_ble_eq_true rfl) ⟨Nat.zero_le _, Nat.zero_le _⟩ rfl dX8_takes_5 (fun H locs hP hS => ?_)
  refine lv_istore (lv' := [(4, .int v1), (3, .int (0 : Int32)), (2, .int a1), (0, .ref (E.2.2 11 28)), (1, .int a1)]) hx hb dX8_takes_8 hl (by decide) rfl (fun ls hl => ?_)
  exact w_L10 FU _ _ _ _ _ _ _ h hP hS (lv_sub hl [3, 2, 1, 0] rfl)
/-! SealedGroupsModel.takeBack -/
noncomputable def f_X8_takeBack  (M : Mem) (a1 : Int32) : Option (Int32 × Mem) :=
bO (f_X8_in M a1 (0 : Int32) (3 : Int32)) (fun v1 =>
(if v1 = 0 then
some ((-1000001 : Int32), M)
else
bO (f_X8_isStopped M) (fun v3 =>
(if v3 = 0 then
bO (f_X8_isOpen M a1) (fun v5 =>
(if v5 = 0 then
some ((-1000002 : Int32), M)
else
bO (f_X8_ofGroup M a1 (2 : Int32)) (fun v7 =>
(if (((M 11 29 1) + v7) + (1 : Int32)) ≤ (60 : Int32) then
bO (f_X8_changes M) (fun M10 =>
bP (f_X8_takes M10 ((1 : Int32) <<< (a1 &&& 31))) (fun v11 M12 =>
bO (f_X8_closes M12 a1) (fun M14 =>
some (v11, M14))))
else
some ((-1000003 : Int32), M)))))
else
some ((-1000002 : Int32), M)))))
theorem pk_X8_takeBack : Pk "SealedGroupsModel" yX8_takeBack cX8_takeBack 3 (some .int) 1 := ⟨wm_358, wm_5, rfl, by decide +kernel⟩
theorem pv_X8_takeBack : Cond.instanceMethod yX8_takeBack ∈ wsL_law ∧ Cond.selects "SealedGroupsModel" yX8_takeBack yX8_takeBack ∈ wsL_law := ⟨wm_356, wm_357⟩
set_option maxHeartbeats 4000000 in
set_option maxRecDepth 100000 in
theorem c_X8_takeBack (l : Launch) (E : En) (hA : AdOK E) {M : Mem} {a1 : Int32} {r0 : Int32} {M0 : Mem}  (h : f_X8_takeBack M a1 = some (r0, M0)) : Met l yX8_takeBack (Wm yX8_takeBack cX8_takeBack 3 (some .int)) ({ frames := 5, cells := 0, slots := 0, locals := 114 } : Room) (va_Pc [Value.ref (E.2.2 11 28), Value.int a1] (Wd E M)) (QI E r0 M0) 0 0 (AA E) := by
  refine Met.ofW (cc := cX8_takeBack) (maxL := 3) (ret := (some .int)) (by decide +kernel) rfl ?_
  intro p e s m args below meth c s₁ B hml hv
  obtain ⟨rfl, hP, hK⟩ := hv
  have X : Cx E (AA E) p s m c _ cX8_takeBack 3 RX8 := ⟨⟨B.exec, B.bytes, hml, findClass_of_methodNamed B.named, fun w hw => atoms_spec (ws := Wm yX8_takeBack cX8_takeBack 3 (some .int)) B.pre w (List.mem_cons_of_mem _ hw)⟩, hK, hA, fun _ h => h⟩
  have hx := B.exec
  have hb := B.bytes
  have hr := B.returns
  have hlocks := B.notSynchronized
  clear B hml
  have hS : va_S (AA E) s.heap s.heap [] := va_S.rf
  have hl := lv_entry ([Value.ref (E.2.2 11 28), Value.int a1]) (n := 3) (Nat.le_of_ble_eq_true rfl)
  rw [lg_entry_eq]
  generalize (lg_sl ([Value.ref (E.2.2 11 28), Value.int a1]) ++ List.replicate (3 - (lg_sl ([Value.ref (E.2.2 11 28), Value.int a1])).length) Slot.unset).toArray = ls at hl ⊢
  have hl : lv_has ls 3 [(0, .ref (E.2.2 11 28)), (1, .int a1)] := hl
  unfold f_X8_takeBack at h
  refine lv_iload_n hx hb dX8_takeBack_0 rfl (lv_at hl 1 rfl) ?_
  refine lv_iconst (v := 0) hx hb dX8_takeBack_1 (by decide) ?_
  refine lv_iconst (v := 3) hx hb dX8_takeBack_2 (by decide) ?_
  obtain ⟨v1, hv1, h⟩ := bO_e h
  refine mw_callSi X (c_X8_in l E hA hv1) pk_X8_in wm_184 wm_183 ⟨Nat.le_of_ble_eq_true rfl, Nat.le_of_ble_eq_true rfl⟩ ⟨rfl, rfl⟩ hP hS rfl hl.1 (Nat.le_of_ble_eq_true rfl) ⟨Nat.zero_le _, Nat.zero_le _⟩ rfl dX8_takeBack_3 (fun H locs hP hS => ?_)
  refine lv_if_ne (tgt := 12) hx hb dX8_takeBack_6 (by decide) (fun c2 => ?_) (fun c2 => ?_)
  · have h := br_0 h c2
    refine lv_aload_n hx hb dX8_takeBack_12 rfl (lv_at hl 0 rfl) ?_
    obtain ⟨v3, hv3, h⟩ := bO_e h
    refine mw_callVi X (c_X8_isStopped l E hA hv3) pk_X8_isStopped pv_X8_isStopped wm_186 ⟨Nat.le_of_ble_eq_true rfl, Nat.le_of_ble_eq_true rfl⟩ ⟨rfl, rfl⟩ hP hS ix_28 rfl rfl rfl rfl hl.1 (Nat.le_of_ble_eq_true rfl) ⟨Nat.zero_le _, Nat.zero_le _⟩ rfl dX8_takeBack_13 (fun H locs hP hS => ?_)
    refine lv_if_ne (tgt := 27) hx hb dX8_takeBack_16 (by decide) (fun c4 => ?_) (fun c4 => ?_)
    · have h := br_0 h c4
      refine lv_ldc hx hb X.1.2.2.2.1 (X.1.2.2.2.2 _ wm_180) dX8_takeBack_27 ?_
      have h := Option.some.inj h
      exact mw_iret X hr hlocks hP hS (congrArg Prod.fst h) (congrArg Prod.snd h) dX8_takeBack_29
    · have h := br_1 h c4
      refine lv_aload_n hx hb dX8_takeBack_19 rfl (lv_at hl 0 rfl) ?_
      refine lv_iload_n hx hb dX8_takeBack_20 rfl (lv_at hl 1 rfl) ?_
      obtain ⟨v5, hv5, h⟩ := bO_e h
      refine mw_callVi X (c_X8_isOpen l E hA hv5) pk_X8_isOpen pv_X8_isOpen wm_190 ⟨Nat.le_of_ble_eq_true rfl, Nat.le_of_ble_eq_true rfl⟩ ⟨rfl, rfl⟩ hP hS ix_28 rfl rfl rfl rfl hl.1 (Nat.le_of_ble_eq_true rfl) ⟨Nat.zero_le _, Nat.zero_le _⟩ rfl dX8_takeBack_21 (fun H locs hP hS => ?_)
      refine lv_if_ne (tgt := 30) hx hb dX8_takeBack_24 (by decide) (fun c6 => ?_) (fun c6 => ?_)
      · have h := br_0 h c6
        refine lv_aload_n hx hb dX8_takeBack_30 rfl (lv_at hl 0 rfl) ?_
        refine gt_8_0 X wm_90 hP ix_28 dX8_takeBack_31 ?_
        refine lv_iconst (v := 1) hx hb dX8_takeBack_34 (by decide) ?_
        refine mw_ld X hP ix_29 rfl (v := (M 11 29 1)) (inb_vp (by decide)) rfl dX8_takeBack_35 ?_
        refine lv_aload_n hx hb dX8_takeBack_36 rfl (lv_at hl 0 rfl) ?_
        refine lv_iload_n hx hb dX8_takeBack_37 rfl (lv_at hl 1 rfl) ?_
        refine lv_iconst (v := 2) hx hb dX8_takeBack_38 (by decide) ?_
        obtain ⟨v7, hv7, h⟩ := bO_e h
        refine mw_callVi X (c_X8_ofGroup l E hA hv7) pk_X8_ofGroup pv_X8_ofGroup wm_194 ⟨Nat.le_of_ble_eq_true rfl, Nat.le_of_ble_eq_true rfl⟩ ⟨rfl, rfl⟩ hP hS ix_28 rfl rfl rfl rfl hl.1 (Nat.le_of_ble_eq_true rfl) ⟨Nat.zero_le _, Nat.zero_le _⟩ rfl dX8_takeBack_39 (fun H locs hP hS => ?_)
        refine lv_iadd hx hb dX8_takeBack_42 ?_
        refine lv_iconst (v := 1) hx hb dX8_takeBack_43 (by decide) ?_
        refine lv_iadd hx hb dX8_takeBack_44 ?_
        refine lv_bipush (v := 60) hx hb dX8_takeBack_45 (by decide) ?_
        refine lv_icmp_le (tgt := 53) hx hb dX8_takeBack_47 (by decide) (fun c8 => ?_) (fun c8 => ?_)
        · have h := br_1 h c8
          refine lv_aload_n hx hb dX8_takeBack_53 rfl (lv_at hl 0 rfl) ?_
          obtain ⟨M10, hv9, h⟩ := bO_e h
          refine mw_callVv X (c_X8_changes l E hA hv9) pk_X8_changes pv_X8_changes wm_198 ⟨Nat.le_of_ble_eq_true rfl, Nat.le_of_ble_eq_true rfl⟩ ⟨rfl, rfl⟩ hP hS ix_28 rfl rfl rfl rfl hl.1 (Nat.le_of_ble_eq_true rfl) ⟨Nat.zero_le _, Nat.zero_le _⟩ rfl dX8_takeBack_54 (fun H locs hP hS => ?_)
          refine lv_aload_n hx hb dX8_takeBack_57 rfl (lv_at hl 0 rfl) ?_
          refine lv_iconst (v := 1) hx hb dX8_takeBack_58 (by decide) ?_
          refine lv_iload_n hx hb dX8_takeBack_59 rfl (lv_at hl 1 rfl) ?_
          refine lv_ishl hx hb dX8_takeBack_60 ?_
          obtain ⟨v11, M12, hv11, h⟩ := bP_e h
          refine mw_callVi X (c_X8_takes l E hA hv11) pk_X8_takes pv_X8_takes wm_359 ⟨Nat.le_of_ble_eq_true rfl, Nat.le_of_ble_eq_true rfl⟩ ⟨rfl, rfl⟩ hP hS ix_28 rfl rfl rfl rfl hl.1 (Nat.le_of_ble_eq_true rfl) ⟨Nat.zero_le _, Nat.zero_le _⟩ rfl dX8_takeBack_61 (fun H locs hP hS => ?_)
          refine lv_istore_n (lv' := [(2, .int v11), (0, .ref (E.2.2 11 28)), (1, .int a1)]) hx hb dX8_takeBack_64 rfl hl (by decide) rfl (fun ls hl => ?_)
          refine lv_aload_n hx hb dX8_takeBack_65 rfl (lv_at hl 1 rfl) ?_
          refine lv_iload_n hx hb dX8_takeBack_66 rfl (lv_at hl 2 rfl) ?_
          obtain ⟨M14, hv13, h⟩ := bO_e h
          refine mw_callVv X (c_X8_closes l E hA hv13) pk_X8_closes pv_X8_closes wm_319 ⟨Nat.le_of_ble_eq_true rfl, Nat.le_of_ble_eq_true rfl⟩ ⟨rfl, rfl⟩ hP hS ix_28 rfl rfl rfl rfl hl.1 (Nat.le_of_ble_eq_true rfl) ⟨Nat.zero_le _, Nat.zero_le _⟩ rfl dX8_takeBack_67 (fun H locs hP hS => ?_)
          refine lv_iload_n hx hb dX8_takeBack_70 rfl (lv_at hl 0 rfl) ?_
          have h := Option.some.inj h
          exact mw_iret X hr hlocks hP hS (congrArg Prod.fst h) (congrArg Prod.snd h) dX8_takeBack_71
        · have h := br_0 h c8
          refine lv_ldc hx hb X.1.2.2.2.1 (X.1.2.2.2.2 _ wm_181) dX8_takeBack_50 ?_
          have h := Option.some.inj h
          exact mw_iret X hr hlocks hP hS (congrArg Prod.fst h) (congrArg Prod.snd h) dX8_takeBack_52
      · have h := br_1 h c6
        refine lv_ldc hx hb X.1.2.2.2.1 (X.1.2.2.2.2 _ wm_180) dX8_takeBack_27 ?_
        have h := Option.some.inj h
        exact mw_iret X hr hlocks hP hS (congrArg Prod.fst h) (congrArg Prod.snd h) dX8_takeBack_29
  · have h := br_1 h c2
    refine lv_ldc hx hb X.1.2.2.2.1 (X.1.2.2.2.2 _ wm_179) dX8_takeBack_9 ?_
    have h := Option.some.inj h
    exact mw_iret X hr hlocks hP hS (congrArg Prod.fst h) (congrArg Prod.snd h) dX8_takeBack_11
/-! SealedGroupsModel.writeOut -/
noncomputable def f_X8_writeOut  (M : Mem) (a1 : Int32) : Option (Int32 × Mem) :=
bO (f_X8_in M a1 (0 : Int32) (7 : Int32)) (fun v1 =>
(if v1 = 0 then
some ((-1000001 : Int32), M)
else
bO (f_X8_isStopped M) (fun v3 =>
(if v3 = 0 then
bO (f_X8_isDirty M a1) (fun v5 =>
(if v5 = 0 then
some ((-1000002 : Int32), M)
else
bO (f_X8_changes M) (fun M8 =>
bO (f_X8_mark M8 a1) (fun v9 =>
bP (f_X8_forces M8 v9) (fun v10 M11 =>
bO (f_X8_ofPage M11 a1 (3 : Int32)) (fun v12 =>
bO (f_X8_putsPage M11 a1 (0 : Int32) v12) (fun M14 =>
bO (f_X8_ofPage M14 a1 (4 : Int32)) (fun v15 =>
bO (f_X8_putsPage M14 a1 (1 : Int32) v15) (fun M17 =>
some (v10, M17))))))))))
else
some ((-1000002 : Int32), M)))))
theorem pk_X8_writeOut : Pk "SealedGroupsModel" yX8_writeOut cX8_writeOut 3 (some .int) 1 := ⟨wm_390, wm_5, rfl, by decide +kernel⟩
theorem pv_X8_writeOut : Cond.instanceMethod yX8_writeOut ∈ wsL_law ∧ Cond.selects "SealedGroupsModel" yX8_writeOut yX8_writeOut ∈ wsL_law := ⟨wm_388, wm_389⟩
set_option maxHeartbeats 4000000 in
set_option maxRecDepth 100000 in
theorem c_X8_writeOut (l : Launch) (E : En) (hA : AdOK E) {M : Mem} {a1 : Int32} {r0 : Int32} {M0 : Mem}  (h : f_X8_writeOut M a1 = some (r0, M0)) : Met l yX8_writeOut (Wm yX8_writeOut cX8_writeOut 3 (some .int)) ({ frames := 3, cells := 0, slots := 0, locals := 64 } : Room) (va_Pc [Value.ref (E.2.2 11 28), Value.int a1] (Wd E M)) (QI E r0 M0) 0 0 (AA E) := by
  refine Met.ofW (cc := cX8_writeOut) (maxL := 3) (ret := (some .int)) (by decide +kernel) rfl ?_
  intro p e s m args below meth c s₁ B hml hv
  obtain ⟨rfl, hP, hK⟩ := hv
  have X : Cx E (AA E) p s m c _ cX8_writeOut 3 RX8 := ⟨⟨B.exec, B.bytes, hml, findClass_of_methodNamed B.named, fun w hw => atoms_spec (ws := Wm yX8_writeOut cX8_writeOut 3 (some .int)) B.pre w (List.mem_cons_of_mem _ hw)⟩, hK, hA, fun _ h => h⟩
  have hx := B.exec
  have hb := B.bytes
  have hr := B.returns
  have hlocks := B.notSynchronized
  clear B hml
  have hS : va_S (AA E) s.heap s.heap [] := va_S.rf
  have hl := lv_entry ([Value.ref (E.2.2 11 28), Value.int a1]) (n := 3) (Nat.le_of_ble_eq_true rfl)
  rw [lg_entry_eq]
  generalize (lg_sl ([Value.ref (E.2.2 11 28), Value.int a1]) ++ List.replicate (3 - (lg_sl ([Value.ref (E.2.2 11 28), Value.int a1])).length) Slot.unset).toArray = ls at hl ⊢
  have hl : lv_has ls 3 [(0, .ref (E.2.2 11 28)), (1, .int a1)] := hl
  unfold f_X8_writeOut at h
  refine lv_iload_n hx hb dX8_writeOut_0 rfl (lv_at hl 1 rfl) ?_
  refine lv_iconst (v := 0) hx hb dX8_writeOut_1 (by decide) ?_
  refine lv_bipush (v := 7) hx hb dX8_writeOut_2 (by decide) ?_
  obtain ⟨v1, hv1, h⟩ := bO_e h
  refine mw_callSi X (c_X8_in l E hA hv1) pk_X8_in wm_184 wm_183 ⟨Nat.le_of_ble_eq_true rfl, Nat.le_of_ble_eq_true rfl⟩ ⟨rfl, rfl⟩ hP hS rfl hl.1 (Nat.le_of_ble_eq_true rfl) ⟨Nat.zero_le _, Nat.zero_le _⟩ rfl dX8_writeOut_4 (fun H locs hP hS => ?_)
  refine lv_if_ne (tgt := 13) hx hb dX8_writeOut_7 (by decide) (fun c2 => ?_) (fun c2 => ?_)
  · have h := br_0 h c2
    refine lv_aload_n hx hb dX8_writeOut_13 rfl (lv_at hl 0 rfl) ?_
    obtain ⟨v3, hv3, h⟩ := bO_e h
    refine mw_callVi X (c_X8_isStopped l E hA hv3) pk_X8_isStopped pv_X8_isStopped wm_186 ⟨Nat.le_of_ble_eq_true rfl, Nat.le_of_ble_eq_true rfl⟩ ⟨rfl, rfl⟩ hP hS ix_28 rfl rfl rfl rfl hl.1 (Nat.le_of_ble_eq_true rfl) ⟨Nat.zero_le _, Nat.zero_le _⟩ rfl dX8_writeOut_14 (fun H locs hP hS => ?_)
    refine lv_if_ne (tgt := 28) hx hb dX8_writeOut_17 (by decide) (fun c4 => ?_) (fun c4 => ?_)
    · have h := br_0 h c4
      refine lv_ldc hx hb X.1.2.2.2.1 (X.1.2.2.2.2 _ wm_180) dX8_writeOut_28 ?_
      have h := Option.some.inj h
      exact mw_iret X hr hlocks hP hS (congrArg Prod.fst h) (congrArg Prod.snd h) dX8_writeOut_30
    · have h := br_1 h c4
      refine lv_aload_n hx hb dX8_writeOut_20 rfl (lv_at hl 0 rfl) ?_
      refine lv_iload_n hx hb dX8_writeOut_21 rfl (lv_at hl 1 rfl) ?_
      obtain ⟨v5, hv5, h⟩ := bO_e h
      refine mw_callVi X (c_X8_isDirty l E hA hv5) pk_X8_isDirty pv_X8_isDirty wm_261 ⟨Nat.le_of_ble_eq_true rfl, Nat.le_of_ble_eq_true rfl⟩ ⟨rfl, rfl⟩ hP hS ix_28 rfl rfl rfl rfl hl.1 (Nat.le_of_ble_eq_true rfl) ⟨Nat.zero_le _, Nat.zero_le _⟩ rfl dX8_writeOut_22 (fun H locs hP hS => ?_)
      refine lv_if_ne (tgt := 31) hx hb dX8_writeOut_25 (by decide) (fun c6 => ?_) (fun c6 => ?_)
      · have h := br_0 h c6
        refine lv_aload_n hx hb dX8_writeOut_31 rfl (lv_at hl 0 rfl) ?_
        obtain ⟨M8, hv7, h⟩ := bO_e h
        refine mw_callVv X (c_X8_changes l E hA hv7) pk_X8_changes pv_X8_changes wm_198 ⟨Nat.le_of_ble_eq_true rfl, Nat.le_of_ble_eq_true rfl⟩ ⟨rfl, rfl⟩ hP hS ix_28 rfl rfl rfl rfl hl.1 (Nat.le_of_ble_eq_true rfl) ⟨Nat.zero_le _, Nat.zero_le _⟩ rfl dX8_writeOut_32 (fun H locs hP hS => ?_)
        refine lv_aload_n hx hb dX8_writeOut_35 rfl (lv_at hl 0 rfl) ?_
        refine lv_aload_n hx hb dX8_writeOut_36 rfl (lv_at hl 0 rfl) ?_
        refine lv_iload_n hx hb dX8_writeOut_37 rfl (lv_at hl 1 rfl) ?_
        obtain ⟨v9, hv9, h⟩ := bO_e h
        refine mw_callVi X (c_X8_mark l E hA hv9) pk_X8_mark pv_X8_mark wm_265 ⟨Nat.le_of_ble_eq_true rfl, Nat.le_of_ble_eq_true rfl⟩ ⟨rfl, rfl⟩ hP hS ix_28 rfl rfl rfl rfl hl.1 (Nat.le_of_ble_eq_true rfl) ⟨Nat.zero_le _, Nat.zero_le _⟩ rfl dX8_writeOut_38 (fun H locs hP hS => ?_)
        obtain ⟨v10, M11, hv10, h⟩ := bP_e h
        refine mw_callVi X (c_X8_forces l E hA hv10) pk_X8_forces pv_X8_forces wm_312 ⟨Nat.le_of_ble_eq_true rfl, Nat.le_of_ble_eq_true rfl⟩ ⟨rfl, rfl⟩ hP hS ix_28 rfl rfl rfl rfl hl.1 (Nat.le_of_ble_eq_true rfl) ⟨Nat.zero_le _, Nat.zero_le _⟩ rfl dX8_writeOut_41 (fun H locs hP hS => ?_)
        refine lv_istore_n (lv' := [(2, .int v10), (0, .ref (E.2.2 11 28)), (1, .int a1)]) hx hb dX8_writeOut_44 rfl hl (by decide) rfl (fun ls hl => ?_)
        refine lv_aload_n hx hb dX8_writeOut_45 rfl (lv_at hl 1 rfl) ?_
        refine lv_iload_n hx hb dX8_writeOut_46 rfl (lv_at hl 2 rfl) ?_
        refine lv_iconst (v := 0) hx hb dX8_writeOut_47 (by decide) ?_
        refine lv_aload_n hx hb dX8_writeOut_48 rfl (lv_at hl 1 rfl) ?_
        refine lv_iload_n hx hb dX8_writeOut_49 rfl (lv_at hl 2 rfl) ?_
        refine lv_iconst (v := 3) hx hb dX8_writeOut_50 (by decide) ?_
        obtain ⟨v12, hv12, h⟩ := bO_e h
        refine mw_callVi X (c_X8_ofPage l E hA hv12) pk_X8_ofPage pv_X8_ofPage wm_253 ⟨Nat.le_of_ble_eq_true rfl, Nat.le_of_ble_eq_true rfl⟩ ⟨rfl, rfl⟩ hP hS ix_28 rfl rfl rfl rfl hl.1 (Nat.le_of_ble_eq_true rfl) ⟨Nat.zero_le _, Nat.zero_le _⟩ rfl dX8_writeOut_51 (fun H locs hP hS => ?_)
        obtain ⟨M14, hv13, h⟩ := bO_e h
        refine mw_callVv X (c_X8_putsPage l E hA hv13) pk_X8_putsPage pv_X8_putsPage wm_269 ⟨Nat.le_of_ble_eq_true rfl, Nat.le_of_ble_eq_true rfl⟩ ⟨rfl, rfl⟩ hP hS ix_28 rfl rfl rfl rfl hl.1 (Nat.le_of_ble_eq_true rfl) ⟨Nat.zero_le _, Nat.zero_le _⟩ rfl dX8_writeOut_54 (fun H locs hP hS => ?_)
        refine lv_aload_n hx hb dX8_writeOut_57 rfl (lv_at hl 1 rfl) ?_
        refine lv_iload_n hx hb dX8_writeOut_58 rfl (lv_at hl 2 rfl) ?_
        refine lv_iconst (v := 1) hx hb dX8_writeOut_59 (by decide) ?_
        refine lv_aload_n hx hb dX8_writeOut_60 rfl (lv_at hl 1 rfl) ?_
        refine lv_iload_n hx hb dX8_writeOut_61 rfl (lv_at hl 2 rfl) ?_
        refine lv_iconst (v := 4) hx hb dX8_writeOut_62 (by decide) ?_
        obtain ⟨v15, hv15, h⟩ := bO_e h
        refine mw_callVi X (c_X8_ofPage l E hA hv15) pk_X8_ofPage pv_X8_ofPage wm_253 ⟨Nat.le_of_ble_eq_true rfl, Nat.le_of_ble_eq_true rfl⟩ ⟨rfl, rfl⟩ hP hS ix_28 rfl rfl rfl rfl hl.1 (Nat.le_of_ble_eq_true rfl) ⟨Nat.zero_le _, Nat.zero_le _⟩ rfl dX8_writeOut_63 (fun H locs hP hS => ?_)
        obtain ⟨M17, hv16, h⟩ := bO_e h
        refine mw_callVv X (c_X8_putsPage l E hA hv16) pk_X8_putsPage pv_X8_putsPage wm_269 ⟨Nat.le_of_ble_eq_true rfl, Nat.le_of_ble_eq_true rfl⟩ ⟨rfl, rfl⟩ hP hS ix_28 rfl rfl rfl rfl hl.1 (Nat.le_of_ble_eq_true rfl) ⟨Nat.zero_le _, Nat.zero_le _⟩ rfl dX8_writeOut_66 (fun H locs hP hS => ?_)
        refine lv_iload_n hx hb dX8_writeOut_69 rfl (lv_at hl 0 rfl) ?_
        have h := Option.some.inj h
        exact mw_iret X hr hlocks hP hS (congrArg Prod.fst h) (congrArg Prod.snd h) dX8_writeOut_70
      · have h := br_1 h c6
        refine lv_ldc hx hb X.1.2.2.2.1 (X.1.2.2.2.2 _ wm_180) dX8_writeOut_28 ?_
        have h := Option.some.inj h
        exact mw_iret X hr hlocks hP hS (congrArg Prod.fst h) (congrArg Prod.snd h) dX8_writeOut_30
  · have h := br_1 h c2
    refine lv_ldc hx hb X.1.2.2.2.1 (X.1.2.2.2.2 _ wm_179) dX8_writeOut_10 ?_
    have h := Option.some.inj h
    exact mw_iret X hr hlocks hP hS (congrArg Prod.fst h) (congrArg Prod.snd h) dX8_writeOut_12
/-! SealedGroupsModel.pages -/
noncomputable def f_X8_pages_L41  (M : Mem) (K4 : Int32 → Int32 → Int32 → Option Int32) (y1 y3 z0 z1 : Int32) : Option Int32 :=
bd ((z1 ||| z0)) (fun x5 =>
bd (y3 + (1 : Int32)) (fun x6 =>
K4 y1 x5 x6))
noncomputable def f_X8_pages_L4  (M : Mem) (K4 : Int32 → Int32 → Int32 → Option Int32) (y1 y2 y3 : Int32) : Option Int32 :=
(if (8 : Int32) ≤ y3 then
some y2
else
(if y1 = 0 then
bO (f_X8_ofPage M y3 (2 : Int32)) (fun v7 =>
f_X8_pages_L41 M K4 y1 y3 (v7 <<< (y3 &&& 31)) y2)
else
bO (f_X8_isDirty M y3) (fun v3 =>
(if v3 = 0 then
f_X8_pages_L41 M K4 y1 y3 (0 : Int32) y2
else
f_X8_pages_L41 M K4 y1 y3 ((1 : Int32) <<< (y3 &&& 31)) y2))))
noncomputable def f_X8_pages  (M : Mem) (a1 : Int32) : Option Int32 :=
itr (f_X8_pages_L4 M) (fun _ _ _ => none) FU a1 (0 : Int32) (0 : Int32)
theorem pk_X8_pages : Pk "SealedGroupsModel" yX8_pages cX8_pages 4 (some .int) 1 := ⟨wm_406, wm_5, rfl, by decide +kernel⟩
theorem pv_X8_pages : Cond.instanceMethod yX8_pages ∈ wsL_law ∧ Cond.selects "SealedGroupsModel" yX8_pages yX8_pages ∈ wsL_law := ⟨wm_404, wm_405⟩
set_option maxHeartbeats 4000000 in
set_option maxRecDepth 100000 in
theorem c_X8_pages (l : Launch) (E : En) (hA : AdOK E) {M : Mem} {a1 : Int32} {r0 : Int32}  (h : f_X8_pages M a1 = some r0) : Met l yX8_pages (Wm yX8_pages cX8_pages 4 (some .int)) ({ frames := 3, cells := 0, slots := 0, locals := 64 } : Room) (va_Pc [Value.ref (E.2.2 11 28), Value.int a1] (Wd E M)) (QI E r0 M) 0 0 (AA E) := by
  refine Met.ofW (cc := cX8_pages) (maxL := 4) (ret := (some .int)) (by decide +kernel) rfl ?_
  intro p e s m args below meth c s₁ B hml hv
  obtain ⟨rfl, hP, hK⟩ := hv
  have X : Cx E (AA E) p s m c _ cX8_pages 4 RX8 := ⟨⟨B.exec, B.bytes, hml, findClass_of_methodNamed B.named, fun w hw => atoms_spec (ws := Wm yX8_pages cX8_pages 4 (some .int)) B.pre w (List.mem_cons_of_mem _ hw)⟩, hK, hA, fun _ h => h⟩
  have hx := B.exec
  have hb := B.bytes
  have hr := B.returns
  have hlocks := B.notSynchronized
  clear B hml
  have hS : va_S (AA E) s.heap s.heap [] := va_S.rf
  have hl := lv_entry ([Value.ref (E.2.2 11 28), Value.int a1]) (n := 4) (Nat.le_of_ble_eq_true rfl)
  rw [lg_entry_eq]
  generalize (lg_sl ([Value.ref (E.2.2 11 28), Value.int a1]) ++ List.replicate (4 - (lg_sl ([Value.ref (E.2.2 11 28), Value.int a1])).length) Slot.unset).toArray = ls at hl ⊢
  have hl : lv_has ls 4 [(0, .ref (E.2.2 11 28)), (1, .int a1)] := hl
  have w_L4 : ∀ (n4 : Nat)  (y1 y2 y3 : Int32) (H : Heap) (locs : List Loc) (ls : Array Slot), itr (f_X8_pages_L4 M) (fun _ _ _ => none) n4 y1 y2 y3 = some r0 → va_P E.1 vwCl (wl E M) H → va_S (AA E) s.heap H locs → lv_has ls 4 [(0, .ref (E.2.2 11 28)), (1, .int y1), (2, .int y2), (3, .int y3)] → W p l e (headSpec (Wm yX8_pages cX8_pages 4 (some .int)) ({ frames := 3, cells := 0, slots := 0, locals := 64 } : Room)).room s m ([Value.ref (E.2.2 11 28), Value.int a1] : List Value).toArray below meth c H locs 0 0 (MQ below (QI E r0 M) ([Value.ref (E.2.2 11 28), Value.int a1] : List Value).toArray s 0 0 (AA E)) (F0 m 4 ls []) := by
    intro n4
    induction n4 with
    | zero => intro y1 y2 y3 H locs ls h; exact (nomatch (show (none : Option Int32) = some _ from h))
    | succ n4 ih4 =>
      intro y1 y2 y3 H locs ls h hP hS hl
      have h : f_X8_pages_L4 M (itr (f_X8_pages_L4 M) (fun _ _ _ => none) n4) y1 y2 y3 = some r0 := h
      have w_L41 : ∀  (y1 y3 z0 z1 : Int32) (H : Heap) (locs : List Loc) (ls : Array Slot), f_X8_pages_L41 M (itr (f_X8_pages_L4 M) (fun _ _ _ => none) n4) y1 y3 z0 z1 = some r0 → va_P E.1 vwCl (wl E M) H → va_S (AA E) s.heap H locs → lv_has ls 4 [(0, .ref (E.2.2 11 28)), (1, .int y1), (3, .int y3)] → W p l e (headSpec (Wm yX8_pages cX8_pages 4 (some .int)) ({ frames := 3, cells := 0, slots := 0, locals := 64 } : Room)).room s m ([Value.ref (E.2.2 11 28), Value.int a1] : List Value).toArray below meth c H locs 0 0 (MQ below (QI E r0 M) ([Value.ref (E.2.2 11 28), Value.int a1] : List Value).toArray s 0 0 (AA E)) (F0 m 41 ls [.int z0, .int z1]) := by
        intro y1 y3 z0 z1 H locs ls h hP hS hl
        unfold f_X8_pages_L41 at h
        refine lv_ior hx hb dX8_pages_41 ?_
        refine lv_topi (fun x5 ex5 => ?_)
        have h := bd_e h ex5
        refine lv_istore_n (lv' := [(2, .int x5), (0, .ref (E.2.2 11 28)), (1, .int y1), (3, .int y3)]) hx hb dX8_pages_42 rfl hl (by decide) rfl (fun ls hl => ?_)
        obtain ⟨x6, ex6⟩ : ∃ y : Int32, y = y3 + (1 : Int32) := ⟨_, rfl⟩
        have h := bd_e h ex6
        refine lv_iinc (v := x6) (lv' := [(3, .int x6), (2, .int x5), (0, .ref (E.2.2 11 28)), (1, .int y1)]) hx hb dX8_pages_43 hl (k := 3) rfl (by rw [ex6]; rfl) (by decide) rfl (fun ls hl => ?_)
        refine lv_goto (tgt := 4) hx hb dX8_pages_46 (by decide) ?_
        exact ih4 _ _ _ _ _ _ h hP hS (lv_sub hl [2, 3, 1, 0] rfl)
      unfold f_X8_pages_L4 at h
      refine lv_iload_n hx hb dX8_pages_4 rfl (lv_at hl 3 rfl) ?_
      refine lv_bipush (v := 8) hx hb dX8_pages_5 (by decide) ?_
      refine lv_icmp_ge (tgt := 49) hx hb dX8_pages_7 (by decide) (fun c1 => ?_) (fun c1 => ?_)
      · have h := br_1 h c1
        refine lv_iload_n hx hb dX8_pages_49 rfl (lv_at hl 2 rfl) ?_
        exact mw_iret X hr hlocks hP hS (Option.some.inj h) rfl dX8_pages_50
      · have h := br_0 h c1
        refine lv_iload_n hx hb dX8_pages_10 rfl (lv_at hl 2 rfl) ?_
        refine lv_iload_n hx hb dX8_pages_11 rfl (lv_at hl 1 rfl) ?_
        refine lv_if_ne (tgt := 26) hx hb dX8_pages_12 (by decide) (fun c2 => ?_) (fun c2 => ?_)
        · have h := br_0 h c2
          refine lv_aload_n hx hb dX8_pages_26 rfl (lv_at hl 0 rfl) ?_
          refine lv_iload_n hx hb dX8_pages_27 rfl (lv_at hl 3 rfl) ?_
          obtain ⟨v3, hv3, h⟩ := bO_e h
          refine mw_callVi X (c_X8_isDirty l E hA hv3) pk_X8_isDirty pv_X8_isDirty wm_261 ⟨Nat.le_of_ble_eq_true rfl, Nat.le_of_ble_eq_true rfl⟩ ⟨rfl, rfl⟩ hP hS ix_28 rfl rfl rfl rfl hl.1 (Nat.le_of_ble_eq_true rfl) ⟨Nat.zero_le _, Nat.zero_le _⟩ rfl dX8_pages_28 (fun H locs hP hS => ?_)
          refine lv_if_eq (tgt := 40) hx hb dX8_pages_31 (by decide) (fun c4 => ?_) (fun c4 => ?_)
          · have h := br_1 h c4
            refine lv_iconst (v := 0) hx hb dX8_pages_40 (by decide) ?_
            exact w_L41 _ _ _ _ _ _ _ h hP hS (lv_sub hl [0, 1, 3] rfl)
          · have h := br_0 h c4
            refine lv_iconst (v := 1) hx hb dX8_pages_34 (by decide) ?_
            refine lv_iload_n hx hb dX8_pages_35 rfl (lv_at hl 3 rfl) ?_
            refine lv_ishl hx hb dX8_pages_36 ?_
            refine lv_goto (tgt := 41) hx hb dX8_pages_37 (by decide) ?_
            exact w_L41 _ _ _ _ _ _ _ h hP hS (lv_sub hl [0, 1, 3] rfl)
        · have h := br_1 h c2
          refine lv_aload_n hx hb dX8_pages_15 rfl (lv_at hl 0 rfl) ?_
          refine lv_iload_n hx hb dX8_pages_16 rfl (lv_at hl 3 rfl) ?_
          refine lv_iconst (v := 2) hx hb dX8_pages_17 (by decide) ?_
          obtain ⟨v7, hv7, h⟩ := bO_e h
          refine mw_callVi X (c_X8_ofPage l E hA hv7) pk_X8_ofPage pv_X8_ofPage wm_253 ⟨Nat.le_of_ble_eq_true rfl, Nat.le_of_ble_eq_true rfl⟩ ⟨rfl, rfl⟩ hP hS ix_28 rfl rfl rfl rfl hl.1 (Nat.le_of_ble_eq_true rfl) ⟨Nat.zero_le _, Nat.zero_le _⟩ rfl dX8_pages_18 (fun H locs hP hS => ?_)
          refine lv_iload_n hx hb dX8_pages_21 rfl (lv_at hl 3 rfl) ?_
          refine lv_ishl hx hb dX8_pages_22 ?_
          refine lv_goto (tgt := 41) hx hb dX8_pages_23 (by decide) ?_
          exact w_L41 _ _ _ _ _ _ _ h hP hS (lv_sub hl [0, 1, 3] rfl)
  unfold f_X8_pages at h
  refine lv_iconst (v := 0) hx hb dX8_pages_0 (by decide) ?_
  refine lv_istore_n (lv' := [(2, .int (0 : Int32)), (0, .ref (E.2.2 11 28)), (1, .int a1)]) hx hb dX8_pages_1 rfl hl (by decide) rfl (fun ls hl => ?_)
  refine lv_iconst (v := 0) hx hb dX8_pages_2 (by decide) ?_
  refine lv_istore_n (lv' := [(3, .int (0 : Int32)), (2, .int (0 : Int32)), (0, .ref (E.2.2 11 28)), (1, .int a1)]) hx hb dX8_pages_3 rfl hl (by decide) rfl (fun ls hl => ?_)
  exact w_L4 FU _ _ _ _ _ _ h hP hS (lv_sub hl [2, 3, 1, 0] rfl)
/-! SealedGroupsModel.dropOut -/
noncomputable def f_X8_dropOut  (M : Mem) (a1 : Int32) : Option (Int32 × Mem) :=
bO (f_X8_in M a1 (0 : Int32) (7 : Int32)) (fun v1 =>
(if v1 = 0 then
some ((-1000001 : Int32), M)
else
bO (f_X8_isStopped M) (fun v3 =>
(if v3 = 0 then
bO (f_X8_ofPage M a1 (2 : Int32)) (fun v5 =>
(if v5 = 0 then
some ((-1000002 : Int32), M)
else
bO (f_X8_isDirty M a1) (fun v7 =>
(if v7 = 0 then
bO (f_X8_changes M) (fun M10 =>
bO (f_X8_putsPage M10 a1 (2 : Int32) (0 : Int32)) (fun M12 =>
bO (f_X8_pages M12 (0 : Int32)) (fun v13 =>
bO (f_X8_bits M12 v13) (fun v14 =>
some (v14, M12)))))
else
some ((-1000002 : Int32), M)))))
else
some ((-1000002 : Int32), M)))))
theorem pk_X8_dropOut : Pk "SealedGroupsModel" yX8_dropOut cX8_dropOut 2 (some .int) 1 := ⟨wm_402, wm_5, rfl, by decide +kernel⟩
theorem pv_X8_dropOut : Cond.instanceMethod yX8_dropOut ∈ wsL_law ∧ Cond.selects "SealedGroupsModel" yX8_dropOut yX8_dropOut ∈ wsL_law := ⟨wm_400, wm_401⟩
set_option maxHeartbeats 4000000 in
set_option maxRecDepth 100000 in
theorem c_X8_dropOut (l : Launch) (E : En) (hA : AdOK E) {M : Mem} {a1 : Int32} {r0 : Int32} {M0 : Mem}  (h : f_X8_dropOut M a1 = some (r0, M0)) : Met l yX8_dropOut (Wm yX8_dropOut cX8_dropOut 2 (some .int)) ({ frames := 4, cells := 0, slots := 0, locals := 87 } : Room) (va_Pc [Value.ref (E.2.2 11 28), Value.int a1] (Wd E M)) (QI E r0 M0) 0 0 (AA E) := by
  refine Met.ofW (cc := cX8_dropOut) (maxL := 2) (ret := (some .int)) (by decide +kernel) rfl ?_
  intro p e s m args below meth c s₁ B hml hv
  obtain ⟨rfl, hP, hK⟩ := hv
  have X : Cx E (AA E) p s m c _ cX8_dropOut 2 RX8 := ⟨⟨B.exec, B.bytes, hml, findClass_of_methodNamed B.named, fun w hw => atoms_spec (ws := Wm yX8_dropOut cX8_dropOut 2 (some .int)) B.pre w (List.mem_cons_of_mem _ hw)⟩, hK, hA, fun _ h => h⟩
  have hx := B.exec
  have hb := B.bytes
  have hr := B.returns
  have hlocks := B.notSynchronized
  clear B hml
  have hS : va_S (AA E) s.heap s.heap [] := va_S.rf
  have hl := lv_entry ([Value.ref (E.2.2 11 28), Value.int a1]) (n := 2) (Nat.le_of_ble_eq_true rfl)
  rw [lg_entry_eq]
  generalize (lg_sl ([Value.ref (E.2.2 11 28), Value.int a1]) ++ List.replicate (2 - (lg_sl ([Value.ref (E.2.2 11 28), Value.int a1])).length) Slot.unset).toArray = ls at hl ⊢
  have hl : lv_has ls 2 [(0, .ref (E.2.2 11 28)), (1, .int a1)] := hl
  unfold f_X8_dropOut at h
  refine lv_iload_n hx hb dX8_dropOut_0 rfl (lv_at hl 1 rfl) ?_
  refine lv_iconst (v := 0) hx hb dX8_dropOut_1 (by decide) ?_
  refine lv_bipush (v := 7) hx hb dX8_dropOut_2 (by decide) ?_
  obtain ⟨v1, hv1, h⟩ := bO_e h
  refine mw_callSi X (c_X8_in l E hA hv1) pk_X8_in wm_184 wm_183 ⟨Nat.le_of_ble_eq_true rfl, Nat.le_of_ble_eq_true rfl⟩ ⟨rfl, rfl⟩ hP hS rfl hl.1 (Nat.le_of_ble_eq_true rfl) ⟨Nat.zero_le _, Nat.zero_le _⟩ rfl dX8_dropOut_4 (fun H locs hP hS => ?_)
  refine lv_if_ne (tgt := 13) hx hb dX8_dropOut_7 (by decide) (fun c2 => ?_) (fun c2 => ?_)
  · have h := br_0 h c2
    refine lv_aload_n hx hb dX8_dropOut_13 rfl (lv_at hl 0 rfl) ?_
    obtain ⟨v3, hv3, h⟩ := bO_e h
    refine mw_callVi X (c_X8_isStopped l E hA hv3) pk_X8_isStopped pv_X8_isStopped wm_186 ⟨Nat.le_of_ble_eq_true rfl, Nat.le_of_ble_eq_true rfl⟩ ⟨rfl, rfl⟩ hP hS ix_28 rfl rfl rfl rfl hl.1 (Nat.le_of_ble_eq_true rfl) ⟨Nat.zero_le _, Nat.zero_le _⟩ rfl dX8_dropOut_14 (fun H locs hP hS => ?_)
    refine lv_if_ne (tgt := 37) hx hb dX8_dropOut_17 (by decide) (fun c4 => ?_) (fun c4 => ?_)
    · have h := br_0 h c4
      refine lv_ldc hx hb X.1.2.2.2.1 (X.1.2.2.2.2 _ wm_180) dX8_dropOut_37 ?_
      have h := Option.some.inj h
      exact mw_iret X hr hlocks hP hS (congrArg Prod.fst h) (congrArg Prod.snd h) dX8_dropOut_39
    · have h := br_1 h c4
      refine lv_aload_n hx hb dX8_dropOut_20 rfl (lv_at hl 0 rfl) ?_
      refine lv_iload_n hx hb dX8_dropOut_21 rfl (lv_at hl 1 rfl) ?_
      refine lv_iconst (v := 2) hx hb dX8_dropOut_22 (by decide) ?_
      obtain ⟨v5, hv5, h⟩ := bO_e h
      refine mw_callVi X (c_X8_ofPage l E hA hv5) pk_X8_ofPage pv_X8_ofPage wm_253 ⟨Nat.le_of_ble_eq_true rfl, Nat.le_of_ble_eq_true rfl⟩ ⟨rfl, rfl⟩ hP hS ix_28 rfl rfl rfl rfl hl.1 (Nat.le_of_ble_eq_true rfl) ⟨Nat.zero_le _, Nat.zero_le _⟩ rfl dX8_dropOut_23 (fun H locs hP hS => ?_)
      refine lv_if_eq (tgt := 37) hx hb dX8_dropOut_26 (by decide) (fun c6 => ?_) (fun c6 => ?_)
      · have h := br_1 h c6
        refine lv_ldc hx hb X.1.2.2.2.1 (X.1.2.2.2.2 _ wm_180) dX8_dropOut_37 ?_
        have h := Option.some.inj h
        exact mw_iret X hr hlocks hP hS (congrArg Prod.fst h) (congrArg Prod.snd h) dX8_dropOut_39
      · have h := br_0 h c6
        refine lv_aload_n hx hb dX8_dropOut_29 rfl (lv_at hl 0 rfl) ?_
        refine lv_iload_n hx hb dX8_dropOut_30 rfl (lv_at hl 1 rfl) ?_
        obtain ⟨v7, hv7, h⟩ := bO_e h
        refine mw_callVi X (c_X8_isDirty l E hA hv7) pk_X8_isDirty pv_X8_isDirty wm_261 ⟨Nat.le_of_ble_eq_true rfl, Nat.le_of_ble_eq_true rfl⟩ ⟨rfl, rfl⟩ hP hS ix_28 rfl rfl rfl rfl hl.1 (Nat.le_of_ble_eq_true rfl) ⟨Nat.zero_le _, Nat.zero_le _⟩ rfl dX8_dropOut_31 (fun H locs hP hS => ?_)
        refine lv_if_eq (tgt := 40) hx hb dX8_dropOut_34 (by decide) (fun c8 => ?_) (fun c8 => ?_)
        · have h := br_1 h c8
          refine lv_aload_n hx hb dX8_dropOut_40 rfl (lv_at hl 0 rfl) ?_
          obtain ⟨M10, hv9, h⟩ := bO_e h
          refine mw_callVv X (c_X8_changes l E hA hv9) pk_X8_changes pv_X8_changes wm_198 ⟨Nat.le_of_ble_eq_true rfl, Nat.le_of_ble_eq_true rfl⟩ ⟨rfl, rfl⟩ hP hS ix_28 rfl rfl rfl rfl hl.1 (Nat.le_of_ble_eq_true rfl) ⟨Nat.zero_le _, Nat.zero_le _⟩ rfl dX8_dropOut_41 (fun H locs hP hS => ?_)
          refine lv_aload_n hx hb dX8_dropOut_44 rfl (lv_at hl 0 rfl) ?_
          refine lv_iload_n hx hb dX8_dropOut_45 rfl (lv_at hl 1 rfl) ?_
          refine lv_iconst (v := 2) hx hb dX8_dropOut_46 (by decide) ?_
          refine lv_iconst (v := 0) hx hb dX8_dropOut_47 (by decide) ?_
          obtain ⟨M12, hv11, h⟩ := bO_e h
          refine mw_callVv X (c_X8_putsPage l E hA hv11) pk_X8_putsPage pv_X8_putsPage wm_269 ⟨Nat.le_of_ble_eq_true rfl, Nat.le_of_ble_eq_true rfl⟩ ⟨rfl, rfl⟩ hP hS ix_28 rfl rfl rfl rfl hl.1 (Nat.le_of_ble_eq_true rfl) ⟨Nat.zero_le _, Nat.zero_le _⟩ rfl dX8_dropOut_48 (fun H locs hP hS => ?_)
          refine lv_aload_n hx hb dX8_dropOut_51 rfl (lv_at hl 0 rfl) ?_
          refine lv_iconst (v := 0) hx hb dX8_dropOut_52 (by decide) ?_
          obtain ⟨v13, hv13, h⟩ := bO_e h
          refine mw_callVi X (c_X8_pages l E hA hv13) pk_X8_pages pv_X8_pages wm_403 ⟨Nat.le_of_ble_eq_true rfl, Nat.le_of_ble_eq_true rfl⟩ ⟨rfl, rfl⟩ hP hS ix_28 rfl rfl rfl rfl hl.1 (Nat.le_of_ble_eq_true rfl) ⟨Nat.zero_le _, Nat.zero_le _⟩ rfl dX8_dropOut_53 (fun H locs hP hS => ?_)
          obtain ⟨v14, hv14, h⟩ := bO_e h
          refine mw_callSi X (c_X8_bits l E hA hv14) pk_X8_bits wm_317 wm_316 ⟨Nat.le_of_ble_eq_true rfl, Nat.le_of_ble_eq_true rfl⟩ ⟨rfl, rfl⟩ hP hS rfl hl.1 (Nat.le_of_ble_eq_true rfl) ⟨Nat.zero_le _, Nat.zero_le _⟩ rfl dX8_dropOut_56 (fun H locs hP hS => ?_)
          have h := Option.some.inj h
          exact mw_iret X hr hlocks hP hS (congrArg Prod.fst h) (congrArg Prod.snd h) dX8_dropOut_59
        · have h := br_0 h c8
          refine lv_ldc hx hb X.1.2.2.2.1 (X.1.2.2.2.2 _ wm_180) dX8_dropOut_37 ?_
          have h := Option.some.inj h
          exact mw_iret X hr hlocks hP hS (congrArg Prod.fst h) (congrArg Prod.snd h) dX8_dropOut_39
  · have h := br_1 h c2
    refine lv_ldc hx hb X.1.2.2.2.1 (X.1.2.2.2.2 _ wm_179) dX8_dropOut_10 ?_
    have h := Option.some.inj h
    exact mw_iret X hr hlocks hP hS (congrArg Prod.fst h) (congrArg Prod.snd h) dX8_dropOut_12
/-! SealedGroupsModel.openSet -/
noncomputable def f_X8_openSet_L4  (M : Mem) (K4 : Int32 → Int32 → Option Int32) (y1 y2 : Int32) : Option Int32 :=
(if (4 : Int32) ≤ y2 then
some y1
else
bO (f_X8_ofGroup M y2 (0 : Int32)) (fun v2 =>
bd ((y1 ||| (v2 <<< (y2 &&& 31)))) (fun x3 =>
bd (y2 + (1 : Int32)) (fun x4 =>
K4 x3 x4))))
noncomputable def f_X8_openSet  (M : Mem) : Option Int32 :=
itr (f_X8_openSet_L4 M) (fun _ _ => none) FU (0 : Int32) (0 : Int32)
theorem pk_X8_openSet : Pk "SealedGroupsModel" yX8_openSet cX8_openSet 3 (some .int) 0 := ⟨wm_431, wm_5, rfl, by decide +kernel⟩
theorem pv_X8_openSet : Cond.instanceMethod yX8_openSet ∈ wsL_law ∧ Cond.selects "SealedGroupsModel" yX8_openSet yX8_openSet ∈ wsL_law := ⟨wm_429, wm_430⟩
set_option maxHeartbeats 4000000 in
set_option maxRecDepth 100000 in
theorem c_X8_openSet (l : Launch) (E : En) (hA : AdOK E) {M : Mem} {r0 : Int32}  (h : f_X8_openSet M = some r0) : Met l yX8_openSet (Wm yX8_openSet cX8_openSet 3 (some .int)) ({ frames := 1, cells := 0, slots := 0, locals := 22 } : Room) (va_Pc [Value.ref (E.2.2 11 28)] (Wd E M)) (QI E r0 M) 0 0 (AA E) := by
  refine Met.ofW (cc := cX8_openSet) (maxL := 3) (ret := (some .int)) (by decide +kernel) rfl ?_
  intro p e s m args below meth c s₁ B hml hv
  obtain ⟨rfl, hP, hK⟩ := hv
  have X : Cx E (AA E) p s m c _ cX8_openSet 3 RX8 := ⟨⟨B.exec, B.bytes, hml, findClass_of_methodNamed B.named, fun w hw => atoms_spec (ws := Wm yX8_openSet cX8_openSet 3 (some .int)) B.pre w (List.mem_cons_of_mem _ hw)⟩, hK, hA, fun _ h => h⟩
  have hx := B.exec
  have hb := B.bytes
  have hr := B.returns
  have hlocks := B.notSynchronized
  clear B hml
  have hS : va_S (AA E) s.heap s.heap [] := va_S.rf
  have hl := lv_entry ([Value.ref (E.2.2 11 28)]) (n := 3) (Nat.le_of_ble_eq_true rfl)
  rw [lg_entry_eq]
  generalize (lg_sl ([Value.ref (E.2.2 11 28)]) ++ List.replicate (3 - (lg_sl ([Value.ref (E.2.2 11 28)])).length) Slot.unset).toArray = ls at hl ⊢
  have hl : lv_has ls 3 [(0, .ref (E.2.2 11 28))] := hl
  have w_L4 : ∀ (n4 : Nat)  (y1 y2 : Int32) (H : Heap) (locs : List Loc) (ls : Array Slot), itr (f_X8_openSet_L4 M) (fun _ _ => none) n4 y1 y2 = some r0 → va_P E.1 vwCl (wl E M) H → va_S (AA E) s.heap H locs → lv_has ls 3 [(0, .ref (E.2.2 11 28)), (1, .int y1), (2, .int y2)] → W p l e (headSpec (Wm yX8_openSet cX8_openSet 3 (some .int)) ({ frames := 1, cells := 0, slots := 0, locals := 22 } : Room)).room s m ([Value.ref (E.2.2 11 28)] : List Value).toArray below meth c H locs 0 0 (MQ below (QI E r0 M) ([Value.ref (E.2.2 11 28)] : List Value).toArray s 0 0 (AA E)) (F0 m 4 ls []) := by
    intro n4
    induction n4 with
    | zero => intro y1 y2 H locs ls h; exact (nomatch (show (none : Option Int32) = some _ from h))
    | succ n4 ih4 =>
      intro y1 y2 H locs ls h hP hS hl
      have h : f_X8_openSet_L4 M (itr (f_X8_openSet_L4 M) (fun _ _ => none) n4) y1 y2 = some r0 := h
      unfold f_X8_openSet_L4 at h
      refine lv_iload_n hx hb dX8_openSet_4 rfl (lv_at hl 2 rfl) ?_
      refine lv_iconst (v := 4) hx hb dX8_openSet_5 (by decide) ?_
      refine lv_icmp_ge (tgt := 26) hx hb dX8_openSet_6 (by decide) (fun c1 => ?_) (fun c1 => ?_)
      · have h := br_1 h c1
        refine lv_iload_n hx hb dX8_openSet_26 rfl (lv_at hl 1 rfl) ?_
        exact mw_iret X hr hlocks hP hS (Option.some.inj h) rfl dX8_openSet_27
      · have h := br_0 h c1
        refine lv_iload_n hx hb dX8_openSet_9 rfl (lv_at hl 1 rfl) ?_
        refine lv_aload_n hx hb dX8_openSet_10 rfl (lv_at hl 0 rfl) ?_
        refine lv_iload_n hx hb dX8_openSet_11 rfl (lv_at hl 2 rfl) ?_
        refine lv_iconst (v := 0) hx hb dX8_openSet_12 (by decide) ?_
        obtain ⟨v2, hv2, h⟩ := bO_e h
        refine mw_callVi X (c_X8_ofGroup l E hA hv2) pk_X8_ofGroup pv_X8_ofGroup wm_194 ⟨Nat.le_of_ble_eq_true rfl, Nat.le_of_ble_eq_true rfl⟩ ⟨rfl, rfl⟩ hP hS ix_28 rfl rfl rfl rfl hl.1 (Nat.le_of_ble_eq_true rfl) ⟨Nat.zero_le _, Nat.zero_le _⟩ rfl dX8_openSet_13 (fun H locs hP hS => ?_)
        refine lv_iload_n hx hb dX8_openSet_16 rfl (lv_at hl 2 rfl) ?_
        refine lv_ishl hx hb dX8_openSet_17 ?_
        refine lv_ior hx hb dX8_openSet_18 ?_
        refine lv_topi (fun x3 ex3 => ?_)
        have h := bd_e h ex3
        refine lv_istore_n (lv' := [(1, .int x3), (0, .ref (E.2.2 11 28)), (2, .int y2)]) hx hb dX8_openSet_19 rfl hl (by decide) rfl (fun ls hl => ?_)
        obtain ⟨x4, ex4⟩ : ∃ y : Int32, y = y2 + (1 : Int32) := ⟨_, rfl⟩
        have h := bd_e h ex4
        refine lv_iinc (v := x4) (lv' := [(2, .int x4), (1, .int x3), (0, .ref (E.2.2 11 28))]) hx hb dX8_openSet_20 hl (k := 2) rfl (by rw [ex4]; rfl) (by decide) rfl (fun ls hl => ?_)
        refine lv_goto (tgt := 4) hx hb dX8_openSet_23 (by decide) ?_
        exact ih4 _ _ _ _ _ h hP hS (lv_sub hl [2, 1, 0] rfl)
  unfold f_X8_openSet at h
  refine lv_iconst (v := 0) hx hb dX8_openSet_0 (by decide) ?_
  refine lv_istore_n (lv' := [(1, .int (0 : Int32)), (0, .ref (E.2.2 11 28))]) hx hb dX8_openSet_1 rfl hl (by decide) rfl (fun ls hl => ?_)
  refine lv_iconst (v := 0) hx hb dX8_openSet_2 (by decide) ?_
  refine lv_istore_n (lv' := [(2, .int (0 : Int32)), (1, .int (0 : Int32)), (0, .ref (E.2.2 11 28))]) hx hb dX8_openSet_3 rfl hl (by decide) rfl (fun ls hl => ?_)
  exact w_L4 FU _ _ _ _ _ h hP hS (lv_sub hl [2, 1, 0] rfl)
/-! SealedGroupsModel.checkpoint -/
noncomputable def f_X8_checkpoint_L122  (K88 : Mem → Int32 → Int32 → Int32 → Option (Int32 × Mem)) (M : Mem) (y1 y2 y3 z0 z1 : Int32) : Option (Int32 × Mem) :=
gd (inb z1 2117) (
bd (st M 11 29 (z1).toNatClampNeg z0) (fun M20 =>
bd (y3 + (1 : Int32)) (fun x22 =>
K88 M20 y1 y2 x22)))
noncomputable def f_X8_checkpoint_L88  (K88 : Mem → Int32 → Int32 → Int32 → Option (Int32 × Mem)) (M : Mem) (y1 y2 y3 : Int32) : Option (Int32 × Mem) :=
(if (8 : Int32) ≤ y3 then
bP (f_X8_forces M y1) (fun v16 M17 =>
some (y1, M17))
else
bO (f_X8_isDirty M y3) (fun v18 =>
(if v18 = 0 then
f_X8_checkpoint_L122 K88 M y1 y2 y3 (0 : Int32) ((y2 + (8 : Int32)) + y3)
else
bO (f_X8_ofPage M y3 (5 : Int32)) (fun v23 =>
f_X8_checkpoint_L122 K88 M y1 y2 y3 v23 ((y2 + (8 : Int32)) + y3)))))
noncomputable def f_X8_checkpoint  (M : Mem) : Option (Int32 × Mem) :=
bO (f_X8_isStopped M) (fun v1 =>
(if v1 = 0 then
(if (M 11 29 1) < (60 : Int32) then
bO (f_X8_changes M) (fun M5 =>
bP (f_X8_adds M5 (5 : Int32) (-1000004 : Int32) (-1000004 : Int32) (-1000004 : Int32) (-1000004 : Int32) (-1000004 : Int32)) (fun v6 M7 =>
bd (((69 : Int32) + ((16 : Int32) * (v6 - (M7 11 29 0))))) (fun x8 =>
bO (f_X8_openSet M7) (fun v9 =>
gd (inb (x8 + (6 : Int32)) 2117) (
bd (st M7 11 29 ((x8 + (6 : Int32))).toNatClampNeg v9) (fun M10 =>
bO (f_X8_pages M10 (1 : Int32)) (fun v12 =>
gd (inb (x8 + (7 : Int32)) 2117) (
bd (st M10 11 29 ((x8 + (7 : Int32))).toNatClampNeg v12) (fun M13 =>
itr (f_X8_checkpoint_L88 ) (fun _ _ _ _ => none) FU M13 v6 x8 (0 : Int32))))))))))
else
some ((-1000003 : Int32), M))
else
some ((-1000002 : Int32), M)))
theorem pk_X8_checkpoint : Pk "SealedGroupsModel" yX8_checkpoint cX8_checkpoint 4 (some .int) 0 := ⟨wm_427, wm_5, rfl, by decide +kernel⟩
theorem pv_X8_checkpoint : Cond.instanceMethod yX8_checkpoint ∈ wsL_law ∧ Cond.selects "SealedGroupsModel" yX8_checkpoint yX8_checkpoint ∈ wsL_law := ⟨wm_425, wm_426⟩
set_option maxHeartbeats 4000000 in
set_option maxRecDepth 100000 in
theorem c_X8_checkpoint (l : Launch) (E : En) (hA : AdOK E) {M : Mem} {r0 : Int32} {M0 : Mem}  (h : f_X8_checkpoint M = some (r0, M0)) : Met l yX8_checkpoint (Wm yX8_checkpoint cX8_checkpoint 4 (some .int)) ({ frames := 4, cells := 0, slots := 0, locals := 87 } : Room) (va_Pc [Value.ref (E.2.2 11 28)] (Wd E M)) (QI E r0 M0) 0 0 (AA E) := by
  refine Met.ofW (cc := cX8_checkpoint) (maxL := 4) (ret := (some .int)) (by decide +kernel) rfl ?_
  intro p e s m args below meth c s₁ B hml hv
  obtain ⟨rfl, hP, hK⟩ := hv
  have X : Cx E (AA E) p s m c _ cX8_checkpoint 4 RX8 := ⟨⟨B.exec, B.bytes, hml, findClass_of_methodNamed B.named, fun w hw => atoms_spec (ws := Wm yX8_checkpoint cX8_checkpoint 4 (some .int)) B.pre w (List.mem_cons_of_mem _ hw)⟩, hK, hA, fun _ h => h⟩
  have hx := B.exec
  have hb := B.bytes
  have hr := B.returns
  have hlocks := B.notSynchronized
  clear B hml
  have hS : va_S (AA E) s.heap s.heap [] := va_S.rf
  have hl := lv_entry ([Value.ref (E.2.2 11 28)]) (n := 4) (Nat.le_of_ble_eq_true rfl)
  rw [lg_entry_eq]
  generalize (lg_sl ([Value.ref (E.2.2 11 28)]) ++ List.replicate (4 - (lg_sl ([Value.ref (E.2.2 11 28)])).length) Slot.unset).toArray = ls at hl ⊢
  have hl : lv_has ls 4 [(0, .ref (E.2.2 11 28))] := hl
  have w_L88 : ∀ (n88 : Nat) (M : Mem) (y1 y2 y3 : Int32) (H : Heap) (locs : List Loc) (ls : Array Slot), itr (f_X8_checkpoint_L88 ) (fun _ _ _ _ => none) n88 M y1 y2 y3 = some (r0, M0) → va_P E.1 vwCl (wl E M) H → va_S (AA E) s.heap H locs → lv_has ls 4 [(0, .ref (E.2.2 11 28)), (1, .int y1), (2, .int y2), (3, .int y3)] → W p l e (headSpec (Wm yX8_checkpoint cX8_checkpoint 4 (some .int)) ({ frames := 4, cells := 0, slots := 0, locals := 87 } : Room)).room s m ([Value.ref (E.2.2 11 28)] : List Value).toArray below meth c H locs 0 0 (MQ below (QI E r0 M0) ([Value.ref (E.2.2 11 28)] : List Value).toArray s 0 0 (AA E)) (F0 m 88 ls []) := by
    intro n88
    induction n88 with
    | zero => intro M y1 y2 y3 H locs ls h; exact (nomatch (show (none : Option (Int32 × Mem)) = some _ from h))
    | succ n88 ih88 =>
      intro M y1 y2 y3 H locs ls h hP hS hl
      have h : f_X8_checkpoint_L88 (itr (f_X8_checkpoint_L88 ) (fun _ _ _ _ => none) n88) M y1 y2 y3 = some (r0, M0) := h
      have w_L122 : ∀ (M : Mem) (y1 y2 y3 z0 z1 : Int32) (H : Heap) (locs : List Loc) (ls : Array Slot), f_X8_checkpoint_L122 (itr (f_X8_checkpoint_L88 ) (fun _ _ _ _ => none) n88) M y1 y2 y3 z0 z1 = some (r0, M0) → va_P E.1 vwCl (wl E M) H → va_S (AA E) s.heap H locs → lv_has ls 4 [(0, .ref (E.2.2 11 28)), (1, .int y1), (2, .int y2), (3, .int y3)] → W p l e (headSpec (Wm yX8_checkpoint cX8_checkpoint 4 (some .int)) ({ frames := 4, cells := 0, slots := 0, locals := 87 } : Room)).room s m ([Value.ref (E.2.2 11 28)] : List Value).toArray below meth c H locs 0 0 (MQ below (QI E r0 M0) ([Value.ref (E.2.2 11 28)] : List Value).toArray s 0 0 (AA E)) (F0 m 122 ls [.int z0, .int z1, .ref (E.2.2 11 29)]) := by
        intro M y1 y2 y3 z0 z1 H locs ls h hP hS hl
        unfold f_X8_checkpoint_L122 at h
        obtain ⟨g21, h⟩ := gd_e h
        refine mw_st X hP hS ix_29 (fun _ => rfl) (inb_vp g21) rfl dX8_checkpoint_122 (fun H locs M20 eM20 hP hS => ?_)
        have h := bd_e h eM20
        obtain ⟨x22, ex22⟩ : ∃ y : Int32, y = y3 + (1 : Int32) := ⟨_, rfl⟩
        have h := bd_e h ex22
        refine lv_iinc (v := x22) (lv' := [(3, .int x22), (0, .ref (E.2.2 11 28)), (1, .int y1), (2, .int y2)]) hx hb dX8_checkpoint_123 hl (k := 3) rfl (by rw [ex22]; rfl) (by decide) rfl (fun ls hl => ?_)
        refine lv_goto (tgt := 88) hx hb dX8_checkpoint_126 (by decide) ?_
        exact ih88 _ _ _ _ _ _ _ h hP hS (lv_sub hl [1, 2, 3, 0] rfl)
      unfold f_X8_checkpoint_L88 at h
      refine lv_iload_n hx hb dX8_checkpoint_88 rfl (lv_at hl 3 rfl) ?_
      refine lv_bipush (v := 8) hx hb dX8_checkpoint_89 (by decide) ?_
      refine lv_icmp_ge (tgt := 129) hx hb dX8_checkpoint_91 (by decide) (fun c15 => ?_) (fun c15 => ?_)
      · have h := br_1 h c15
        refine lv_aload_n hx hb dX8_checkpoint_129 rfl (lv_at hl 0 rfl) ?_
        refine lv_iload_n hx hb dX8_checkpoint_130 rfl (lv_at hl 1 rfl) ?_
        obtain ⟨v16, M17, hv16, h⟩ := bP_e h
        refine mw_callVi X (c_X8_forces l E hA hv16) pk_X8_forces pv_X8_forces wm_312 ⟨Nat.le_of_ble_eq_true rfl, Nat.le_of_ble_eq_true rfl⟩ ⟨rfl, rfl⟩ hP hS ix_28 rfl rfl rfl rfl hl.1 (Nat.le_of_ble_eq_true rfl) ⟨Nat.zero_le _, Nat.zero_le _⟩ rfl dX8_checkpoint_131 (fun H locs hP hS => ?_)
        refine lv_pop hx hb dX8_checkpoint_134 rfl ?_
        refine lv_iload_n hx hb dX8_checkpoint_135 rfl (lv_at hl 1 rfl) ?_
        have h := Option.some.inj h
        exact mw_iret X hr hlocks hP hS (congrArg Prod.fst h) (congrArg Prod.snd h) dX8_checkpoint_136
      · have h := br_0 h c15
        refine lv_aload_n hx hb dX8_checkpoint_94 rfl (lv_at hl 0 rfl) ?_
        refine gt_8_0 X wm_90 hP ix_28 dX8_checkpoint_95 ?_
        refine lv_iload_n hx hb dX8_checkpoint_98 rfl (lv_at hl 2 rfl) ?_
        refine lv_bipush (v := 8) hx hb dX8_checkpoint_99 (by decide) ?_
        refine lv_iadd hx hb dX8_checkpoint_101 ?_
        refine lv_iload_n hx hb dX8_checkpoint_102 rfl (lv_at hl 3 rfl) ?_
        refine lv_iadd hx hb dX8_checkpoint_103 ?_
        refine lv_aload_n hx hb dX8_checkpoint_104 rfl (lv_at hl 0 rfl) ?_
        refine lv_iload_n hx hb dX8_checkpoint_105 rfl (lv_at hl 3 rfl) ?_
        obtain ⟨v18, hv18, h⟩ := bO_e h
        refine mw_callVi X (c_X8_isDirty l E hA hv18) pk_X8_isDirty pv_X8_isDirty wm_261 ⟨Nat.le_of_ble_eq_true rfl, Nat.le_of_ble_eq_true rfl⟩ ⟨rfl, rfl⟩ hP hS ix_28 rfl rfl rfl rfl hl.1 (Nat.le_of_ble_eq_true rfl) ⟨Nat.zero_le _, Nat.zero_le _⟩ rfl dX8_checkpoint_106 (fun H locs hP hS => ?_)
        refine lv_if_eq (tgt := 121) hx hb dX8_checkpoint_109 (by decide) (fun c19 => ?_) (fun c19 => ?_)
        · have h := br_1 h c19
          refine lv_iconst (v := 0) hx hb dX8_checkpoint_121 (by decide) ?_
          exact w_L122 _ _ _ _ _ _ _ _ _ h hP hS (lv_sub hl [0, 1, 2, 3] rfl)
        · have h := br_0 h c19
          refine lv_aload_n hx hb dX8_checkpoint_112 rfl (lv_at hl 0 rfl) ?_
          refine lv_iload_n hx hb dX8_checkpoint_113 rfl (lv_at hl 3 rfl) ?_
          refine lv_iconst (v := 5) hx hb dX8_checkpoint_114 (by decide) ?_
          obtain ⟨v23, hv23, h⟩ := bO_e h
          refine mw_callVi X (c_X8_ofPage l E hA hv23) pk_X8_ofPage pv_X8_ofPage wm_253 ⟨Nat.le_of_ble_eq_true rfl, Nat.le_of_ble_eq_true rfl⟩ ⟨rfl, rfl⟩ hP hS ix_28 rfl rfl rfl rfl hl.1 (Nat.le_of_ble_eq_true rfl) ⟨Nat.zero_le _, Nat.zero_le _⟩ rfl dX8_checkpoint_115 (fun H locs hP hS => ?_)
          refine lv_goto (tgt := 122) hx hb dX8_checkpoint_118 (by decide) ?_
          exact w_L122 _ _ _ _ _ _ _ _ _ h hP hS (lv_sub hl [0, 1, 2, 3] rfl)
  unfold f_X8_checkpoint at h
  refine lv_aload_n hx hb dX8_checkpoint_0 rfl (lv_at hl 0 rfl) ?_
  obtain ⟨v1, hv1, h⟩ := bO_e h
  refine mw_callVi X (c_X8_isStopped l E hA hv1) pk_X8_isStopped pv_X8_isStopped wm_186 ⟨Nat.le_of_ble_eq_true rfl, Nat.le_of_ble_eq_true rfl⟩ ⟨rfl, rfl⟩ hP hS ix_28 rfl rfl rfl rfl hl.1 (Nat.le_of_ble_eq_true rfl) ⟨Nat.zero_le _, Nat.zero_le _⟩ rfl dX8_checkpoint_1 (fun H locs hP hS => ?_)
  refine lv_if_eq (tgt := 10) hx hb dX8_checkpoint_4 (by decide) (fun c2 => ?_) (fun c2 => ?_)
  · have h := br_1 h c2
    refine lv_aload_n hx hb dX8_checkpoint_10 rfl (lv_at hl 0 rfl) ?_
    refine gt_8_0 X wm_90 hP ix_28 dX8_checkpoint_11 ?_
    refine lv_iconst (v := 1) hx hb dX8_checkpoint_14 (by decide) ?_
    refine mw_ld X hP ix_29 rfl (v := (M 11 29 1)) (inb_vp (by decide)) rfl dX8_checkpoint_15 ?_
    refine lv_bipush (v := 60) hx hb dX8_checkpoint_16 (by decide) ?_
    refine lv_icmp_lt (tgt := 24) hx hb dX8_checkpoint_18 (by decide) (fun c3 => ?_) (fun c3 => ?_)
    · have h := br_1 h c3
      refine lv_aload_n hx hb dX8_checkpoint_24 rfl (lv_at hl 0 rfl) ?_
      obtain ⟨M5, hv4, h⟩ := bO_e h
      refine mw_callVv X (c_X8_changes l E hA hv4) pk_X8_changes pv_X8_changes wm_198 ⟨Nat.le_of_ble_eq_true rfl, Nat.le_of_ble_eq_true rfl⟩ ⟨rfl, rfl⟩ hP hS ix_28 rfl rfl rfl rfl hl.1 (Nat.le_of_ble_eq_true rfl) ⟨Nat.zero_le _, Nat.zero_le _⟩ rfl dX8_checkpoint_25 (fun H locs hP hS => ?_)
      refine lv_aload_n hx hb dX8_checkpoint_28 rfl (lv_at hl 0 rfl) ?_
      refine lv_iconst (v := 5) hx hb dX8_checkpoint_29 (by decide) ?_
      refine lv_ldc hx hb X.1.2.2.2.1 (X.1.2.2.2.2 _ wm_182) dX8_checkpoint_30 ?_
      refine lv_ldc hx hb X.1.2.2.2.1 (X.1.2.2.2.2 _ wm_182) dX8_checkpoint_32 ?_
      refine lv_ldc hx hb X.1.2.2.2.1 (X.1.2.2.2.2 _ wm_182) dX8_checkpoint_34 ?_
      refine lv_ldc hx hb X.1.2.2.2.1 (X.1.2.2.2.2 _ wm_182) dX8_checkpoint_36 ?_
      refine lv_ldc hx hb X.1.2.2.2.1 (X.1.2.2.2.2 _ wm_182) dX8_checkpoint_38 ?_
      obtain ⟨v6, M7, hv6, h⟩ := bP_e h
      refine mw_callVi X (c_X8_adds l E hA hv6) pk_X8_adds pv_X8_adds wm_204 ⟨Nat.le_of_ble_eq_true rfl, Nat.le_of_ble_eq_true rfl⟩ ⟨rfl, rfl⟩ hP hS ix_28 rfl rfl rfl rfl hl.1 (Nat.le_of_ble_eq_true rfl) ⟨Nat.zero_le _, Nat.zero_le _⟩ rfl dX8_checkpoint_40 (fun H locs hP hS => ?_)
      refine lv_istore_n (lv' := [(1, .int v6), (0, .ref (E.2.2 11 28))]) hx hb dX8_checkpoint_43 rfl hl (by decide) rfl (fun ls hl => ?_)
      refine lv_bipush (v := 69) hx hb dX8_checkpoint_44 (by decide) ?_
      refine lv_bipush (v := 16) hx hb dX8_checkpoint_46 (by decide) ?_
      refine lv_iload_n hx hb dX8_checkpoint_48 rfl (lv_at hl 0 rfl) ?_
      refine lv_aload_n hx hb dX8_checkpoint_49 rfl (lv_at hl 1 rfl) ?_
      refine gt_8_0 X wm_90 hP ix_28 dX8_checkpoint_50 ?_
      refine lv_iconst (v := 0) hx hb dX8_checkpoint_53 (by decide) ?_
      refine mw_ld X hP ix_29 rfl (v := (M7 11 29 0)) (inb_vp (by decide)) rfl dX8_checkpoint_54 ?_
      refine lv_isub hx hb dX8_checkpoint_55 ?_
      refine lv_imul hx hb dX8_checkpoint_56 ?_
      refine lv_iadd hx hb dX8_checkpoint_57 ?_
      refine lv_topi (fun x8 ex8 => ?_)
      have h := bd_e h ex8
      refine lv_istore_n (lv' := [(2, .int x8), (1, .int v6), (0, .ref (E.2.2 11 28))]) hx hb dX8_checkpoint_58 rfl hl (by decide) rfl (fun ls hl => ?_)
      refine lv_aload_n hx hb dX8_checkpoint_59 rfl (lv_at hl 2 rfl) ?_
      refine gt_8_0 X wm_90 hP ix_28 dX8_checkpoint_60 ?_
      refine lv_iload_n hx hb dX8_checkpoint_63 rfl (lv_at hl 0 rfl) ?_
      refine lv_bipush (v := 6) hx hb dX8_checkpoint_64 (by decide) ?_
      refine lv_iadd hx hb dX8_checkpoint_66 ?_
      refine lv_aload_n hx hb dX8_checkpoint_67 rfl (lv_at hl 2 rfl) ?_
      obtain ⟨v9, hv9, h⟩ := bO_e h
      refine mw_callVi X (c_X8_openSet l E hA hv9) pk_X8_openSet pv_X8_openSet wm_428 ⟨Nat.le_of_ble_eq_true rfl, Nat.le_of_ble_eq_true rfl⟩ ⟨rfl, rfl⟩ hP hS ix_28 rfl rfl rfl rfl hl.1 (Nat.le_of_ble_eq_true rfl) ⟨Nat.zero_le _, Nat.zero_le _⟩ rfl dX8_checkpoint_68 (fun H locs hP hS => ?_)
      obtain ⟨g11, h⟩ := gd_e h
      refine mw_st X hP hS ix_29 (fun _ => rfl) (inb_vp g11) rfl dX8_checkpoint_71 (fun H locs M10 eM10 hP hS => ?_)
      have h := bd_e h eM10
      refine lv_aload_n hx hb dX8_checkpoint_72 rfl (lv_at hl 2 rfl) ?_
      refine gt_8_0 X wm_90 hP ix_28 dX8_checkpoint_73 ?_
      refine lv_iload_n hx hb dX8_checkpoint_76 rfl (lv_at hl 0 rfl) ?_
      refine lv_bipush (v := 7) hx hb dX8_checkpoint_77 (by decide) ?_
      refine lv_iadd hx hb dX8_checkpoint_79 ?_
      refine lv_aload_n hx hb dX8_checkpoint_80 rfl (lv_at hl 2 rfl) ?_
      refine lv_iconst (v := 1) hx hb dX8_checkpoint_81 (by decide) ?_
      obtain ⟨v12, hv12, h⟩ := bO_e h
      refine mw_callVi X (c_X8_pages l E hA hv12) pk_X8_pages pv_X8_pages wm_403 ⟨Nat.le_of_ble_eq_true rfl, Nat.le_of_ble_eq_true rfl⟩ ⟨rfl, rfl⟩ hP hS ix_28 rfl rfl rfl rfl hl.1 (Nat.le_of_ble_eq_true rfl) ⟨Nat.zero_le _, Nat.zero_le _⟩ rfl dX8_checkpoint_82 (fun H locs hP hS => ?_)
      obtain ⟨g14, h⟩ := gd_e h
      refine mw_st X hP hS ix_29 (fun _ => rfl) (inb_vp g14) rfl dX8_checkpoint_85 (fun H locs M13 eM13 hP hS => ?_)
      have h := bd_e h eM13
      refine lv_iconst (v := 0) hx hb dX8_checkpoint_86 (by decide) ?_
      refine lv_istore_n (lv' := [(3, .int (0 : Int32)), (2, .int x8), (1, .int v6), (0, .ref (E.2.2 11 28))]) hx hb dX8_checkpoint_87 rfl hl (by decide) rfl (fun ls hl => ?_)
      exact w_L88 FU _ _ _ _ _ _ _ h hP hS (lv_sub hl [3, 2, 1, 0] rfl)
    · have h := br_0 h c3
      refine lv_ldc hx hb X.1.2.2.2.1 (X.1.2.2.2.2 _ wm_181) dX8_checkpoint_21 ?_
      have h := Option.some.inj h
      exact mw_iret X hr hlocks hP hS (congrArg Prod.fst h) (congrArg Prod.snd h) dX8_checkpoint_23
  · have h := br_0 h c2
    refine lv_ldc hx hb X.1.2.2.2.1 (X.1.2.2.2.2 _ wm_180) dX8_checkpoint_7 ?_
    have h := Option.some.inj h
    exact mw_iret X hr hlocks hP hS (congrArg Prod.fst h) (congrArg Prod.snd h) dX8_checkpoint_9
/-! SealedGroupsModel.latest -/
noncomputable def f_X8_latest_L32  (M : Mem) (K9 : Int32 → Int32 → Option Int32) (y2 z0 : Int32) : Option Int32 :=
bd (y2 + (1 : Int32)) (fun x6 =>
K9 z0 x6)
noncomputable def f_X8_latest_L9  (M : Mem) (K9 : Int32 → Int32 → Option Int32) (y1 y2 : Int32) : Option Int32 :=
bO (f_X8_last M) (fun v2 =>
(if v2 < y2 then
some y1
else
bO (f_X8_of M y2 (0 : Int32)) (fun v4 =>
(if v4 = (5 : Int32) then
f_X8_latest_L32 M K9 y2 y2
else
f_X8_latest_L32 M K9 y2 y1))))
noncomputable def f_X8_latest  (M : Mem) : Option Int32 :=
bd ((M 11 29 0)) (fun x1 =>
itr (f_X8_latest_L9 M) (fun _ _ => none) FU (0 : Int32) x1)
theorem pk_X8_latest : Pk "SealedGroupsModel" yX8_latest cX8_latest 3 (some .int) 0 := ⟨wm_455, wm_5, rfl, by decide +kernel⟩
theorem pv_X8_latest : Cond.instanceMethod yX8_latest ∈ wsL_law ∧ Cond.selects "SealedGroupsModel" yX8_latest yX8_latest ∈ wsL_law := ⟨wm_453, wm_454⟩
set_option maxHeartbeats 4000000 in
set_option maxRecDepth 100000 in
theorem c_X8_latest (l : Launch) (E : En) (hA : AdOK E) {M : Mem} {r0 : Int32}  (h : f_X8_latest M = some r0) : Met l yX8_latest (Wm yX8_latest cX8_latest 3 (some .int)) ({ frames := 1, cells := 0, slots := 0, locals := 22 } : Room) (va_Pc [Value.ref (E.2.2 11 28)] (Wd E M)) (QI E r0 M) 0 0 (AA E) := by
  refine Met.ofW (cc := cX8_latest) (maxL := 3) (ret := (some .int)) (by decide +kernel) rfl ?_
  intro p e s m args below meth c s₁ B hml hv
  obtain ⟨rfl, hP, hK⟩ := hv
  have X : Cx E (AA E) p s m c _ cX8_latest 3 RX8 := ⟨⟨B.exec, B.bytes, hml, findClass_of_methodNamed B.named, fun w hw => atoms_spec (ws := Wm yX8_latest cX8_latest 3 (some .int)) B.pre w (List.mem_cons_of_mem _ hw)⟩, hK, hA, fun _ h => h⟩
  have hx := B.exec
  have hb := B.bytes
  have hr := B.returns
  have hlocks := B.notSynchronized
  clear B hml
  have hS : va_S (AA E) s.heap s.heap [] := va_S.rf
  have hl := lv_entry ([Value.ref (E.2.2 11 28)]) (n := 3) (Nat.le_of_ble_eq_true rfl)
  rw [lg_entry_eq]
  generalize (lg_sl ([Value.ref (E.2.2 11 28)]) ++ List.replicate (3 - (lg_sl ([Value.ref (E.2.2 11 28)])).length) Slot.unset).toArray = ls at hl ⊢
  have hl : lv_has ls 3 [(0, .ref (E.2.2 11 28))] := hl
  have w_L9 : ∀ (n9 : Nat)  (y1 y2 : Int32) (H : Heap) (locs : List Loc) (ls : Array Slot), itr (f_X8_latest_L9 M) (fun _ _ => none) n9 y1 y2 = some r0 → va_P E.1 vwCl (wl E M) H → va_S (AA E) s.heap H locs → lv_has ls 3 [(0, .ref (E.2.2 11 28)), (1, .int y1), (2, .int y2)] → W p l e (headSpec (Wm yX8_latest cX8_latest 3 (some .int)) ({ frames := 1, cells := 0, slots := 0, locals := 22 } : Room)).room s m ([Value.ref (E.2.2 11 28)] : List Value).toArray below meth c H locs 0 0 (MQ below (QI E r0 M) ([Value.ref (E.2.2 11 28)] : List Value).toArray s 0 0 (AA E)) (F0 m 9 ls []) := by
    intro n9
    induction n9 with
    | zero => intro y1 y2 H locs ls h; exact (nomatch (show (none : Option Int32) = some _ from h))
    | succ n9 ih9 =>
      intro y1 y2 H locs ls h hP hS hl
      have h : f_X8_latest_L9 M (itr (f_X8_latest_L9 M) (fun _ _ => none) n9) y1 y2 = some r0 := h
      have w_L32 : ∀  (y2 z0 : Int32) (H : Heap) (locs : List Loc) (ls : Array Slot), f_X8_latest_L32 M (itr (f_X8_latest_L9 M) (fun _ _ => none) n9) y2 z0 = some r0 → va_P E.1 vwCl (wl E M) H → va_S (AA E) s.heap H locs → lv_has ls 3 [(0, .ref (E.2.2 11 28)), (2, .int y2)] → W p l e (headSpec (Wm yX8_latest cX8_latest 3 (some .int)) ({ frames := 1, cells := 0, slots := 0, locals := 22 } : Room)).room s m ([Value.ref (E.2.2 11 28)] : List Value).toArray below meth c H locs 0 0 (MQ below (QI E r0 M) ([Value.ref (E.2.2 11 28)] : List Value).toArray s 0 0 (AA E)) (F0 m 32 ls [.int z0]) := by
        intro y2 z0 H locs ls h hP hS hl
        unfold f_X8_latest_L32 at h
        refine lv_istore_n (lv' := [(1, .int z0), (0, .ref (E.2.2 11 28)), (2, .int y2)]) hx hb dX8_latest_32 rfl hl (by decide) rfl (fun ls hl => ?_)
        obtain ⟨x6, ex6⟩ : ∃ y : Int32, y = y2 + (1 : Int32) := ⟨_, rfl⟩
        have h := bd_e h ex6
        refine lv_iinc (v := x6) (lv' := [(2, .int x6), (1, .int z0), (0, .ref (E.2.2 11 28))]) hx hb dX8_latest_33 hl (k := 2) rfl (by rw [ex6]; rfl) (by decide) rfl (fun ls hl => ?_)
        refine lv_goto (tgt := 9) hx hb dX8_latest_36 (by decide) ?_
        exact ih9 _ _ _ _ _ h hP hS (lv_sub hl [2, 1, 0] rfl)
      unfold f_X8_latest_L9 at h
      refine lv_iload_n hx hb dX8_latest_9 rfl (lv_at hl 2 rfl) ?_
      refine lv_aload_n hx hb dX8_latest_10 rfl (lv_at hl 0 rfl) ?_
      obtain ⟨v2, hv2, h⟩ := bO_e h
      refine mw_callVi X (c_X8_last l E hA hv2) pk_X8_last pv_X8_last wm_208 ⟨Nat.le_of_ble_eq_true rfl, Nat.le_of_ble_eq_true rfl⟩ ⟨rfl, rfl⟩ hP hS ix_28 rfl rfl rfl rfl hl.1 (Nat.le_of_ble_eq_true rfl) ⟨Nat.zero_le _, Nat.zero_le _⟩ rfl dX8_latest_11 (fun H locs hP hS => ?_)
      refine lv_icmp_gt (tgt := 39) hx hb dX8_latest_14 (by decide) (fun c3 => ?_) (fun c3 => ?_)
      · have h := br_1 h c3
        refine lv_iload_n hx hb dX8_latest_39 rfl (lv_at hl 1 rfl) ?_
        exact mw_iret X hr hlocks hP hS (Option.some.inj h) rfl dX8_latest_40
      · have h := br_0 h c3
        refine lv_aload_n hx hb dX8_latest_17 rfl (lv_at hl 0 rfl) ?_
        refine lv_iload_n hx hb dX8_latest_18 rfl (lv_at hl 2 rfl) ?_
        refine lv_iconst (v := 0) hx hb dX8_latest_19 (by decide) ?_
        obtain ⟨v4, hv4, h⟩ := bO_e h
        refine mw_callVi X (c_X8_of l E hA hv4) pk_X8_of pv_X8_of wm_363 ⟨Nat.le_of_ble_eq_true rfl, Nat.le_of_ble_eq_true rfl⟩ ⟨rfl, rfl⟩ hP hS ix_28 rfl rfl rfl rfl hl.1 (Nat.le_of_ble_eq_true rfl) ⟨Nat.zero_le _, Nat.zero_le _⟩ rfl dX8_latest_20 (fun H locs hP hS => ?_)
        refine lv_iconst (v := 5) hx hb dX8_latest_23 (by decide) ?_
        refine lv_icmp_ne (tgt := 31) hx hb dX8_latest_24 (by decide) (fun c5 => ?_) (fun c5 => ?_)
        · have h := br_0 h c5
          refine lv_iload_n hx hb dX8_latest_31 rfl (lv_at hl 1 rfl) ?_
          exact w_L32 _ _ _ _ _ h hP hS (lv_sub hl [0, 2] rfl)
        · have h := br_1 h c5
          refine lv_iload_n hx hb dX8_latest_27 rfl (lv_at hl 2 rfl) ?_
          refine lv_goto (tgt := 32) hx hb dX8_latest_28 (by decide) ?_
          exact w_L32 _ _ _ _ _ h hP hS (lv_sub hl [0, 2] rfl)
  unfold f_X8_latest at h
  refine lv_iconst (v := 0) hx hb dX8_latest_0 (by decide) ?_
  refine lv_istore_n (lv' := [(1, .int (0 : Int32)), (0, .ref (E.2.2 11 28))]) hx hb dX8_latest_1 rfl hl (by decide) rfl (fun ls hl => ?_)
  refine lv_aload_n hx hb dX8_latest_2 rfl (lv_at hl 1 rfl) ?_
  refine gt_8_0 X wm_90 hP ix_28 dX8_latest_3 ?_
  refine lv_iconst (v := 0) hx hb dX8_latest_6 (by decide) ?_
  refine mw_ld X hP ix_29 rfl (v := (M 11 29 0)) (inb_vp (by decide)) rfl dX8_latest_7 ?_
  refine lv_topi (fun x1 ex1 => ?_)
  have h := bd_e h ex1
  refine lv_istore_n (lv' := [(2, .int x1), (1, .int (0 : Int32)), (0, .ref (E.2.2 11 28))]) hx hb dX8_latest_8 rfl hl (by decide) rfl (fun ls hl => ?_)
  exact w_L9 FU _ _ _ _ _ h hP hS (lv_sub hl [2, 1, 0] rfl)
/-! SealedGroupsModel.canDrop -/
noncomputable def f_X8_canDrop_L143  (M : Mem) (K109 : Int32 → Int32 → Int32 → Option Int32) (y1 y3 z0 : Int32) : Option Int32 :=
bd (y3 + (1 : Int32)) (fun x8 =>
K109 y1 z0 x8)
noncomputable def f_X8_canDrop_L142  (M : Mem) (K109 : Int32 → Int32 → Int32 → Option Int32) (y1 y2 y3 : Int32) : Option Int32 :=
f_X8_canDrop_L143 M K109 y1 y3 y2
noncomputable def f_X8_canDrop_L109  (M : Mem) (K109 : Int32 → Int32 → Int32 → Option Int32) (y1 y2 y3 : Int32) : Option Int32 :=
(if (8 : Int32) ≤ y3 then
(if y2 ≤ (M 11 29 0) then
some (0 : Int32)
else
some (y2 - (M 11 29 0)))
else
bO (f_X8_of M y1 ((8 : Int32) + y3)) (fun v6 =>
(if v6 ≤ 0 then
f_X8_canDrop_L142 M K109 y1 y2 y3
else
(if y2 ≤ v6 then
f_X8_canDrop_L142 M K109 y1 y2 y3
else
f_X8_canDrop_L143 M K109 y1 y3 v6))))
noncomputable def f_X8_canDrop_L100  (M : Mem) (K15 : Int32 → Int32 → Int32 → Option Int32) (y1 y3 z0 : Int32) : Option Int32 :=
bd (y3 + (1 : Int32)) (fun x13 =>
K15 y1 z0 x13)
noncomputable def f_X8_canDrop_L88  (M : Mem) (K15 : Int32 → Int32 → Int32 → Option Int32) (y1 y2 y3 y4 : Int32) : Option Int32 :=
(if y2 ≤ y4 then
f_X8_canDrop_L100 M K15 y1 y3 y2
else
f_X8_canDrop_L100 M K15 y1 y3 y4)
noncomputable def f_X8_canDrop_L80  (M : Mem) (K15 : Int32 → Int32 → Int32 → Option Int32) (K31 : Int32 → Int32 → Int32 → Int32 → Int32 → Option Int32) (y1 y2 y3 y5 z0 : Int32) : Option Int32 :=
bd (y5 + (1 : Int32)) (fun x18 =>
K31 y1 y2 y3 z0 x18)
noncomputable def f_X8_canDrop_L78  (M : Mem) (K15 : Int32 → Int32 → Int32 → Option Int32) (K31 : Int32 → Int32 → Int32 → Int32 → Int32 → Option Int32) (y1 y2 y3 y4 y5 : Int32) : Option Int32 :=
f_X8_canDrop_L80 M K15 K31 y1 y2 y3 y5 y4
noncomputable def f_X8_canDrop_L31  (M : Mem) (K15 : Int32 → Int32 → Int32 → Option Int32) (K31 : Int32 → Int32 → Int32 → Int32 → Int32 → Option Int32) (y1 y2 y3 y4 y5 : Int32) : Option Int32 :=
(if y1 ≤ y5 then
f_X8_canDrop_L88 M K15 y1 y2 y3 y4
else
bO (f_X8_of M y1 (6 : Int32)) (fun v14 =>
(if ((v14 >>> (y3 &&& 31)) &&& (1 : Int32)) = (1 : Int32) then
bO (f_X8_of M y5 (0 : Int32)) (fun v16 =>
(if v16 = 0 then
bO (f_X8_of M y5 (1 : Int32)) (fun v19 =>
(if v19 = y3 then
f_X8_canDrop_L80 M K15 K31 y1 y2 y3 y5 y5
else
f_X8_canDrop_L78 M K15 K31 y1 y2 y3 y4 y5))
else
f_X8_canDrop_L78 M K15 K31 y1 y2 y3 y4 y5))
else
f_X8_canDrop_L88 M K15 y1 y2 y3 y4)))
noncomputable def f_X8_canDrop_L15  (M : Mem) (K15 : Int32 → Int32 → Int32 → Option Int32) (y1 y2 y3 : Int32) : Option Int32 :=
(if (4 : Int32) ≤ y3 then
itr (f_X8_canDrop_L109 M) (fun _ _ _ => none) FU y1 y2 (0 : Int32)
else
bd ((M 11 29 0)) (fun x10 =>
itr (f_X8_canDrop_L31 M K15) (fun _ _ _ _ _ => none) FU y1 y2 y3 y1 x10))
noncomputable def f_X8_canDrop  (M : Mem) : Option Int32 :=
bO (f_X8_latest M) (fun v1 =>
(if v1 = 0 then
some (0 : Int32)
else
itr (f_X8_canDrop_L15 M) (fun _ _ _ => none) FU v1 v1 (0 : Int32)))
theorem pk_X8_canDrop : Pk "SealedGroupsModel" yX8_canDrop cX8_canDrop 6 (some .int) 0 := ⟨wm_459, wm_5, rfl, by decide +kernel⟩
theorem pv_X8_canDrop : Cond.instanceMethod yX8_canDrop ∈ wsL_law ∧ Cond.selects "SealedGroupsModel" yX8_canDrop yX8_canDrop ∈ wsL_law := ⟨wm_457, wm_458⟩
set_option maxHeartbeats 4000000 in
set_option maxRecDepth 100000 in
theorem c_X8_canDrop (l : Launch) (E : En) (hA : AdOK E) {M : Mem} {r0 : Int32}  (h : f_X8_canDrop M = some r0) : Met l yX8_canDrop (Wm yX8_canDrop cX8_canDrop 6 (some .int)) ({ frames := 2, cells := 0, slots := 0, locals := 44 } : Room) (va_Pc [Value.ref (E.2.2 11 28)] (Wd E M)) (QI E r0 M) 0 0 (AA E) := by
  refine Met.ofW (cc := cX8_canDrop) (maxL := 6) (ret := (some .int)) (by decide +kernel) rfl ?_
  intro p e s m args below meth c s₁ B hml hv
  obtain ⟨rfl, hP, hK⟩ := hv
  have X : Cx E (AA E) p s m c _ cX8_canDrop 6 RX8 := ⟨⟨B.exec, B.bytes, hml, findClass_of_methodNamed B.named, fun w hw => atoms_spec (ws := Wm yX8_canDrop cX8_canDrop 6 (some .int)) B.pre w (List.mem_cons_of_mem _ hw)⟩, hK, hA, fun _ h => h⟩
  have hx := B.exec
  have hb := B.bytes
  have hr := B.returns
  have hlocks := B.notSynchronized
  clear B hml
  have hS : va_S (AA E) s.heap s.heap [] := va_S.rf
  have hl := lv_entry ([Value.ref (E.2.2 11 28)]) (n := 6) (Nat.le_of_ble_eq_true rfl)
  rw [lg_entry_eq]
  generalize (lg_sl ([Value.ref (E.2.2 11 28)]) ++ List.replicate (6 - (lg_sl ([Value.ref (E.2.2 11 28)])).length) Slot.unset).toArray = ls at hl ⊢
  have hl : lv_has ls 6 [(0, .ref (E.2.2 11 28))] := hl
  have w_L109 : ∀ (n109 : Nat)  (y1 y2 y3 : Int32) (H : Heap) (locs : List Loc) (ls : Array Slot), itr (f_X8_canDrop_L109 M) (fun _ _ _ => none) n109 y1 y2 y3 = some r0 → va_P E.1 vwCl (wl E M) H → va_S (AA E) s.heap H locs → lv_has ls 6 [(0, .ref (E.2.2 11 28)), (1, .int y1), (2, .int y2), (3, .int y3)] → W p l e (headSpec (Wm yX8_canDrop cX8_canDrop 6 (some .int)) ({ frames := 2, cells := 0, slots := 0, locals := 44 } : Room)).room s m ([Value.ref (E.2.2 11 28)] : List Value).toArray below meth c H locs 0 0 (MQ below (QI E r0 M) ([Value.ref (E.2.2 11 28)] : List Value).toArray s 0 0 (AA E)) (F0 m 109 ls []) := by
    intro n109
    induction n109 with
    | zero => intro y1 y2 y3 H locs ls h; exact (nomatch (show (none : Option Int32) = some _ from h))
    | succ n109 ih109 =>
      intro y1 y2 y3 H locs ls h hP hS hl
      have h : f_X8_canDrop_L109 M (itr (f_X8_canDrop_L109 M) (fun _ _ _ => none) n109) y1 y2 y3 = some r0 := h
      have w_L143 : ∀  (y1 y3 z0 : Int32) (H : Heap) (locs : List Loc) (ls : Array Slot), f_X8_canDrop_L143 M (itr (f_X8_canDrop_L109 M) (fun _ _ _ => none) n109) y1 y3 z0 = some r0 → va_P E.1 vwCl (wl E M) H → va_S (AA E) s.heap H locs → lv_has ls 6 [(0, .ref (E.2.2 11 28)), (1, .int y1), (3, .int y3)] → W p l e (headSpec (Wm yX8_canDrop cX8_canDrop 6 (some .int)) ({ frames := 2, cells := 0, slots := 0, locals := 44 } : Room)).room s m ([Value.ref (E.2.2 11 28)] : List Value).toArray below meth c H locs 0 0 (MQ below (QI E r0 M) ([Value.ref (E.2.2 11 28)] : List Value).toArray s 0 0 (AA E)) (F0 m 143 ls [.int z0]) := by
        intro y1 y3 z0 H locs ls h hP hS hl
        unfold f_X8_canDrop_L143 at h
        refine lv_istore_n (lv' := [(2, .int z0), (0, .ref (E.2.2 11 28)), (1, .int y1), (3, .int y3)]) hx hb dX8_canDrop_143 rfl hl (by decide) rfl (fun ls hl => ?_)
        obtain ⟨x8, ex8⟩ : ∃ y : Int32, y = y3 + (1 : Int32) := ⟨_, rfl⟩
        have h := bd_e h ex8
        refine lv_iinc (v := x8) (lv' := [(3, .int x8), (2, .int z0), (0, .ref (E.2.2 11 28)), (1, .int y1)]) hx hb dX8_canDrop_144 hl (k := 3) rfl (by rw [ex8]; rfl) (by decide) rfl (fun ls hl => ?_)
        refine lv_goto (tgt := 109) hx hb dX8_canDrop_147 (by decide) ?_
        exact ih109 _ _ _ _ _ _ h hP hS (lv_sub hl [2, 3, 1, 0] rfl)
      have w_L142 : ∀  (y1 y2 y3 : Int32) (H : Heap) (locs : List Loc) (ls : Array Slot), f_X8_canDrop_L142 M (itr (f_X8_canDrop_L109 M) (fun _ _ _ => none) n109) y1 y2 y3 = some r0 → va_P E.1 vwCl (wl E M) H → va_S (AA E) s.heap H locs → lv_has ls 6 [(0, .ref (E.2.2 11 28)), (1, .int y1), (2, .int y2), (3, .int y3)] → W p l e (headSpec (Wm yX8_canDrop cX8_canDrop 6 (some .int)) ({ frames := 2, cells := 0, slots := 0, locals := 44 } : Room)).room s m ([Value.ref (E.2.2 11 28)] : List Value).toArray below meth c H locs 0 0 (MQ below (QI E r0 M) ([Value.ref (E.2.2 11 28)] : List Value).toArray s 0 0 (AA E)) (F0 m 142 ls []) := by
        intro y1 y2 y3 H locs ls h hP hS hl
        unfold f_X8_canDrop_L142 at h
        refine lv_iload_n hx hb dX8_canDrop_142 rfl (lv_at hl 2 rfl) ?_
        exact w_L143 _ _ _ _ _ _ h hP hS (lv_sub hl [0, 1, 3] rfl)
      unfold f_X8_canDrop_L109 at h
      refine lv_iload_n hx hb dX8_canDrop_109 rfl (lv_at hl 3 rfl) ?_
      refine lv_bipush (v := 8) hx hb dX8_canDrop_110 (by decide) ?_
      refine lv_icmp_ge (tgt := 150) hx hb dX8_canDrop_112 (by decide) (fun c4 => ?_) (fun c4 => ?_)
      · have h := br_1 h c4
        refine lv_iload_n hx hb dX8_canDrop_150 rfl (lv_at hl 2 rfl) ?_
        refine lv_aload_n hx hb dX8_canDrop_151 rfl (lv_at hl 0 rfl) ?_
        refine gt_8_0 X wm_90 hP ix_28 dX8_canDrop_152 ?_
        refine lv_iconst (v := 0) hx hb dX8_canDrop_155 (by decide) ?_
        refine mw_ld X hP ix_29 rfl (v := (M 11 29 0)) (inb_vp (by decide)) rfl dX8_canDrop_156 ?_
        refine lv_icmp_le (tgt := 171) hx hb dX8_canDrop_157 (by decide) (fun c5 => ?_) (fun c5 => ?_)
        · have h := br_1 h c5
          refine lv_iconst (v := 0) hx hb dX8_canDrop_171 (by decide) ?_
          exact mw_iret X hr hlocks hP hS (Option.some.inj h) rfl dX8_canDrop_172
        · have h := br_0 h c5
          refine lv_iload_n hx hb dX8_canDrop_160 rfl (lv_at hl 2 rfl) ?_
          refine lv_aload_n hx hb dX8_canDrop_161 rfl (lv_at hl 0 rfl) ?_
          refine gt_8_0 X wm_90 hP ix_28 dX8_canDrop_162 ?_
          refine lv_iconst (v := 0) hx hb dX8_canDrop_165 (by decide) ?_
          refine mw_ld X hP ix_29 rfl (v := (M 11 29 0)) (inb_vp (by decide)) rfl dX8_canDrop_166 ?_
          refine lv_isub hx hb dX8_canDrop_167 ?_
          refine lv_goto (tgt := 172) hx hb dX8_canDrop_168 (by decide) ?_
          exact mw_iret X hr hlocks hP hS (Option.some.inj h) rfl dX8_canDrop_172
      · have h := br_0 h c4
        refine lv_aload_n hx hb dX8_canDrop_115 rfl (lv_at hl 0 rfl) ?_
        refine lv_iload_n hx hb dX8_canDrop_116 rfl (lv_at hl 1 rfl) ?_
        refine lv_bipush (v := 8) hx hb dX8_canDrop_117 (by decide) ?_
        refine lv_iload_n hx hb dX8_canDrop_119 rfl (lv_at hl 3 rfl) ?_
        refine lv_iadd hx hb dX8_canDrop_120 ?_
        obtain ⟨v6, hv6, h⟩ := bO_e h
        refine mw_callVi X (c_X8_of l E hA hv6) pk_X8_of pv_X8_of wm_363 ⟨Nat.le_of_ble_eq_true rfl, Nat.le_of_ble_eq_true rfl⟩ ⟨rfl, rfl⟩ hP hS ix_28 rfl rfl rfl rfl hl.1 (Nat.le_of_ble_eq_true rfl) ⟨Nat.zero_le _, Nat.zero_le _⟩ rfl dX8_canDrop_121 (fun H locs hP hS => ?_)
        refine lv_istore (lv' := [(4, .int v6), (0, .ref (E.2.2 11 28)), (1, .int y1), (2, .int y2), (3, .int y3)]) hx hb dX8_canDrop_124 hl (by decide) rfl (fun ls hl => ?_)
        refine lv_iload hx hb dX8_canDrop_126 (lv_at hl 0 rfl) ?_
        refine lv_if_le (tgt := 142) hx hb dX8_canDrop_128 (by decide) (fun c7 => ?_) (fun c7 => ?_)
        · have h := br_1 h c7
          exact w_L142 _ _ _ _ _ _ h hP hS (lv_sub hl [1, 2, 3, 4] rfl)
        · have h := br_0 h c7
          refine lv_iload hx hb dX8_canDrop_131 (lv_at hl 0 rfl) ?_
          refine lv_iload_n hx hb dX8_canDrop_133 rfl (lv_at hl 3 rfl) ?_
          refine lv_icmp_ge (tgt := 142) hx hb dX8_canDrop_134 (by decide) (fun c9 => ?_) (fun c9 => ?_)
          · have h := br_1 h c9
            exact w_L142 _ _ _ _ _ _ h hP hS (lv_sub hl [1, 2, 3, 4] rfl)
          · have h := br_0 h c9
            refine lv_iload hx hb dX8_canDrop_137 (lv_at hl 0 rfl) ?_
            refine lv_goto (tgt := 143) hx hb dX8_canDrop_139 (by decide) ?_
            exact w_L143 _ _ _ _ _ _ h hP hS (lv_sub hl [1, 2, 4] rfl)
  have w_L15 : ∀ (n15 : Nat)  (y1 y2 y3 : Int32) (H : Heap) (locs : List Loc) (ls : Array Slot), itr (f_X8_canDrop_L15 M) (fun _ _ _ => none) n15 y1 y2 y3 = some r0 → va_P E.1 vwCl (wl E M) H → va_S (AA E) s.heap H locs → lv_has ls 6 [(0, .ref (E.2.2 11 28)), (1, .int y1), (2, .int y2), (3, .int y3)] → W p l e (headSpec (Wm yX8_canDrop cX8_canDrop 6 (some .int)) ({ frames := 2, cells := 0, slots := 0, locals := 44 } : Room)).room s m ([Value.ref (E.2.2 11 28)] : List Value).toArray below meth c H locs 0 0 (MQ below (QI E r0 M) ([Value.ref (E.2.2 11 28)] : List Value).toArray s 0 0 (AA E)) (F0 m 15 ls []) := by
    intro n15
    induction n15 with
    | zero => intro y1 y2 y3 H locs ls h; exact (nomatch (show (none : Option Int32) = some _ from h))
    | succ n15 ih15 =>
      intro y1 y2 y3 H locs ls h hP hS hl
      have h : f_X8_canDrop_L15 M (itr (f_X8_canDrop_L15 M) (fun _ _ _ => none) n15) y1 y2 y3 = some r0 := h
      have w_L100 : ∀  (y1 y3 z0 : Int32) (H : Heap) (locs : List Loc) (ls : Array Slot), f_X8_canDrop_L100 M (itr (f_X8_canDrop_L15 M) (fun _ _ _ => none) n15) y1 y3 z0 = some r0 → va_P E.1 vwCl (wl E M) H → va_S (AA E) s.heap H locs → lv_has ls 6 [(0, .ref (E.2.2 11 28)), (1, .int y1), (3, .int y3)] → W p l e (headSpec (Wm yX8_canDrop cX8_canDrop 6 (some .int)) ({ frames := 2, cells := 0, slots := 0, locals := 44 } : Room)).room s m ([Value.ref (E.2.2 11 28)] : List Value).toArray below meth c H locs 0 0 (MQ below (QI E r0 M) ([Value.ref (E.2.2 11 28)] : List Value).toArray s 0 0 (AA E)) (F0 m 100 ls [.int z0]) := by
        intro y1 y3 z0 H locs ls h hP hS hl
        unfold f_X8_canDrop_L100 at h
        refine lv_istore_n (lv' := [(2, .int z0), (0, .ref (E.2.2 11 28)), (1, .int y1), (3, .int y3)]) hx hb dX8_canDrop_100 rfl hl (by decide) rfl (fun ls hl => ?_)
        obtain ⟨x13, ex13⟩ : ∃ y : Int32, y = y3 + (1 : Int32) := ⟨_, rfl⟩
        have h := bd_e h ex13
        refine lv_iinc (v := x13) (lv' := [(3, .int x13), (2, .int z0), (0, .ref (E.2.2 11 28)), (1, .int y1)]) hx hb dX8_canDrop_101 hl (k := 3) rfl (by rw [ex13]; rfl) (by decide) rfl (fun ls hl => ?_)
        refine lv_goto (tgt := 15) hx hb dX8_canDrop_104 (by decide) ?_
        exact ih15 _ _ _ _ _ _ h hP hS (lv_sub hl [2, 3, 1, 0] rfl)
      have w_L88 : ∀  (y1 y2 y3 y4 : Int32) (H : Heap) (locs : List Loc) (ls : Array Slot), f_X8_canDrop_L88 M (itr (f_X8_canDrop_L15 M) (fun _ _ _ => none) n15) y1 y2 y3 y4 = some r0 → va_P E.1 vwCl (wl E M) H → va_S (AA E) s.heap H locs → lv_has ls 6 [(0, .ref (E.2.2 11 28)), (1, .int y1), (2, .int y2), (3, .int y3), (4, .int y4)] → W p l e (headSpec (Wm yX8_canDrop cX8_canDrop 6 (some .int)) ({ frames := 2, cells := 0, slots := 0, locals := 44 } : Room)).room s m ([Value.ref (E.2.2 11 28)] : List Value).toArray below meth c H locs 0 0 (MQ below (QI E r0 M) ([Value.ref (E.2.2 11 28)] : List Value).toArray s 0 0 (AA E)) (F0 m 88 ls []) := by
        intro y1 y2 y3 y4 H locs ls h hP hS hl
        unfold f_X8_canDrop_L88 at h
        refine lv_iload hx hb dX8_canDrop_88 (lv_at hl 4 rfl) ?_
        refine lv_iload_n hx hb dX8_canDrop_90 rfl (lv_at hl 2 rfl) ?_
        refine lv_icmp_ge (tgt := 99) hx hb dX8_canDrop_91 (by decide) (fun c12 => ?_) (fun c12 => ?_)
        · have h := br_1 h c12
          refine lv_iload_n hx hb dX8_canDrop_99 rfl (lv_at hl 2 rfl) ?_
          exact w_L100 _ _ _ _ _ _ h hP hS (lv_sub hl [0, 1, 3] rfl)
        · have h := br_0 h c12
          refine lv_iload hx hb dX8_canDrop_94 (lv_at hl 4 rfl) ?_
          refine lv_goto (tgt := 100) hx hb dX8_canDrop_96 (by decide) ?_
          exact w_L100 _ _ _ _ _ _ h hP hS (lv_sub hl [0, 1, 3] rfl)
      have w_L31 : ∀ (n31 : Nat)  (y1 y2 y3 y4 y5 : Int32) (H : Heap) (locs : List Loc) (ls : Array Slot), itr (f_X8_canDrop_L31 M (itr (f_X8_canDrop_L15 M) (fun _ _ _ => none) n15)) (fun _ _ _ _ _ => none) n31 y1 y2 y3 y4 y5 = some r0 → va_P E.1 vwCl (wl E M) H → va_S (AA E) s.heap H locs → lv_has ls 6 [(0, .ref (E.2.2 11 28)), (1, .int y1), (2, .int y2), (3, .int y3), (4, .int y4), (5, .int y5)] → W p l e (headSpec (Wm yX8_canDrop cX8_canDrop 6 (some .int)) ({ frames := 2, cells := 0, slots := 0, locals := 44 } : Room)).room s m ([Value.ref (E.2.2 11 28)] : List Value).toArray below meth c H locs 0 0 (MQ below (QI E r0 M) ([Value.ref (E.2.2 11 28)] : List Value).toArray s 0 0 (AA E)) (F0 m 31 ls []) := by
        intro n31
        induction n31 with
        | zero => intro y1 y2 y3 y4 y5 H locs ls h; exact (nomatch (show (none : Option Int32) = some _ from h))
        | succ n31 ih31 =>
          intro y1 y2 y3 y4 y5 H locs ls h hP hS hl
          have h : f_X8_canDrop_L31 M (itr (f_X8_canDrop_L15 M) (fun _ _ _ => none) n15) (itr (f_X8_canDrop_L31 M (itr (f_X8_canDrop_L15 M) (fun _ _ _ => none) n15)) (fun _ _ _ _ _ => none) n31) y1 y2 y3 y4 y5 = some r0 := h
          have w_L80 : ∀  (y1 y2 y3 y5 z0 : Int32) (H : Heap) (locs : List Loc) (ls : Array Slot), f_X8_canDrop_L80 M (itr (f_X8_canDrop_L15 M) (fun _ _ _ => none) n15) (itr (f_X8_canDrop_L31 M (itr (f_X8_canDrop_L15 M) (fun _ _ _ => none) n15)) (fun _ _ _ _ _ => none) n31) y1 y2 y3 y5 z0 = some r0 → va_P E.1 vwCl (wl E M) H → va_S (AA E) s.heap H locs → lv_has ls 6 [(0, .ref (E.2.2 11 28)), (1, .int y1), (2, .int y2), (3, .int y3), (5, .int y5)] → W p l e (headSpec (Wm yX8_canDrop cX8_canDrop 6 (some .int)) ({ frames := 2, cells := 0, slots := 0, locals := 44 } : Room)).room s m ([Value.ref (E.2.2 11 28)] : List Value).toArray below meth c H locs 0 0 (MQ below (QI E r0 M) ([Value.ref (E.2.2 11 28)] : List Value).toArray s 0 0 (AA E)) (F0 m 80 ls [.int z0]) := by
            intro y1 y2 y3 y5 z0 H locs ls h hP hS hl
            unfold f_X8_canDrop_L80 at h
            refine lv_istore (lv' := [(4, .int z0), (0, .ref (E.2.2 11 28)), (1, .int y1), (2, .int y2), (3, .int y3), (5, .int y5)]) hx hb dX8_canDrop_80 hl (by decide) rfl (fun ls hl => ?_)
            obtain ⟨x18, ex18⟩ : ∃ y : Int32, y = y5 + (1 : Int32) := ⟨_, rfl⟩
            have h := bd_e h ex18
            refine lv_iinc (v := x18) (lv' := [(5, .int x18), (4, .int z0), (0, .ref (E.2.2 11 28)), (1, .int y1), (2, .int y2), (3, .int y3)]) hx hb dX8_canDrop_82 hl (k := 5) rfl (by rw [ex18]; rfl) (by decide) rfl (fun ls hl => ?_)
            refine lv_goto (tgt := 31) hx hb dX8_canDrop_85 (by decide) ?_
            exact ih31 _ _ _ _ _ _ _ _ h hP hS (lv_sub hl [2, 3, 4, 5, 1, 0] rfl)
          have w_L78 : ∀  (y1 y2 y3 y4 y5 : Int32) (H : Heap) (locs : List Loc) (ls : Array Slot), f_X8_canDrop_L78 M (itr (f_X8_canDrop_L15 M) (fun _ _ _ => none) n15) (itr (f_X8_canDrop_L31 M (itr (f_X8_canDrop_L15 M) (fun _ _ _ => none) n15)) (fun _ _ _ _ _ => none) n31) y1 y2 y3 y4 y5 = some r0 → va_P E.1 vwCl (wl E M) H → va_S (AA E) s.heap H locs → lv_has ls 6 [(0, .ref (E.2.2 11 28)), (1, .int y1), (2, .int y2), (3, .int y3), (4, .int y4), (5, .int y5)] → W p l e (headSpec (Wm yX8_canDrop cX8_canDrop 6 (some .int)) ({ frames := 2, cells := 0, slots := 0, locals := 44 } : Room)).room s m ([Value.ref (E.2.2 11 28)] : List Value).toArray below meth c H locs 0 0 (MQ below (QI E r0 M) ([Value.ref (E.2.2 11 28)] : List Value).toArray s 0 0 (AA E)) (F0 m 78 ls []) := by
            intro y1 y2 y3 y4 y5 H locs ls h hP hS hl
            unfold f_X8_canDrop_L78 at h
            refine lv_iload hx hb dX8_canDrop_78 (lv_at hl 4 rfl) ?_
            exact w_L80 _ _ _ _ _ _ _ _ h hP hS (lv_sub hl [0, 1, 2, 3, 5] rfl)
          unfold f_X8_canDrop_L31 at h
          refine lv_iload hx hb dX8_canDrop_31 (lv_at hl 5 rfl) ?_
          refine lv_iload_n hx hb dX8_canDrop_33 rfl (lv_at hl 1 rfl) ?_
          refine lv_icmp_ge (tgt := 88) hx hb dX8_canDrop_34 (by decide) (fun c11 => ?_) (fun c11 => ?_)
          · have h := br_1 h c11
            exact w_L88 _ _ _ _ _ _ _ h hP hS (lv_sub hl [0, 1, 2, 3, 4] rfl)
          · have h := br_0 h c11
            refine lv_aload_n hx hb dX8_canDrop_37 rfl (lv_at hl 0 rfl) ?_
            refine lv_iload_n hx hb dX8_canDrop_38 rfl (lv_at hl 1 rfl) ?_
            refine lv_bipush (v := 6) hx hb dX8_canDrop_39 (by decide) ?_
            obtain ⟨v14, hv14, h⟩ := bO_e h
            refine mw_callVi X (c_X8_of l E hA hv14) pk_X8_of pv_X8_of wm_363 ⟨Nat.le_of_ble_eq_true rfl, Nat.le_of_ble_eq_true rfl⟩ ⟨rfl, rfl⟩ hP hS ix_28 rfl rfl rfl rfl hl.1 (Nat.le_of_ble_eq_true rfl) ⟨Nat.zero_le _, Nat.zero_le _⟩ rfl dX8_canDrop_41 (fun H locs hP hS => ?_)
            refine lv_iload_n hx hb dX8_canDrop_44 rfl (lv_at hl 3 rfl) ?_
            refine lv_ishr hx hb dX8_canDrop_45 ?_
            refine lv_iconst (v := 1) hx hb dX8_canDrop_46 (by decide) ?_
            refine lv_iand hx hb dX8_canDrop_47 ?_
            refine lv_iconst (v := 1) hx hb dX8_canDrop_48 (by decide) ?_
            refine lv_icmp_ne (tgt := 88) hx hb dX8_canDrop_49 (by decide) (fun c15 => ?_) (fun c15 => ?_)
            · have h := br_0 h c15
              exact w_L88 _ _ _ _ _ _ _ h hP hS (lv_sub hl [0, 1, 2, 3, 4] rfl)
            · have h := br_1 h c15
              refine lv_aload_n hx hb dX8_canDrop_52 rfl (lv_at hl 0 rfl) ?_
              refine lv_iload hx hb dX8_canDrop_53 (lv_at hl 5 rfl) ?_
              refine lv_iconst (v := 0) hx hb dX8_canDrop_55 (by decide) ?_
              obtain ⟨v16, hv16, h⟩ := bO_e h
              refine mw_callVi X (c_X8_of l E hA hv16) pk_X8_of pv_X8_of wm_363 ⟨Nat.le_of_ble_eq_true rfl, Nat.le_of_ble_eq_true rfl⟩ ⟨rfl, rfl⟩ hP hS ix_28 rfl rfl rfl rfl hl.1 (Nat.le_of_ble_eq_true rfl) ⟨Nat.zero_le _, Nat.zero_le _⟩ rfl dX8_canDrop_56 (fun H locs hP hS => ?_)
              refine lv_if_ne (tgt := 78) hx hb dX8_canDrop_59 (by decide) (fun c17 => ?_) (fun c17 => ?_)
              · have h := br_0 h c17
                exact w_L78 _ _ _ _ _ _ _ _ h hP hS (lv_sub hl [0, 1, 2, 3, 4, 5] rfl)
              · have h := br_1 h c17
                refine lv_aload_n hx hb dX8_canDrop_62 rfl (lv_at hl 0 rfl) ?_
                refine lv_iload hx hb dX8_canDrop_63 (lv_at hl 5 rfl) ?_
                refine lv_iconst (v := 1) hx hb dX8_canDrop_65 (by decide) ?_
                obtain ⟨v19, hv19, h⟩ := bO_e h
                refine mw_callVi X (c_X8_of l E hA hv19) pk_X8_of pv_X8_of wm_363 ⟨Nat.le_of_ble_eq_true rfl, Nat.le_of_ble_eq_true rfl⟩ ⟨rfl, rfl⟩ hP hS ix_28 rfl rfl rfl rfl hl.1 (Nat.le_of_ble_eq_true rfl) ⟨Nat.zero_le _, Nat.zero_le _⟩ rfl dX8_canDrop_66 (fun H locs hP hS => ?_)
                refine lv_iload_n hx hb dX8_canDrop_69 rfl (lv_at hl 3 rfl) ?_
                refine lv_icmp_ne (tgt := 78) hx hb dX8_canDrop_70 (by decide) (fun c20 => ?_) (fun c20 => ?_)
                · have h := br_0 h c20
                  exact w_L78 _ _ _ _ _ _ _ _ h hP hS (lv_sub hl [0, 1, 2, 3, 4, 5] rfl)
                · have h := br_1 h c20
                  refine lv_iload hx hb dX8_canDrop_73 (lv_at hl 5 rfl) ?_
                  refine lv_goto (tgt := 80) hx hb dX8_canDrop_75 (by decide) ?_
                  exact w_L80 _ _ _ _ _ _ _ _ h hP hS (lv_sub hl [0, 1, 2, 3, 5] rfl)
      unfold f_X8_canDrop_L15 at h
      refine lv_iload_n hx hb dX8_canDrop_15 rfl (lv_at hl 3 rfl) ?_
      refine lv_iconst (v := 4) hx hb dX8_canDrop_16 (by decide) ?_
      refine lv_icmp_ge (tgt := 107) hx hb dX8_canDrop_17 (by decide) (fun c3 => ?_) (fun c3 => ?_)
      · have h := br_1 h c3
        refine lv_iconst (v := 0) hx hb dX8_canDrop_107 (by decide) ?_
        refine lv_istore_n (lv' := [(3, .int (0 : Int32)), (0, .ref (E.2.2 11 28)), (1, .int y1), (2, .int y2)]) hx hb dX8_canDrop_108 rfl hl (by decide) rfl (fun ls hl => ?_)
        exact w_L109 FU _ _ _ _ _ _ h hP hS (lv_sub hl [1, 2, 3, 0] rfl)
      · have h := br_0 h c3
        refine lv_iload_n hx hb dX8_canDrop_20 rfl (lv_at hl 1 rfl) ?_
        refine lv_istore (lv' := [(4, .int y1), (0, .ref (E.2.2 11 28)), (1, .int y1), (2, .int y2), (3, .int y3)]) hx hb dX8_canDrop_21 hl (by decide) rfl (fun ls hl => ?_)
        refine lv_aload_n hx hb dX8_canDrop_23 rfl (lv_at hl 1 rfl) ?_
        refine gt_8_0 X wm_90 hP ix_28 dX8_canDrop_24 ?_
        refine lv_iconst (v := 0) hx hb dX8_canDrop_27 (by decide) ?_
        refine mw_ld X hP ix_29 rfl (v := (M 11 29 0)) (inb_vp (by decide)) rfl dX8_canDrop_28 ?_
        refine lv_topi (fun x10 ex10 => ?_)
        have h := bd_e h ex10
        refine lv_istore (lv' := [(5, .int x10), (4, .int y1), (0, .ref (E.2.2 11 28)), (1, .int y1), (2, .int y2), (3, .int y3)]) hx hb dX8_canDrop_29 hl (by decide) rfl (fun ls hl => ?_)
        exact w_L31 FU _ _ _ _ _ _ _ _ h hP hS (lv_sub hl [2, 3, 4, 5, 1, 0] rfl)
  unfold f_X8_canDrop at h
  refine lv_aload_n hx hb dX8_canDrop_0 rfl (lv_at hl 0 rfl) ?_
  obtain ⟨v1, hv1, h⟩ := bO_e h
  refine mw_callVi X (c_X8_latest l E hA hv1) pk_X8_latest pv_X8_latest wm_452 ⟨Nat.le_of_ble_eq_true rfl, Nat.le_of_ble_eq_true rfl⟩ ⟨rfl, rfl⟩ hP hS ix_28 rfl rfl rfl rfl hl.1 (Nat.le_of_ble_eq_true rfl) ⟨Nat.zero_le _, Nat.zero_le _⟩ rfl dX8_canDrop_1 (fun H locs hP hS => ?_)
  refine lv_istore_n (lv' := [(1, .int v1), (0, .ref (E.2.2 11 28))]) hx hb dX8_canDrop_4 rfl hl (by decide) rfl (fun ls hl => ?_)
  refine lv_iload_n hx hb dX8_canDrop_5 rfl (lv_at hl 0 rfl) ?_
  refine lv_if_ne (tgt := 11) hx hb dX8_canDrop_6 (by decide) (fun c2 => ?_) (fun c2 => ?_)
  · have h := br_0 h c2
    refine lv_iload_n hx hb dX8_canDrop_11 rfl (lv_at hl 0 rfl) ?_
    refine lv_istore_n (lv' := [(2, .int v1), (1, .int v1), (0, .ref (E.2.2 11 28))]) hx hb dX8_canDrop_12 rfl hl (by decide) rfl (fun ls hl => ?_)
    refine lv_iconst (v := 0) hx hb dX8_canDrop_13 (by decide) ?_
    refine lv_istore_n (lv' := [(3, .int (0 : Int32)), (2, .int v1), (1, .int v1), (0, .ref (E.2.2 11 28))]) hx hb dX8_canDrop_14 rfl hl (by decide) rfl (fun ls hl => ?_)
    exact w_L15 FU _ _ _ _ _ _ h hP hS (lv_sub hl [3, 2, 1, 0] rfl)
  · have h := br_1 h c2
    refine lv_iconst (v := 0) hx hb dX8_canDrop_9 (by decide) ?_
    exact mw_iret X hr hlocks hP hS (Option.some.inj h) rfl dX8_canDrop_10
/-! SealedGroupsModel.dropRecords -/
noncomputable def f_X8_dropRecords_L29  (K29 : Mem → Int32 → Int32 → Option (Int32 × Mem)) (M : Mem) (y1 y2 : Int32) : Option (Int32 × Mem) :=
(if ((69 : Int32) + ((16 : Int32) * ((M 11 29 1) - y1))) ≤ y2 then
bd (st M 11 29 1 ((M 11 29 1) - y1)) (fun M9 =>
bd (st M9 11 29 0 ((M9 11 29 0) + y1)) (fun M10 =>
some (y1, M10)))
else
gd (inb (y2 + ((16 : Int32) * y1)) 2117) (
gd (inb y2 2117) (
bd (st M 11 29 (y2).toNatClampNeg (M 11 29 ((y2 + ((16 : Int32) * y1))).toNatClampNeg)) (fun M12 =>
bd (y2 + (1 : Int32)) (fun x14 =>
K29 M12 y1 x14)))))
noncomputable def f_X8_dropRecords  (M : Mem) : Option (Int32 × Mem) :=
bO (f_X8_isStopped M) (fun v1 =>
(if v1 = 0 then
bO (f_X8_latest M) (fun v3 =>
(if v3 = 0 then
some ((-1000002 : Int32), M)
else
bO (f_X8_changes M) (fun M6 =>
bO (f_X8_canDrop M6) (fun v7 =>
itr (f_X8_dropRecords_L29 ) (fun _ _ _ => none) FU M6 v7 (69 : Int32)))))
else
some ((-1000002 : Int32), M)))
theorem pk_X8_dropRecords : Pk "SealedGroupsModel" yX8_dropRecords cX8_dropRecords 3 (some .int) 0 := ⟨wm_451, wm_5, rfl, by decide +kernel⟩
theorem pv_X8_dropRecords : Cond.instanceMethod yX8_dropRecords ∈ wsL_law ∧ Cond.selects "SealedGroupsModel" yX8_dropRecords yX8_dropRecords ∈ wsL_law := ⟨wm_449, wm_450⟩
set_option maxHeartbeats 4000000 in
set_option maxRecDepth 100000 in
theorem c_X8_dropRecords (l : Launch) (E : En) (hA : AdOK E) {M : Mem} {r0 : Int32} {M0 : Mem}  (h : f_X8_dropRecords M = some (r0, M0)) : Met l yX8_dropRecords (Wm yX8_dropRecords cX8_dropRecords 3 (some .int)) ({ frames := 3, cells := 0, slots := 0, locals := 69 } : Room) (va_Pc [Value.ref (E.2.2 11 28)] (Wd E M)) (QI E r0 M0) 0 0 (AA E) := by
  refine Met.ofW (cc := cX8_dropRecords) (maxL := 3) (ret := (some .int)) (by decide +kernel) rfl ?_
  intro p e s m args below meth c s₁ B hml hv
  obtain ⟨rfl, hP, hK⟩ := hv
  have X : Cx E (AA E) p s m c _ cX8_dropRecords 3 RX8 := ⟨⟨B.exec, B.bytes, hml, findClass_of_methodNamed B.named, fun w hw => atoms_spec (ws := Wm yX8_dropRecords cX8_dropRecords 3 (some .int)) B.pre w (List.mem_cons_of_mem _ hw)⟩, hK, hA, fun _ h => h⟩
  have hx := B.exec
  have hb := B.bytes
  have hr := B.returns
  have hlocks := B.notSynchronized
  clear B hml
  have hS : va_S (AA E) s.heap s.heap [] := va_S.rf
  have hl := lv_entry ([Value.ref (E.2.2 11 28)]) (n := 3) (Nat.le_of_ble_eq_true rfl)
  rw [lg_entry_eq]
  generalize (lg_sl ([Value.ref (E.2.2 11 28)]) ++ List.replicate (3 - (lg_sl ([Value.ref (E.2.2 11 28)])).length) Slot.unset).toArray = ls at hl ⊢
  have hl : lv_has ls 3 [(0, .ref (E.2.2 11 28))] := hl
  have w_L29 : ∀ (n29 : Nat) (M : Mem) (y1 y2 : Int32) (H : Heap) (locs : List Loc) (ls : Array Slot), itr (f_X8_dropRecords_L29 ) (fun _ _ _ => none) n29 M y1 y2 = some (r0, M0) → va_P E.1 vwCl (wl E M) H → va_S (AA E) s.heap H locs → lv_has ls 3 [(0, .ref (E.2.2 11 28)), (1, .int y1), (2, .int y2)] → W p l e (headSpec (Wm yX8_dropRecords cX8_dropRecords 3 (some .int)) ({ frames := 3, cells := 0, slots := 0, locals := 69 } : Room)).room s m ([Value.ref (E.2.2 11 28)] : List Value).toArray below meth c H locs 0 0 (MQ below (QI E r0 M0) ([Value.ref (E.2.2 11 28)] : List Value).toArray s 0 0 (AA E)) (F0 m 29 ls []) := by
    intro n29
    induction n29 with
    | zero => intro M y1 y2 H locs ls h; exact (nomatch (show (none : Option (Int32 × Mem)) = some _ from h))
    | succ n29 ih29 =>
      intro M y1 y2 H locs ls h hP hS hl
      have h : f_X8_dropRecords_L29 (itr (f_X8_dropRecords_L29 ) (fun _ _ _ => none) n29) M y1 y2 = some (r0, M0) := h
      unfold f_X8_dropRecords_L29 at h
      refine lv_iload_n hx hb dX8_dropRecords_29 rfl (lv_at hl 2 rfl) ?_
      refine lv_bipush (v := 69) hx hb dX8_dropRecords_30 (by decide) ?_
      refine lv_bipush (v := 16) hx hb dX8_dropRecords_32 (by decide) ?_
      refine lv_aload_n hx hb dX8_dropRecords_34 rfl (lv_at hl 0 rfl) ?_
      refine gt_8_0 X wm_90 hP ix_28 dX8_dropRecords_35 ?_
      refine lv_iconst (v := 1) hx hb dX8_dropRecords_38 (by decide) ?_
      refine mw_ld X hP ix_29 rfl (v := (M 11 29 1)) (inb_vp (by decide)) rfl dX8_dropRecords_39 ?_
      refine lv_iload_n hx hb dX8_dropRecords_40 rfl (lv_at hl 1 rfl) ?_
      refine lv_isub hx hb dX8_dropRecords_41 ?_
      refine lv_imul hx hb dX8_dropRecords_42 ?_
      refine lv_iadd hx hb dX8_dropRecords_43 ?_
      refine lv_icmp_ge (tgt := 70) hx hb dX8_dropRecords_44 (by decide) (fun c8 => ?_) (fun c8 => ?_)
      · have h := br_1 h c8
        refine lv_aload_n hx hb dX8_dropRecords_70 rfl (lv_at hl 0 rfl) ?_
        refine gt_8_0 X wm_90 hP ix_28 dX8_dropRecords_71 ?_
        refine lv_iconst (v := 1) hx hb dX8_dropRecords_74 (by decide) ?_
        refine lv_dup2_11 hx hb dX8_dropRecords_75 rfl rfl ?_
        refine mw_ld X hP ix_29 rfl (v := (M 11 29 1)) (inb_vp (by decide)) rfl dX8_dropRecords_76 ?_
        refine lv_iload_n hx hb dX8_dropRecords_77 rfl (lv_at hl 1 rfl) ?_
        refine lv_isub hx hb dX8_dropRecords_78 ?_
        refine mw_st X hP hS ix_29 (fun _ => rfl) (j := 1) (inb_vp (by decide)) rfl dX8_dropRecords_79 (fun H locs M9 eM9 hP hS => ?_)
        have h := bd_e h eM9
        refine lv_aload_n hx hb dX8_dropRecords_80 rfl (lv_at hl 0 rfl) ?_
        refine gt_8_0 X wm_90 hP ix_28 dX8_dropRecords_81 ?_
        refine lv_iconst (v := 0) hx hb dX8_dropRecords_84 (by decide) ?_
        refine lv_dup2_11 hx hb dX8_dropRecords_85 rfl rfl ?_
        refine mw_ld X hP ix_29 rfl (v := (M9 11 29 0)) (inb_vp (by decide)) rfl dX8_dropRecords_86 ?_
        refine lv_iload_n hx hb dX8_dropRecords_87 rfl (lv_at hl 1 rfl) ?_
        refine lv_iadd hx hb dX8_dropRecords_88 ?_
        refine mw_st X hP hS ix_29 (fun _ => rfl) (j := 0) (inb_vp (by decide)) rfl dX8_dropRecords_89 (fun H locs M10 eM10 hP hS => ?_)
        have h := bd_e h eM10
        refine lv_iload_n hx hb dX8_dropRecords_90 rfl (lv_at hl 1 rfl) ?_
        have h := Option.some.inj h
        exact mw_iret X hr hlocks hP hS (congrArg Prod.fst h) (congrArg Prod.snd h) dX8_dropRecords_91
      · have h := br_0 h c8
        refine lv_aload_n hx hb dX8_dropRecords_47 rfl (lv_at hl 0 rfl) ?_
        refine gt_8_0 X wm_90 hP ix_28 dX8_dropRecords_48 ?_
        refine lv_iload_n hx hb dX8_dropRecords_51 rfl (lv_at hl 2 rfl) ?_
        refine lv_aload_n hx hb dX8_dropRecords_52 rfl (lv_at hl 0 rfl) ?_
        refine gt_8_0 X wm_90 hP ix_28 dX8_dropRecords_53 ?_
        refine lv_iload_n hx hb dX8_dropRecords_56 rfl (lv_at hl 2 rfl) ?_
        refine lv_bipush (v := 16) hx hb dX8_dropRecords_57 (by decide) ?_
        refine lv_iload_n hx hb dX8_dropRecords_59 rfl (lv_at hl 1 rfl) ?_
        refine lv_imul hx hb dX8_dropRecords_60 ?_
        refine lv_iadd hx hb dX8_dropRecords_61 ?_
        obtain ⟨g11, h⟩ := gd_e h
        refine mw_ld X hP ix_29 rfl (inb_vp g11) rfl dX8_dropRecords_62 ?_
        obtain ⟨g13, h⟩ := gd_e h
        refine mw_st X hP hS ix_29 (fun _ => rfl) (inb_vp g13) rfl dX8_dropRecords_63 (fun H locs M12 eM12 hP hS => ?_)
        have h := bd_e h eM12
        obtain ⟨x14, ex14⟩ : ∃ y : Int32, y = y2 + (1 : Int32) := ⟨_, rfl⟩
        have h := bd_e h ex14
        refine lv_iinc (v := x14) (lv' := [(2, .int x14), (0, .ref (E.2.2 11 28)), (1, .int y1)]) hx hb dX8_dropRecords_64 hl (k := 2) rfl (by rw [ex14]; rfl) (by decide) rfl (fun ls hl => ?_)
        refine lv_goto (tgt := 29) hx hb dX8_dropRecords_67 (by decide) ?_
        exact ih29 _ _ _ _ _ _ h hP hS (lv_sub hl [1, 2, 0] rfl)
  unfold f_X8_dropRecords at h
  refine lv_aload_n hx hb dX8_dropRecords_0 rfl (lv_at hl 0 rfl) ?_
  obtain ⟨v1, hv1, h⟩ := bO_e h
  refine mw_callVi X (c_X8_isStopped l E hA hv1) pk_X8_isStopped pv_X8_isStopped wm_186 ⟨Nat.le_of_ble_eq_true rfl, Nat.le_of_ble_eq_true rfl⟩ ⟨rfl, rfl⟩ hP hS ix_28 rfl rfl rfl rfl hl.1 (Nat.le_of_ble_eq_true rfl) ⟨Nat.zero_le _, Nat.zero_le _⟩ rfl dX8_dropRecords_1 (fun H locs hP hS => ?_)
  refine lv_if_ne (tgt := 14) hx hb dX8_dropRecords_4 (by decide) (fun c2 => ?_) (fun c2 => ?_)
  · have h := br_0 h c2
    refine lv_ldc hx hb X.1.2.2.2.1 (X.1.2.2.2.2 _ wm_180) dX8_dropRecords_14 ?_
    have h := Option.some.inj h
    exact mw_iret X hr hlocks hP hS (congrArg Prod.fst h) (congrArg Prod.snd h) dX8_dropRecords_16
  · have h := br_1 h c2
    refine lv_aload_n hx hb dX8_dropRecords_7 rfl (lv_at hl 0 rfl) ?_
    obtain ⟨v3, hv3, h⟩ := bO_e h
    refine mw_callVi X (c_X8_latest l E hA hv3) pk_X8_latest pv_X8_latest wm_452 ⟨Nat.le_of_ble_eq_true rfl, Nat.le_of_ble_eq_true rfl⟩ ⟨rfl, rfl⟩ hP hS ix_28 rfl rfl rfl rfl hl.1 (Nat.le_of_ble_eq_true rfl) ⟨Nat.zero_le _, Nat.zero_le _⟩ rfl dX8_dropRecords_8 (fun H locs hP hS => ?_)
    refine lv_if_ne (tgt := 17) hx hb dX8_dropRecords_11 (by decide) (fun c4 => ?_) (fun c4 => ?_)
    · have h := br_0 h c4
      refine lv_aload_n hx hb dX8_dropRecords_17 rfl (lv_at hl 0 rfl) ?_
      obtain ⟨M6, hv5, h⟩ := bO_e h
      refine mw_callVv X (c_X8_changes l E hA hv5) pk_X8_changes pv_X8_changes wm_198 ⟨Nat.le_of_ble_eq_true rfl, Nat.le_of_ble_eq_true rfl⟩ ⟨rfl, rfl⟩ hP hS ix_28 rfl rfl rfl rfl hl.1 (Nat.le_of_ble_eq_true rfl) ⟨Nat.zero_le _, Nat.zero_le _⟩ rfl dX8_dropRecords_18 (fun H locs hP hS => ?_)
      refine lv_aload_n hx hb dX8_dropRecords_21 rfl (lv_at hl 0 rfl) ?_
      obtain ⟨v7, hv7, h⟩ := bO_e h
      refine mw_callVi X (c_X8_canDrop l E hA hv7) pk_X8_canDrop pv_X8_canDrop wm_456 ⟨Nat.le_of_ble_eq_true rfl, Nat.le_of_ble_eq_true rfl⟩ ⟨rfl, rfl⟩ hP hS ix_28 rfl rfl rfl rfl hl.1 (Nat.le_of_ble_eq_true rfl) ⟨Nat.zero_le _, Nat.zero_le _⟩ rfl dX8_dropRecords_22 (fun H locs hP hS => ?_)
      refine lv_istore_n (lv' := [(1, .int v7), (0, .ref (E.2.2 11 28))]) hx hb dX8_dropRecords_25 rfl hl (by decide) rfl (fun ls hl => ?_)
      refine lv_bipush (v := 69) hx hb dX8_dropRecords_26 (by decide) ?_
      refine lv_istore_n (lv' := [(2, .int (69 : Int32)), (1, .int v7), (0, .ref (E.2.2 11 28))]) hx hb dX8_dropRecords_28 rfl hl (by decide) rfl (fun ls hl => ?_)
      exact w_L29 FU _ _ _ _ _ _ h hP hS (lv_sub hl [2, 1, 0] rfl)
    · have h := br_1 h c4
      refine lv_ldc hx hb X.1.2.2.2.1 (X.1.2.2.2.2 _ wm_180) dX8_dropRecords_14 ?_
      have h := Option.some.inj h
      exact mw_iret X hr hlocks hP hS (congrArg Prod.fst h) (congrArg Prod.snd h) dX8_dropRecords_16
/-! SealedGroupsModel.force -/
noncomputable def f_X8_force  (M : Mem) : Option (Int32 × Mem) :=
bO (f_X8_isStopped M) (fun v1 =>
(if v1 = 0 then
bO (f_X8_changes M) (fun M4 =>
bO (f_X8_last M4) (fun v5 =>
bP (f_X8_forces M4 v5) (fun v6 M7 =>
some (v6, M7))))
else
some ((-1000002 : Int32), M)))
theorem pk_X8_force : Pk "SealedGroupsModel" yX8_force cX8_force 1 (some .int) 0 := ⟨wm_471, wm_5, rfl, by decide +kernel⟩
theorem pv_X8_force : Cond.instanceMethod yX8_force ∈ wsL_law ∧ Cond.selects "SealedGroupsModel" yX8_force yX8_force ∈ wsL_law := ⟨wm_469, wm_470⟩
set_option maxHeartbeats 4000000 in
set_option maxRecDepth 100000 in
theorem c_X8_force (l : Launch) (E : En) (hA : AdOK E) {M : Mem} {r0 : Int32} {M0 : Mem}  (h : f_X8_force M = some (r0, M0)) : Met l yX8_force (Wm yX8_force cX8_force 1 (some .int)) ({ frames := 1, cells := 0, slots := 0, locals := 22 } : Room) (va_Pc [Value.ref (E.2.2 11 28)] (Wd E M)) (QI E r0 M0) 0 0 (AA E) := by
  refine Met.ofW (cc := cX8_force) (maxL := 1) (ret := (some .int)) (by decide +kernel) rfl ?_
  intro p e s m args below meth c s₁ B hml hv
  obtain ⟨rfl, hP, hK⟩ := hv
  have X : Cx E (AA E) p s m c _ cX8_force 1 RX8 := ⟨⟨B.exec, B.bytes, hml, findClass_of_methodNamed B.named, fun w hw => atoms_spec (ws := Wm yX8_force cX8_force 1 (some .int)) B.pre w (List.mem_cons_of_mem _ hw)⟩, hK, hA, fun _ h => h⟩
  have hx := B.exec
  have hb := B.bytes
  have hr := B.returns
  have hlocks := B.notSynchronized
  clear B hml
  have hS : va_S (AA E) s.heap s.heap [] := va_S.rf
  have hl := lv_entry ([Value.ref (E.2.2 11 28)]) (n := 1) (Nat.le_of_ble_eq_true rfl)
  rw [lg_entry_eq]
  generalize (lg_sl ([Value.ref (E.2.2 11 28)]) ++ List.replicate (1 - (lg_sl ([Value.ref (E.2.2 11 28)])).length) Slot.unset).toArray = ls at hl ⊢
  have hl : lv_has ls 1 [(0, .ref (E.2.2 11 28))] := hl
  unfold f_X8_force at h
  refine lv_aload_n hx hb dX8_force_0 rfl (lv_at hl 0 rfl) ?_
  obtain ⟨v1, hv1, h⟩ := bO_e h
  refine mw_callVi X (c_X8_isStopped l E hA hv1) pk_X8_isStopped pv_X8_isStopped wm_186 ⟨Nat.le_of_ble_eq_true rfl, Nat.le_of_ble_eq_true rfl⟩ ⟨rfl, rfl⟩ hP hS ix_28 rfl rfl rfl rfl hl.1 (Nat.le_of_ble_eq_true rfl) ⟨Nat.zero_le _, Nat.zero_le _⟩ rfl dX8_force_1 (fun H locs hP hS => ?_)
  refine lv_if_eq (tgt := 10) hx hb dX8_force_4 (by decide) (fun c2 => ?_) (fun c2 => ?_)
  · have h := br_1 h c2
    refine lv_aload_n hx hb dX8_force_10 rfl (lv_at hl 0 rfl) ?_
    obtain ⟨M4, hv3, h⟩ := bO_e h
    refine mw_callVv X (c_X8_changes l E hA hv3) pk_X8_changes pv_X8_changes wm_198 ⟨Nat.le_of_ble_eq_true rfl, Nat.le_of_ble_eq_true rfl⟩ ⟨rfl, rfl⟩ hP hS ix_28 rfl rfl rfl rfl hl.1 (Nat.le_of_ble_eq_true rfl) ⟨Nat.zero_le _, Nat.zero_le _⟩ rfl dX8_force_11 (fun H locs hP hS => ?_)
    refine lv_aload_n hx hb dX8_force_14 rfl (lv_at hl 0 rfl) ?_
    refine lv_aload_n hx hb dX8_force_15 rfl (lv_at hl 0 rfl) ?_
    obtain ⟨v5, hv5, h⟩ := bO_e h
    refine mw_callVi X (c_X8_last l E hA hv5) pk_X8_last pv_X8_last wm_208 ⟨Nat.le_of_ble_eq_true rfl, Nat.le_of_ble_eq_true rfl⟩ ⟨rfl, rfl⟩ hP hS ix_28 rfl rfl rfl rfl hl.1 (Nat.le_of_ble_eq_true rfl) ⟨Nat.zero_le _, Nat.zero_le _⟩ rfl dX8_force_16 (fun H locs hP hS => ?_)
    obtain ⟨v6, M7, hv6, h⟩ := bP_e h
    refine mw_callVi X (c_X8_forces l E hA hv6) pk_X8_forces pv_X8_forces wm_312 ⟨Nat.le_of_ble_eq_true rfl, Nat.le_of_ble_eq_true rfl⟩ ⟨rfl, rfl⟩ hP hS ix_28 rfl rfl rfl rfl hl.1 (Nat.le_of_ble_eq_true rfl) ⟨Nat.zero_le _, Nat.zero_le _⟩ rfl dX8_force_19 (fun H locs hP hS => ?_)
    have h := Option.some.inj h
    exact mw_iret X hr hlocks hP hS (congrArg Prod.fst h) (congrArg Prod.snd h) dX8_force_22
  · have h := br_0 h c2
    refine lv_ldc hx hb X.1.2.2.2.1 (X.1.2.2.2.2 _ wm_180) dX8_force_7 ?_
    have h := Option.some.inj h
    exact mw_iret X hr hlocks hP hS (congrArg Prod.fst h) (congrArg Prod.snd h) dX8_force_9
/-! SealedGroupsModel.isTorn -/
noncomputable def f_X8_isTorn_L83  (M : Mem) (K53 : Int32 → Int32 → Option Int32) (y2 z0 : Int32) : Option Int32 :=
bd (y2 + (1 : Int32)) (fun x5 =>
K53 z0 x5)
noncomputable def f_X8_isTorn_L82  (M : Mem) (K53 : Int32 → Int32 → Option Int32) (y2 : Int32) : Option Int32 :=
f_X8_isTorn_L83 M K53 y2 (0 : Int32)
noncomputable def f_X8_isTorn_L53  (M : Mem) (K53 : Int32 → Int32 → Option Int32) (y1 y2 : Int32) : Option Int32 :=
(if (8 : Int32) ≤ y2 then
gd (isB y1) (some y1)
else
(if y1 = 0 then
f_X8_isTorn_L82 M K53 y2
else
bO (f_X8_ofPage M y2 (1 : Int32)) (fun v6 =>
(if (M 11 29 2) ≤ v6 then
f_X8_isTorn_L82 M K53 y2
else
f_X8_isTorn_L83 M K53 y2 (1 : Int32)))))
noncomputable def f_X8_isTorn_L50  (M : Mem) (z0 : Int32) : Option Int32 :=
itr (f_X8_isTorn_L53 M) (fun _ _ => none) FU z0 (0 : Int32)
noncomputable def f_X8_isTorn_L49  (M : Mem) : Option Int32 :=
f_X8_isTorn_L50 M (0 : Int32)
noncomputable def f_X8_isTorn  (M : Mem) : Option Int32 :=
(if (M 11 29 2) < (M 11 29 0) then
f_X8_isTorn_L49 M
else
bO (f_X8_of M (M 11 29 2) (0 : Int32)) (fun v8 =>
(if v8 = (2 : Int32) then
f_X8_isTorn_L49 M
else
bO (f_X8_of M (M 11 29 2) (0 : Int32)) (fun v10 =>
(if v10 = (5 : Int32) then
f_X8_isTorn_L49 M
else
f_X8_isTorn_L50 M (1 : Int32))))))
theorem pk_X8_isTorn : Pk "SealedGroupsModel" yX8_isTorn cX8_isTorn 3 (some .boolean) 0 := ⟨wm_510, wm_5, rfl, by decide +kernel⟩
theorem pv_X8_isTorn : Cond.instanceMethod yX8_isTorn ∈ wsL_law ∧ Cond.selects "SealedGroupsModel" yX8_isTorn yX8_isTorn ∈ wsL_law := ⟨wm_508, wm_509⟩
set_option maxHeartbeats 4000000 in
set_option maxRecDepth 100000 in
theorem c_X8_isTorn (l : Launch) (E : En) (hA : AdOK E) {M : Mem} {r0 : Int32}  (h : f_X8_isTorn M = some r0) : Met l yX8_isTorn (Wm yX8_isTorn cX8_isTorn 3 (some .boolean)) ({ frames := 1, cells := 0, slots := 0, locals := 22 } : Room) (va_Pc [Value.ref (E.2.2 11 28)] (Wd E M)) (QI E r0 M) 0 0 (AA E) := by
  refine Met.ofW (cc := cX8_isTorn) (maxL := 3) (ret := (some .boolean)) (by decide +kernel) rfl ?_
  intro p e s m args below meth c s₁ B hml hv
  obtain ⟨rfl, hP, hK⟩ := hv
  have X : Cx E (AA E) p s m c _ cX8_isTorn 3 RX8 := ⟨⟨B.exec, B.bytes, hml, findClass_of_methodNamed B.named, fun w hw => atoms_spec (ws := Wm yX8_isTorn cX8_isTorn 3 (some .boolean)) B.pre w (List.mem_cons_of_mem _ hw)⟩, hK, hA, fun _ h => h⟩
  have hx := B.exec
  have hb := B.bytes
  have hr := B.returns
  have hlocks := B.notSynchronized
  clear B hml
  have hS : va_S (AA E) s.heap s.heap [] := va_S.rf
  have hl := lv_entry ([Value.ref (E.2.2 11 28)]) (n := 3) (Nat.le_of_ble_eq_true rfl)
  rw [lg_entry_eq]
  generalize (lg_sl ([Value.ref (E.2.2 11 28)]) ++ List.replicate (3 - (lg_sl ([Value.ref (E.2.2 11 28)])).length) Slot.unset).toArray = ls at hl ⊢
  have hl : lv_has ls 3 [(0, .ref (E.2.2 11 28))] := hl
  have w_L53 : ∀ (n53 : Nat)  (y1 y2 : Int32) (H : Heap) (locs : List Loc) (ls : Array Slot), itr (f_X8_isTorn_L53 M) (fun _ _ => none) n53 y1 y2 = some r0 → va_P E.1 vwCl (wl E M) H → va_S (AA E) s.heap H locs → lv_has ls 3 [(0, .ref (E.2.2 11 28)), (1, .int y1), (2, .int y2)] → W p l e (headSpec (Wm yX8_isTorn cX8_isTorn 3 (some .boolean)) ({ frames := 1, cells := 0, slots := 0, locals := 22 } : Room)).room s m ([Value.ref (E.2.2 11 28)] : List Value).toArray below meth c H locs 0 0 (MQ below (QI E r0 M) ([Value.ref (E.2.2 11 28)] : List Value).toArray s 0 0 (AA E)) (F0 m 53 ls []) := by
    intro n53
    induction n53 with
    | zero => intro y1 y2 H locs ls h; exact (nomatch (show (none : Option Int32) = some _ from h))
    | succ n53 ih53 =>
      intro y1 y2 H locs ls h hP hS hl
      have h : f_X8_isTorn_L53 M (itr (f_X8_isTorn_L53 M) (fun _ _ => none) n53) y1 y2 = some r0 := h
      have w_L83 : ∀  (y2 z0 : Int32) (H : Heap) (locs : List Loc) (ls : Array Slot), f_X8_isTorn_L83 M (itr (f_X8_isTorn_L53 M) (fun _ _ => none) n53) y2 z0 = some r0 → va_P E.1 vwCl (wl E M) H → va_S (AA E) s.heap H locs → lv_has ls 3 [(0, .ref (E.2.2 11 28)), (2, .int y2)] → W p l e (headSpec (Wm yX8_isTorn cX8_isTorn 3 (some .boolean)) ({ frames := 1, cells := 0, slots := 0, locals := 22 } : Room)).room s m ([Value.ref (E.2.2 11 28)] : List Value).toArray below meth c H locs 0 0 (MQ below (QI E r0 M) ([Value.ref (E.2.2 11 28)] : List Value).toArray s 0 0 (AA E)) (F0 m 83 ls [.int z0]) := by
        intro y2 z0 H locs ls h hP hS hl
        unfold f_X8_isTorn_L83 at h
        refine lv_istore_n (lv' := [(1, .int z0), (0, .ref (E.2.2 11 28)), (2, .int y2)]) hx hb dX8_isTorn_83 rfl hl (by decide) rfl (fun ls hl => ?_)
        obtain ⟨x5, ex5⟩ : ∃ y : Int32, y = y2 + (1 : Int32) := ⟨_, rfl⟩
        have h := bd_e h ex5
        refine lv_iinc (v := x5) (lv' := [(2, .int x5), (1, .int z0), (0, .ref (E.2.2 11 28))]) hx hb dX8_isTorn_84 hl (k := 2) rfl (by rw [ex5]; rfl) (by decide) rfl (fun ls hl => ?_)
        refine lv_goto (tgt := 53) hx hb dX8_isTorn_87 (by decide) ?_
        exact ih53 _ _ _ _ _ h hP hS (lv_sub hl [2, 1, 0] rfl)
      have w_L82 : ∀  (y2 : Int32) (H : Heap) (locs : List Loc) (ls : Array Slot), f_X8_isTorn_L82 M (itr (f_X8_isTorn_L53 M) (fun _ _ => none) n53) y2 = some r0 → va_P E.1 vwCl (wl E M) H → va_S (AA E) s.heap H locs → lv_has ls 3 [(0, .ref (E.2.2 11 28)), (2, .int y2)] → W p l e (headSpec (Wm yX8_isTorn cX8_isTorn 3 (some .boolean)) ({ frames := 1, cells := 0, slots := 0, locals := 22 } : Room)).room s m ([Value.ref (E.2.2 11 28)] : List Value).toArray below meth c H locs 0 0 (MQ below (QI E r0 M) ([Value.ref (E.2.2 11 28)] : List Value).toArray s 0 0 (AA E)) (F0 m 82 ls []) := by
        intro y2 H locs ls h hP hS hl
        unfold f_X8_isTorn_L82 at h
        refine lv_iconst (v := 0) hx hb dX8_isTorn_82 (by decide) ?_
        exact w_L83 _ _ _ _ _ h hP hS (lv_sub hl [0, 1] rfl)
      unfold f_X8_isTorn_L53 at h
      refine lv_iload_n hx hb dX8_isTorn_53 rfl (lv_at hl 2 rfl) ?_
      refine lv_bipush (v := 8) hx hb dX8_isTorn_54 (by decide) ?_
      refine lv_icmp_ge (tgt := 90) hx hb dX8_isTorn_56 (by decide) (fun c2 => ?_) (fun c2 => ?_)
      · have h := br_1 h c2
        refine lv_iload_n hx hb dX8_isTorn_90 rfl (lv_at hl 1 rfl) ?_
        obtain ⟨g3, h⟩ := gd_e h
        exact mw_zret X hr hlocks hP hS g3 (Option.some.inj h) rfl dX8_isTorn_91
      · have h := br_0 h c2
        refine lv_iload_n hx hb dX8_isTorn_59 rfl (lv_at hl 1 rfl) ?_
        refine lv_if_eq (tgt := 82) hx hb dX8_isTorn_60 (by decide) (fun c4 => ?_) (fun c4 => ?_)
        · have h := br_1 h c4
          exact w_L82 _ _ _ _ h hP hS (lv_sub hl [0, 2] rfl)
        · have h := br_0 h c4
          refine lv_aload_n hx hb dX8_isTorn_63 rfl (lv_at hl 0 rfl) ?_
          refine gt_8_0 X wm_90 hP ix_28 dX8_isTorn_64 ?_
          refine lv_iconst (v := 2) hx hb dX8_isTorn_67 (by decide) ?_
          refine mw_ld X hP ix_29 rfl (v := (M 11 29 2)) (inb_vp (by decide)) rfl dX8_isTorn_68 ?_
          refine lv_aload_n hx hb dX8_isTorn_69 rfl (lv_at hl 0 rfl) ?_
          refine lv_iload_n hx hb dX8_isTorn_70 rfl (lv_at hl 2 rfl) ?_
          refine lv_iconst (v := 1) hx hb dX8_isTorn_71 (by decide) ?_
          obtain ⟨v6, hv6, h⟩ := bO_e h
          refine mw_callVi X (c_X8_ofPage l E hA hv6) pk_X8_ofPage pv_X8_ofPage wm_253 ⟨Nat.le_of_ble_eq_true rfl, Nat.le_of_ble_eq_true rfl⟩ ⟨rfl, rfl⟩ hP hS ix_28 rfl rfl rfl rfl hl.1 (Nat.le_of_ble_eq_true rfl) ⟨Nat.zero_le _, Nat.zero_le _⟩ rfl dX8_isTorn_72 (fun H locs hP hS => ?_)
          refine lv_icmp_le (tgt := 82) hx hb dX8_isTorn_75 (by decide) (fun c7 => ?_) (fun c7 => ?_)
          · have h := br_1 h c7
            exact w_L82 _ _ _ _ h hP hS (lv_sub hl [0, 2] rfl)
          · have h := br_0 h c7
            refine lv_iconst (v := 1) hx hb dX8_isTorn_78 (by decide) ?_
            refine lv_goto (tgt := 83) hx hb dX8_isTorn_79 (by decide) ?_
            exact w_L83 _ _ _ _ _ h hP hS (lv_sub hl [0, 2] rfl)
  have w_L50 : ∀  (z0 : Int32) (H : Heap) (locs : List Loc) (ls : Array Slot), f_X8_isTorn_L50 M z0 = some r0 → va_P E.1 vwCl (wl E M) H → va_S (AA E) s.heap H locs → lv_has ls 3 [(0, .ref (E.2.2 11 28))] → W p l e (headSpec (Wm yX8_isTorn cX8_isTorn 3 (some .boolean)) ({ frames := 1, cells := 0, slots := 0, locals := 22 } : Room)).room s m ([Value.ref (E.2.2 11 28)] : List Value).toArray below meth c H locs 0 0 (MQ below (QI E r0 M) ([Value.ref (E.2.2 11 28)] : List Value).toArray s 0 0 (AA E)) (F0 m 50 ls [.int z0]) := by
    intro z0 H locs ls h hP hS hl
    unfold f_X8_isTorn_L50 at h
    refine lv_istore_n (lv' := [(1, .int z0), (0, .ref (E.2.2 11 28))]) hx hb dX8_isTorn_50 rfl hl (by decide) rfl (fun ls hl => ?_)
    refine lv_iconst (v := 0) hx hb dX8_isTorn_51 (by decide) ?_
    refine lv_istore_n (lv' := [(2, .int (0 : Int32)), (1, .int z0), (0, .ref (E.2.2 11 28))]) hx hb dX8_isTorn_52 rfl hl (by decide) rfl (fun ls hl => ?_)
    exact w_L53 FU _ _ _ _ _ h hP hS (lv_sub hl [2, 1, 0] rfl)
  have w_L49 : ∀  (H : Heap) (locs : List Loc) (ls : Array Slot), f_X8_isTorn_L49 M  = some r0 → va_P E.1 vwCl (wl E M) H → va_S (AA E) s.heap H locs → lv_has ls 3 [(0, .ref (E.2.2 11 28))] → W p l e (headSpec (Wm yX8_isTorn cX8_isTorn 3 (some .boolean)) ({ frames := 1, cells := 0, slots := 0, locals := 22 } : Room)).room s m ([Value.ref (E.2.2 11 28)] : List Value).toArray below meth c H locs 0 0 (MQ below (QI E r0 M) ([Value.ref (E.2.2 11 28)] : List Value).toArray s 0 0 (AA E)) (F0 m 49 ls []) := by
    intro  H locs ls h hP hS hl
    unfold f_X8_isTorn_L49 at h
    refine lv_iconst (v := 0) hx hb dX8_isTorn_49 (by decide) ?_
    exact w_L50 _ _ _ _ h hP hS (lv_sub hl [0] rfl)
  unfold f_X8_isTorn at h
  refine lv_aload_n hx hb dX8_isTorn_0 rfl (lv_at hl 0 rfl) ?_
  refine gt_8_0 X wm_90 hP ix_28 dX8_isTorn_1 ?_
  refine lv_iconst (v := 2) hx hb dX8_isTorn_4 (by decide) ?_
  refine mw_ld X hP ix_29 rfl (v := (M 11 29 2)) (inb_vp (by decide)) rfl dX8_isTorn_5 ?_
  refine lv_aload_n hx hb dX8_isTorn_6 rfl (lv_at hl 0 rfl) ?_
  refine gt_8_0 X wm_90 hP ix_28 dX8_isTorn_7 ?_
  refine lv_iconst (v := 0) hx hb dX8_isTorn_10 (by decide) ?_
  refine mw_ld X hP ix_29 rfl (v := (M 11 29 0)) (inb_vp (by decide)) rfl dX8_isTorn_11 ?_
  refine lv_icmp_lt (tgt := 49) hx hb dX8_isTorn_12 (by decide) (fun c1 => ?_) (fun c1 => ?_)
  · have h := br_1 h c1
    exact w_L49  _ _ _ h hP hS (lv_sub hl [0] rfl)
  · have h := br_0 h c1
    refine lv_aload_n hx hb dX8_isTorn_15 rfl (lv_at hl 0 rfl) ?_
    refine lv_aload_n hx hb dX8_isTorn_16 rfl (lv_at hl 0 rfl) ?_
    refine gt_8_0 X wm_90 hP ix_28 dX8_isTorn_17 ?_
    refine lv_iconst (v := 2) hx hb dX8_isTorn_20 (by decide) ?_
    refine mw_ld X hP ix_29 rfl (v := (M 11 29 2)) (inb_vp (by decide)) rfl dX8_isTorn_21 ?_
    refine lv_iconst (v := 0) hx hb dX8_isTorn_22 (by decide) ?_
    obtain ⟨v8, hv8, h⟩ := bO_e h
    refine mw_callVi X (c_X8_of l E hA hv8) pk_X8_of pv_X8_of wm_363 ⟨Nat.le_of_ble_eq_true rfl, Nat.le_of_ble_eq_true rfl⟩ ⟨rfl, rfl⟩ hP hS ix_28 rfl rfl rfl rfl hl.1 (Nat.le_of_ble_eq_true rfl) ⟨Nat.zero_le _, Nat.zero_le _⟩ rfl dX8_isTorn_23 (fun H locs hP hS => ?_)
    refine lv_iconst (v := 2) hx hb dX8_isTorn_26 (by decide) ?_
    refine lv_icmp_eq (tgt := 49) hx hb dX8_isTorn_27 (by decide) (fun c9 => ?_) (fun c9 => ?_)
    · have h := br_1 h c9
      exact w_L49  _ _ _ h hP hS (lv_sub hl [0] rfl)
    · have h := br_0 h c9
      refine lv_aload_n hx hb dX8_isTorn_30 rfl (lv_at hl 0 rfl) ?_
      refine lv_aload_n hx hb dX8_isTorn_31 rfl (lv_at hl 0 rfl) ?_
      refine gt_8_0 X wm_90 hP ix_28 dX8_isTorn_32 ?_
      refine lv_iconst (v := 2) hx hb dX8_isTorn_35 (by decide) ?_
      refine mw_ld X hP ix_29 rfl (v := (M 11 29 2)) (inb_vp (by decide)) rfl dX8_isTorn_36 ?_
      refine lv_iconst (v := 0) hx hb dX8_isTorn_37 (by decide) ?_
      obtain ⟨v10, hv10, h⟩ := bO_e h
      refine mw_callVi X (c_X8_of l E hA hv10) pk_X8_of pv_X8_of wm_363 ⟨Nat.le_of_ble_eq_true rfl, Nat.le_of_ble_eq_true rfl⟩ ⟨rfl, rfl⟩ hP hS ix_28 rfl rfl rfl rfl hl.1 (Nat.le_of_ble_eq_true rfl) ⟨Nat.zero_le _, Nat.zero_le _⟩ rfl dX8_isTorn_38 (fun H locs hP hS => ?_)
      refine lv_iconst (v := 5) hx hb dX8_isTorn_41 (by decide) ?_
      refine lv_icmp_eq (tgt := 49) hx hb dX8_isTorn_42 (by decide) (fun c11 => ?_) (fun c11 => ?_)
      · have h := br_1 h c11
        exact w_L49  _ _ _ h hP hS (lv_sub hl [0] rfl)
      · have h := br_0 h c11
        refine lv_iconst (v := 1) hx hb dX8_isTorn_45 (by decide) ?_
        refine lv_goto (tgt := 50) hx hb dX8_isTorn_46 (by decide) ?_
        exact w_L50 _ _ _ _ h hP hS (lv_sub hl [0] rfl)
/-! SealedGroupsModel.stops -/
noncomputable def f_X8_stops_L109  (M : Mem) (y2 : Int32) : Option (Int32 × Mem) :=
bd (st M 11 29 3 (1 : Int32)) (fun M8 =>
some (y2, M8))
noncomputable def f_X8_stops_L70  (K70 : Mem → Int32 → Int32 → Option (Int32 × Mem)) (M : Mem) (y2 y3 : Int32) : Option (Int32 × Mem) :=
(if (4 : Int32) ≤ y3 then
(if (M 11 29 1) = 0 then
bd (st M 11 29 0 (1 : Int32)) (fun M9 =>
bd (st M9 11 29 2 (0 : Int32)) (fun M10 =>
f_X8_stops_L109 M10 y2))
else
f_X8_stops_L109 M y2)
else
bO (f_X8_closes M y3) (fun M12 =>
bd (y3 + (1 : Int32)) (fun x13 =>
K70 M12 y2 x13)))
noncomputable def f_X8_stops_L49  (K49 : Mem → Int32 → Int32 → Option (Int32 × Mem)) (M : Mem) (y2 y3 : Int32) : Option (Int32 × Mem) :=
(if (8 : Int32) ≤ y3 then
itr (f_X8_stops_L70 ) (fun _ _ _ => none) FU M y2 (0 : Int32)
else
bO (f_X8_putsPage M y3 (2 : Int32) (0 : Int32)) (fun M15 =>
bd (y3 + (1 : Int32)) (fun x16 =>
K49 M15 y2 x16)))
noncomputable def f_X8_stops_L37  (M : Mem) (y2 : Int32) : Option (Int32 × Mem) :=
bd (st M 11 29 1 ((M 11 29 1) - y2)) (fun M4 =>
itr (f_X8_stops_L49 ) (fun _ _ _ => none) FU M4 y2 (0 : Int32))
noncomputable def f_X8_stops  (M : Mem) (a1 : Int32) : Option (Int32 × Mem) :=
bO (f_X8_last M) (fun v1 =>
bd ((v1 - (M 11 29 2))) (fun x2 =>
(if a1 = (1 : Int32) then
bO (f_X8_isTorn M) (fun v17 =>
(if v17 = 0 then
f_X8_stops_L37 M x2
else
bd (x2 + (1 : Int32)) (fun x19 =>
bd (st M 11 29 2 ((M 11 29 2) - (1 : Int32))) (fun M20 =>
f_X8_stops_L37 M20 x19))))
else
f_X8_stops_L37 M x2)))
theorem pk_X8_stops : Pk "SealedGroupsModel" yX8_stops cX8_stops 4 (some .int) 1 := ⟨wm_506, wm_5, rfl, by decide +kernel⟩
theorem pv_X8_stops : Cond.instanceMethod yX8_stops ∈ wsL_law ∧ Cond.selects "SealedGroupsModel" yX8_stops yX8_stops ∈ wsL_law := ⟨wm_504, wm_505⟩
set_option maxHeartbeats 4000000 in
set_option maxRecDepth 100000 in
theorem c_X8_stops (l : Launch) (E : En) (hA : AdOK E) {M : Mem} {a1 : Int32} {r0 : Int32} {M0 : Mem}  (h : f_X8_stops M a1 = some (r0, M0)) : Met l yX8_stops (Wm yX8_stops cX8_stops 4 (some .int)) ({ frames := 2, cells := 0, slots := 0, locals := 45 } : Room) (va_Pc [Value.ref (E.2.2 11 28), Value.int a1] (Wd E M)) (QI E r0 M0) 0 0 (AA E) := by
  refine Met.ofW (cc := cX8_stops) (maxL := 4) (ret := (some .int)) (by decide +kernel) rfl ?_
  intro p e s m args below meth c s₁ B hml hv
  obtain ⟨rfl, hP, hK⟩ := hv
  have X : Cx E (AA E) p s m c _ cX8_stops 4 RX8 := ⟨⟨B.exec, B.bytes, hml, findClass_of_methodNamed B.named, fun w hw => atoms_spec (ws := Wm yX8_stops cX8_stops 4 (some .int)) B.pre w (List.mem_cons_of_mem _ hw)⟩, hK, hA, fun _ h => h⟩
  have hx := B.exec
  have hb := B.bytes
  have hr := B.returns
  have hlocks := B.notSynchronized
  clear B hml
  have hS : va_S (AA E) s.heap s.heap [] := va_S.rf
  have hl := lv_entry ([Value.ref (E.2.2 11 28), Value.int a1]) (n := 4) (Nat.le_of_ble_eq_true rfl)
  rw [lg_entry_eq]
  generalize (lg_sl ([Value.ref (E.2.2 11 28), Value.int a1]) ++ List.replicate (4 - (lg_sl ([Value.ref (E.2.2 11 28), Value.int a1])).length) Slot.unset).toArray = ls at hl ⊢
  have hl : lv_has ls 4 [(0, .ref (E.2.2 11 28)), (1, .int a1)] := hl
  have w_L109 : ∀ (M : Mem) (y2 : Int32) (H : Heap) (locs : List Loc) (ls : Array Slot), f_X8_stops_L109  M y2 = some (r0, M0) → va_P E.1 vwCl (wl E M) H → va_S (AA E) s.heap H locs → lv_has ls 4 [(0, .ref (E.2.2 11 28)), (2, .int y2)] → W p l e (headSpec (Wm yX8_stops cX8_stops 4 (some .int)) ({ frames := 2, cells := 0, slots := 0, locals := 45 } : Room)).room s m ([Value.ref (E.2.2 11 28), Value.int a1] : List Value).toArray below meth c H locs 0 0 (MQ below (QI E r0 M0) ([Value.ref (E.2.2 11 28), Value.int a1] : List Value).toArray s 0 0 (AA E)) (F0 m 109 ls []) := by
    intro M y2 H locs ls h hP hS hl
    unfold f_X8_stops_L109 at h
    refine lv_aload_n hx hb dX8_stops_109 rfl (lv_at hl 0 rfl) ?_
    refine gt_8_0 X wm_90 hP ix_28 dX8_stops_110 ?_
    refine lv_iconst (v := 3) hx hb dX8_stops_113 (by decide) ?_
    refine lv_iconst (v := 1) hx hb dX8_stops_114 (by decide) ?_
    refine mw_st X hP hS ix_29 (fun _ => rfl) (j := 3) (inb_vp (by decide)) rfl dX8_stops_115 (fun H locs M8 eM8 hP hS => ?_)
    have h := bd_e h eM8
    refine lv_iload_n hx hb dX8_stops_116 rfl (lv_at hl 1 rfl) ?_
    have h := Option.some.inj h
    exact mw_iret X hr hlocks hP hS (congrArg Prod.fst h) (congrArg Prod.snd h) dX8_stops_117
  have w_L70 : ∀ (n70 : Nat) (M : Mem) (y2 y3 : Int32) (H : Heap) (locs : List Loc) (ls : Array Slot), itr (f_X8_stops_L70 ) (fun _ _ _ => none) n70 M y2 y3 = some (r0, M0) → va_P E.1 vwCl (wl E M) H → va_S (AA E) s.heap H locs → lv_has ls 4 [(0, .ref (E.2.2 11 28)), (2, .int y2), (3, .int y3)] → W p l e (headSpec (Wm yX8_stops cX8_stops 4 (some .int)) ({ frames := 2, cells := 0, slots := 0, locals := 45 } : Room)).room s m ([Value.ref (E.2.2 11 28), Value.int a1] : List Value).toArray below meth c H locs 0 0 (MQ below (QI E r0 M0) ([Value.ref (E.2.2 11 28), Value.int a1] : List Value).toArray s 0 0 (AA E)) (F0 m 70 ls []) := by
    intro n70
    induction n70 with
    | zero => intro M y2 y3 H locs ls h; exact (nomatch (show (none : Option (Int32 × Mem)) = some _ from h))
    | succ n70 ih70 =>
      intro M y2 y3 H locs ls h hP hS hl
      have h : f_X8_stops_L70 (itr (f_X8_stops_L70 ) (fun _ _ _ => none) n70) M y2 y3 = some (r0, M0) := h
      unfold f_X8_stops_L70 at h
      refine lv_iload_n hx hb dX8_stops_70 rfl (lv_at hl 2 rfl) ?_
      refine lv_iconst (v := 4) hx hb dX8_stops_71 (by decide) ?_
      refine lv_icmp_ge (tgt := 86) hx hb dX8_stops_72 (by decide) (fun c6 => ?_) (fun c6 => ?_)
      · have h := br_1 h c6
        refine lv_aload_n hx hb dX8_stops_86 rfl (lv_at hl 0 rfl) ?_
        refine gt_8_0 X wm_90 hP ix_28 dX8_stops_87 ?_
        refine lv_iconst (v := 1) hx hb dX8_stops_90 (by decide) ?_
        refine mw_ld X hP ix_29 rfl (v := (M 11 29 1)) (inb_vp (by decide)) rfl dX8_stops_91 ?_
        refine lv_if_ne (tgt := 109) hx hb dX8_stops_92 (by decide) (fun c7 => ?_) (fun c7 => ?_)
        · have h := br_0 h c7
          exact w_L109 _ _ _ _ _ h hP hS (lv_sub hl [0, 1] rfl)
        · have h := br_1 h c7
          refine lv_aload_n hx hb dX8_stops_95 rfl (lv_at hl 0 rfl) ?_
          refine gt_8_0 X wm_90 hP ix_28 dX8_stops_96 ?_
          refine lv_iconst (v := 0) hx hb dX8_stops_99 (by decide) ?_
          refine lv_iconst (v := 1) hx hb dX8_stops_100 (by decide) ?_
          refine mw_st X hP hS ix_29 (fun _ => rfl) (j := 0) (inb_vp (by decide)) rfl dX8_stops_101 (fun H locs M9 eM9 hP hS => ?_)
          have h := bd_e h eM9
          refine lv_aload_n hx hb dX8_stops_102 rfl (lv_at hl 0 rfl) ?_
          refine gt_8_0 X wm_90 hP ix_28 dX8_stops_103 ?_
          refine lv_iconst (v := 2) hx hb dX8_stops_106 (by decide) ?_
          refine lv_iconst (v := 0) hx hb dX8_stops_107 (by decide) ?_
          refine mw_st X hP hS ix_29 (fun _ => rfl) (j := 2) (inb_vp (by decide)) rfl dX8_stops_108 (fun H locs M10 eM10 hP hS => ?_)
          have h := bd_e h eM10
          exact w_L109 _ _ _ _ _ h hP hS (lv_sub hl [0, 1] rfl)
      · have h := br_0 h c6
        refine lv_aload_n hx hb dX8_stops_75 rfl (lv_at hl 0 rfl) ?_
        refine lv_iload_n hx hb dX8_stops_76 rfl (lv_at hl 2 rfl) ?_
        obtain ⟨M12, hv11, h⟩ := bO_e h
        refine mw_callVv X (c_X8_closes l E hA hv11) pk_X8_closes pv_X8_closes wm_319 ⟨Nat.le_of_ble_eq_true rfl, Nat.le_of_ble_eq_true rfl⟩ ⟨rfl, rfl⟩ hP hS ix_28 rfl rfl rfl rfl hl.1 (Nat.le_of_ble_eq_true rfl) ⟨Nat.zero_le _, Nat.zero_le _⟩ rfl dX8_stops_77 (fun H locs hP hS => ?_)
        obtain ⟨x13, ex13⟩ : ∃ y : Int32, y = y3 + (1 : Int32) := ⟨_, rfl⟩
        have h := bd_e h ex13
        refine lv_iinc (v := x13) (lv' := [(3, .int x13), (0, .ref (E.2.2 11 28)), (2, .int y2)]) hx hb dX8_stops_80 hl (k := 2) rfl (by rw [ex13]; rfl) (by decide) rfl (fun ls hl => ?_)
        refine lv_goto (tgt := 70) hx hb dX8_stops_83 (by decide) ?_
        exact ih70 _ _ _ _ _ _ h hP hS (lv_sub hl [1, 2, 0] rfl)
  have w_L49 : ∀ (n49 : Nat) (M : Mem) (y2 y3 : Int32) (H : Heap) (locs : List Loc) (ls : Array Slot), itr (f_X8_stops_L49 ) (fun _ _ _ => none) n49 M y2 y3 = some (r0, M0) → va_P E.1 vwCl (wl E M) H → va_S (AA E) s.heap H locs → lv_has ls 4 [(0, .ref (E.2.2 11 28)), (2, .int y2), (3, .int y3)] → W p l e (headSpec (Wm yX8_stops cX8_stops 4 (some .int)) ({ frames := 2, cells := 0, slots := 0, locals := 45 } : Room)).room s m ([Value.ref (E.2.2 11 28), Value.int a1] : List Value).toArray below meth c H locs 0 0 (MQ below (QI E r0 M0) ([Value.ref (E.2.2 11 28), Value.int a1] : List Value).toArray s 0 0 (AA E)) (F0 m 49 ls []) := by
    intro n49
    induction n49 with
    | zero => intro M y2 y3 H locs ls h; exact (nomatch (show (none : Option (Int32 × Mem)) = some _ from h))
    | succ n49 ih49 =>
      intro M y2 y3 H locs ls h hP hS hl
      have h : f_X8_stops_L49 (itr (f_X8_stops_L49 ) (fun _ _ _ => none) n49) M y2 y3 = some (r0, M0) := h
      unfold f_X8_stops_L49 at h
      refine lv_iload_n hx hb dX8_stops_49 rfl (lv_at hl 2 rfl) ?_
      refine lv_bipush (v := 8) hx hb dX8_stops_50 (by decide) ?_
      refine lv_icmp_ge (tgt := 68) hx hb dX8_stops_52 (by decide) (fun c5 => ?_) (fun c5 => ?_)
      · have h := br_1 h c5
        refine lv_iconst (v := 0) hx hb dX8_stops_68 (by decide) ?_
        refine lv_istore_n (lv' := [(3, .int (0 : Int32)), (0, .ref (E.2.2 11 28)), (2, .int y2)]) hx hb dX8_stops_69 rfl hl (by decide) rfl (fun ls hl => ?_)
        exact w_L70 FU _ _ _ _ _ _ h hP hS (lv_sub hl [1, 2, 0] rfl)
      · have h := br_0 h c5
        refine lv_aload_n hx hb dX8_stops_55 rfl (lv_at hl 0 rfl) ?_
        refine lv_iload_n hx hb dX8_stops_56 rfl (lv_at hl 2 rfl) ?_
        refine lv_iconst (v := 2) hx hb dX8_stops_57 (by decide) ?_
        refine lv_iconst (v := 0) hx hb dX8_stops_58 (by decide) ?_
        obtain ⟨M15, hv14, h⟩ := bO_e h
        refine mw_callVv X (c_X8_putsPage l E hA hv14) pk_X8_putsPage pv_X8_putsPage wm_269 ⟨Nat.le_of_ble_eq_true rfl, Nat.le_of_ble_eq_true rfl⟩ ⟨rfl, rfl⟩ hP hS ix_28 rfl rfl rfl rfl hl.1 (Nat.le_of_ble_eq_true rfl) ⟨Nat.zero_le _, Nat.zero_le _⟩ rfl dX8_stops_59 (fun H locs hP hS => ?_)
        obtain ⟨x16, ex16⟩ : ∃ y : Int32, y = y3 + (1 : Int32) := ⟨_, rfl⟩
        have h := bd_e h ex16
        refine lv_iinc (v := x16) (lv' := [(3, .int x16), (0, .ref (E.2.2 11 28)), (2, .int y2)]) hx hb dX8_stops_62 hl (k := 2) rfl (by rw [ex16]; rfl) (by decide) rfl (fun ls hl => ?_)
        refine lv_goto (tgt := 49) hx hb dX8_stops_65 (by decide) ?_
        exact ih49 _ _ _ _ _ _ h hP hS (lv_sub hl [1, 2, 0] rfl)
  have w_L37 : ∀ (M : Mem) (y2 : Int32) (H : Heap) (locs : List Loc) (ls : Array Slot), f_X8_stops_L37  M y2 = some (r0, M0) → va_P E.1 vwCl (wl E M) H → va_S (AA E) s.heap H locs → lv_has ls 4 [(0, .ref (E.2.2 11 28)), (2, .int y2)] → W p l e (headSpec (Wm yX8_stops cX8_stops 4 (some .int)) ({ frames := 2, cells := 0, slots := 0, locals := 45 } : Room)).room s m ([Value.ref (E.2.2 11 28), Value.int a1] : List Value).toArray below meth c H locs 0 0 (MQ below (QI E r0 M0) ([Value.ref (E.2.2 11 28), Value.int a1] : List Value).toArray s 0 0 (AA E)) (F0 m 37 ls []) := by
    intro M y2 H locs ls h hP hS hl
    unfold f_X8_stops_L37 at h
    refine lv_aload_n hx hb dX8_stops_37 rfl (lv_at hl 0 rfl) ?_
    refine gt_8_0 X wm_90 hP ix_28 dX8_stops_38 ?_
    refine lv_iconst (v := 1) hx hb dX8_stops_41 (by decide) ?_
    refine lv_dup2_11 hx hb dX8_stops_42 rfl rfl ?_
    refine mw_ld X hP ix_29 rfl (v := (M 11 29 1)) (inb_vp (by decide)) rfl dX8_stops_43 ?_
    refine lv_iload_n hx hb dX8_stops_44 rfl (lv_at hl 1 rfl) ?_
    refine lv_isub hx hb dX8_stops_45 ?_
    refine mw_st X hP hS ix_29 (fun _ => rfl) (j := 1) (inb_vp (by decide)) rfl dX8_stops_46 (fun H locs M4 eM4 hP hS => ?_)
    have h := bd_e h eM4
    refine lv_iconst (v := 0) hx hb dX8_stops_47 (by decide) ?_
    refine lv_istore_n (lv' := [(3, .int (0 : Int32)), (0, .ref (E.2.2 11 28)), (2, .int y2)]) hx hb dX8_stops_48 rfl hl (by decide) rfl (fun ls hl => ?_)
    exact w_L49 FU _ _ _ _ _ _ h hP hS (lv_sub hl [1, 2, 0] rfl)
  unfold f_X8_stops at h
  refine lv_aload_n hx hb dX8_stops_0 rfl (lv_at hl 0 rfl) ?_
  obtain ⟨v1, hv1, h⟩ := bO_e h
  refine mw_callVi X (c_X8_last l E hA hv1) pk_X8_last pv_X8_last wm_208 ⟨Nat.le_of_ble_eq_true rfl, Nat.le_of_ble_eq_true rfl⟩ ⟨rfl, rfl⟩ hP hS ix_28 rfl rfl rfl rfl hl.1 (Nat.le_of_ble_eq_true rfl) ⟨Nat.zero_le _, Nat.zero_le _⟩ rfl dX8_stops_1 (fun H locs hP hS => ?_)
  refine lv_aload_n hx hb dX8_stops_4 rfl (lv_at hl 0 rfl) ?_
  refine gt_8_0 X wm_90 hP ix_28 dX8_stops_5 ?_
  refine lv_iconst (v := 2) hx hb dX8_stops_8 (by decide) ?_
  refine mw_ld X hP ix_29 rfl (v := (M 11 29 2)) (inb_vp (by decide)) rfl dX8_stops_9 ?_
  refine lv_isub hx hb dX8_stops_10 ?_
  refine lv_topi (fun x2 ex2 => ?_)
  have h := bd_e h ex2
  refine lv_istore_n (lv' := [(2, .int x2), (0, .ref (E.2.2 11 28)), (1, .int a1)]) hx hb dX8_stops_11 rfl hl (by decide) rfl (fun ls hl => ?_)
  refine lv_iload_n hx hb dX8_stops_12 rfl (lv_at hl 2 rfl) ?_
  refine lv_iconst (v := 1) hx hb dX8_stops_13 (by decide) ?_
  refine lv_icmp_ne (tgt := 37) hx hb dX8_stops_14 (by decide) (fun c3 => ?_) (fun c3 => ?_)
  · have h := br_0 h c3
    exact w_L37 _ _ _ _ _ h hP hS (lv_sub hl [1, 0] rfl)
  · have h := br_1 h c3
    refine lv_aload_n hx hb dX8_stops_17 rfl (lv_at hl 1 rfl) ?_
    obtain ⟨v17, hv17, h⟩ := bO_e h
    refine mw_callVi X (c_X8_isTorn l E hA hv17) pk_X8_isTorn pv_X8_isTorn wm_507 ⟨Nat.le_of_ble_eq_true rfl, Nat.le_of_ble_eq_true rfl⟩ ⟨rfl, rfl⟩ hP hS ix_28 rfl rfl rfl rfl hl.1 (Nat.le_of_ble_eq_true rfl) ⟨Nat.zero_le _, Nat.zero_le _⟩ rfl dX8_stops_18 (fun H locs hP hS => ?_)
    refine lv_if_eq (tgt := 37) hx hb dX8_stops_21 (by decide) (fun c18 => ?_) (fun c18 => ?_)
    · have h := br_1 h c18
      exact w_L37 _ _ _ _ _ h hP hS (lv_sub hl [1, 0] rfl)
    · have h := br_0 h c18
      obtain ⟨x19, ex19⟩ : ∃ y : Int32, y = x2 + (1 : Int32) := ⟨_, rfl⟩
      have h := bd_e h ex19
      refine lv_iinc (v := x19) (lv' := [(2, .int x19), (0, .ref (E.2.2 11 28)), (1, .int a1)]) hx hb dX8_stops_24 hl (k := 0) rfl (by rw [ex19]; rfl) (by decide) rfl (fun ls hl => ?_)
      refine lv_aload_n hx hb dX8_stops_27 rfl (lv_at hl 1 rfl) ?_
      refine gt_8_0 X wm_90 hP ix_28 dX8_stops_28 ?_
      refine lv_iconst (v := 2) hx hb dX8_stops_31 (by decide) ?_
      refine lv_dup2_11 hx hb dX8_stops_32 rfl rfl ?_
      refine mw_ld X hP ix_29 rfl (v := (M 11 29 2)) (inb_vp (by decide)) rfl dX8_stops_33 ?_
      refine lv_iconst (v := 1) hx hb dX8_stops_34 (by decide) ?_
      refine lv_isub hx hb dX8_stops_35 ?_
      refine mw_st X hP hS ix_29 (fun _ => rfl) (j := 2) (inb_vp (by decide)) rfl dX8_stops_36 (fun H locs M20 eM20 hP hS => ?_)
      have h := bd_e h eM20
      exact w_L37 _ _ _ _ _ h hP hS (lv_sub hl [1, 0] rfl)
/-! SealedGroupsModel.stop -/
noncomputable def f_X8_stop  (M : Mem) (a1 : Int32) : Option (Int32 × Mem) :=
bO (f_X8_in M a1 (0 : Int32) (1 : Int32)) (fun v1 =>
(if v1 = 0 then
some ((-1000001 : Int32), M)
else
bO (f_X8_isStopped M) (fun v3 =>
(if v3 = 0 then
bO (f_X8_changes M) (fun M6 =>
bP (f_X8_stops M6 a1) (fun v7 M8 =>
some (v7, M8)))
else
some ((-1000002 : Int32), M)))))
theorem pk_X8_stop : Pk "SealedGroupsModel" yX8_stop cX8_stop 2 (some .int) 1 := ⟨wm_502, wm_5, rfl, by decide +kernel⟩
theorem pv_X8_stop : Cond.instanceMethod yX8_stop ∈ wsL_law ∧ Cond.selects "SealedGroupsModel" yX8_stop yX8_stop ∈ wsL_law := ⟨wm_500, wm_501⟩
set_option maxHeartbeats 4000000 in
set_option maxRecDepth 100000 in
theorem c_X8_stop (l : Launch) (E : En) (hA : AdOK E) {M : Mem} {a1 : Int32} {r0 : Int32} {M0 : Mem}  (h : f_X8_stop M a1 = some (r0, M0)) : Met l yX8_stop (Wm yX8_stop cX8_stop 2 (some .int)) ({ frames := 3, cells := 0, slots := 0, locals := 68 } : Room) (va_Pc [Value.ref (E.2.2 11 28), Value.int a1] (Wd E M)) (QI E r0 M0) 0 0 (AA E) := by
  refine Met.ofW (cc := cX8_stop) (maxL := 2) (ret := (some .int)) (by decide +kernel) rfl ?_
  intro p e s m args below meth c s₁ B hml hv
  obtain ⟨rfl, hP, hK⟩ := hv
  have X : Cx E (AA E) p s m c _ cX8_stop 2 RX8 := ⟨⟨B.exec, B.bytes, hml, findClass_of_methodNamed B.named, fun w hw => atoms_spec (ws := Wm yX8_stop cX8_stop 2 (some .int)) B.pre w (List.mem_cons_of_mem _ hw)⟩, hK, hA, fun _ h => h⟩
  have hx := B.exec
  have hb := B.bytes
  have hr := B.returns
  have hlocks := B.notSynchronized
  clear B hml
  have hS : va_S (AA E) s.heap s.heap [] := va_S.rf
  have hl := lv_entry ([Value.ref (E.2.2 11 28), Value.int a1]) (n := 2) (Nat.le_of_ble_eq_true rfl)
  rw [lg_entry_eq]
  generalize (lg_sl ([Value.ref (E.2.2 11 28), Value.int a1]) ++ List.replicate (2 - (lg_sl ([Value.ref (E.2.2 11 28), Value.int a1])).length) Slot.unset).toArray = ls at hl ⊢
  have hl : lv_has ls 2 [(0, .ref (E.2.2 11 28)), (1, .int a1)] := hl
  unfold f_X8_stop at h
  refine lv_iload_n hx hb dX8_stop_0 rfl (lv_at hl 1 rfl) ?_
  refine lv_iconst (v := 0) hx hb dX8_stop_1 (by decide) ?_
  refine lv_iconst (v := 1) hx hb dX8_stop_2 (by decide) ?_
  obtain ⟨v1, hv1, h⟩ := bO_e h
  refine mw_callSi X (c_X8_in l E hA hv1) pk_X8_in wm_184 wm_183 ⟨Nat.le_of_ble_eq_true rfl, Nat.le_of_ble_eq_true rfl⟩ ⟨rfl, rfl⟩ hP hS rfl hl.1 (Nat.le_of_ble_eq_true rfl) ⟨Nat.zero_le _, Nat.zero_le _⟩ rfl dX8_stop_3 (fun H locs hP hS => ?_)
  refine lv_if_ne (tgt := 12) hx hb dX8_stop_6 (by decide) (fun c2 => ?_) (fun c2 => ?_)
  · have h := br_0 h c2
    refine lv_aload_n hx hb dX8_stop_12 rfl (lv_at hl 0 rfl) ?_
    obtain ⟨v3, hv3, h⟩ := bO_e h
    refine mw_callVi X (c_X8_isStopped l E hA hv3) pk_X8_isStopped pv_X8_isStopped wm_186 ⟨Nat.le_of_ble_eq_true rfl, Nat.le_of_ble_eq_true rfl⟩ ⟨rfl, rfl⟩ hP hS ix_28 rfl rfl rfl rfl hl.1 (Nat.le_of_ble_eq_true rfl) ⟨Nat.zero_le _, Nat.zero_le _⟩ rfl dX8_stop_13 (fun H locs hP hS => ?_)
    refine lv_if_eq (tgt := 22) hx hb dX8_stop_16 (by decide) (fun c4 => ?_) (fun c4 => ?_)
    · have h := br_1 h c4
      refine lv_aload_n hx hb dX8_stop_22 rfl (lv_at hl 0 rfl) ?_
      obtain ⟨M6, hv5, h⟩ := bO_e h
      refine mw_callVv X (c_X8_changes l E hA hv5) pk_X8_changes pv_X8_changes wm_198 ⟨Nat.le_of_ble_eq_true rfl, Nat.le_of_ble_eq_true rfl⟩ ⟨rfl, rfl⟩ hP hS ix_28 rfl rfl rfl rfl hl.1 (Nat.le_of_ble_eq_true rfl) ⟨Nat.zero_le _, Nat.zero_le _⟩ rfl dX8_stop_23 (fun H locs hP hS => ?_)
      refine lv_aload_n hx hb dX8_stop_26 rfl (lv_at hl 0 rfl) ?_
      refine lv_iload_n hx hb dX8_stop_27 rfl (lv_at hl 1 rfl) ?_
      obtain ⟨v7, M8, hv7, h⟩ := bP_e h
      refine mw_callVi X (c_X8_stops l E hA hv7) pk_X8_stops pv_X8_stops wm_503 ⟨Nat.le_of_ble_eq_true rfl, Nat.le_of_ble_eq_true rfl⟩ ⟨rfl, rfl⟩ hP hS ix_28 rfl rfl rfl rfl hl.1 (Nat.le_of_ble_eq_true rfl) ⟨Nat.zero_le _, Nat.zero_le _⟩ rfl dX8_stop_28 (fun H locs hP hS => ?_)
      have h := Option.some.inj h
      exact mw_iret X hr hlocks hP hS (congrArg Prod.fst h) (congrArg Prod.snd h) dX8_stop_31
    · have h := br_0 h c4
      refine lv_ldc hx hb X.1.2.2.2.1 (X.1.2.2.2.2 _ wm_180) dX8_stop_19 ?_
      have h := Option.some.inj h
      exact mw_iret X hr hlocks hP hS (congrArg Prod.fst h) (congrArg Prod.snd h) dX8_stop_21
  · have h := br_1 h c2
    refine lv_ldc hx hb X.1.2.2.2.1 (X.1.2.2.2.2 _ wm_179) dX8_stop_9 ?_
    have h := Option.some.inj h
    exact mw_iret X hr hlocks hP hS (congrArg Prod.fst h) (congrArg Prod.snd h) dX8_stop_11
/-! SealedGroupsModel.looks -/
noncomputable def f_X8_looks_L194  (K78 : Mem → Int32 → Option Mem) (M : Mem) (y2 : Int32) : Option Mem :=
bd (y2 + (1 : Int32)) (fun x14 =>
K78 M x14)
noncomputable def f_X8_looks_L127  (K78 : Mem → Int32 → Option Mem) (M : Mem) (y2 : Int32) : Option Mem :=
bO (f_X8_of M y2 (1 : Int32)) (fun v12 =>
bd (st M 11 28 9 ((M 11 28 9) &&& (((1 : Int32) <<< (v12 &&& 31)) ^^^ (-1 : Int32)))) (fun M13 =>
f_X8_looks_L194 K78 M13 y2))
noncomputable def f_X8_looks_L193  (K78 : Mem → Int32 → Option Mem) (M : Mem) (y2 z0 z1 : Int32) : Option Mem :=
gd (inb z1 8) (
bd (st M 11 34 (z1).toNatClampNeg z0) (fun M23 =>
f_X8_looks_L194 K78 M23 y2))
noncomputable def f_X8_looks_L78  (K78 : Mem → Int32 → Option Mem) (M : Mem) (y2 : Int32) : Option Mem :=
bO (f_X8_last M) (fun v7 =>
(if v7 < y2 then
some M
else
bO (f_X8_of M y2 (0 : Int32)) (fun v9 =>
(if v9 = 0 then
bO (f_X8_of M y2 (1 : Int32)) (fun v25 =>
bd (st M 11 28 9 ((M 11 28 9) ||| ((1 : Int32) <<< (v25 &&& 31)))) (fun M26 =>
f_X8_looks_L194 K78 M26 y2))
else
(if v9 = (2 : Int32) then
f_X8_looks_L127 K78 M y2
else
(if v9 = (4 : Int32) then
f_X8_looks_L127 K78 M y2
else
(if v9 = (5 : Int32) then
f_X8_looks_L194 K78 M y2
else
bO (f_X8_of M y2 (2 : Int32)) (fun v17 =>
bO (f_X8_of M y2 (2 : Int32)) (fun v18 =>
gd (inb v18 8) (
(if (M 11 34 (v18).toNatClampNeg) = 0 then
f_X8_looks_L193 K78 M y2 y2 v17
else
bO (f_X8_of M y2 (2 : Int32)) (fun v21 =>
gd (inb v21 8) (
f_X8_looks_L193 K78 M y2 (M 11 34 (v21).toNatClampNeg) v17)))))))))))))
noncomputable def f_X8_looks_L77  (M : Mem) (z0 : Int32) : Option Mem :=
itr (f_X8_looks_L78 ) (fun _ _ => none) FU M z0
noncomputable def f_X8_looks_L54  (K26 : Mem → Int32 → Int32 → Option Mem) (M : Mem) (y1 y2 z0 z1 : Int32) : Option Mem :=
gd (inb z1 8) (
bd (st M 11 34 (z1).toNatClampNeg z0) (fun M29 =>
bd (y2 + (1 : Int32)) (fun x31 =>
K26 M29 y1 x31)))
noncomputable def f_X8_looks_L26  (K26 : Mem → Int32 → Int32 → Option Mem) (M : Mem) (y1 y2 : Int32) : Option Mem :=
(if (8 : Int32) ≤ y2 then
(if y1 = 0 then
f_X8_looks_L77 M (M 11 29 0)
else
f_X8_looks_L77 M (y1 + (1 : Int32)))
else
(if y1 = 0 then
f_X8_looks_L54 K26 M y1 y2 (0 : Int32) y2
else
bO (f_X8_of M y1 ((8 : Int32) + y2)) (fun v28 =>
f_X8_looks_L54 K26 M y1 y2 v28 y2)))
noncomputable def f_X8_looks_L21  (M : Mem) (y1 z0 : Int32) : Option Mem :=
bd (st M 11 28 9 z0) (fun M4 =>
itr (f_X8_looks_L26 ) (fun _ _ _ => none) FU M4 y1 (0 : Int32))
noncomputable def f_X8_looks  (M : Mem) : Option Mem :=
bO (f_X8_latest M) (fun v1 =>
(if v1 = 0 then
f_X8_looks_L21 M v1 (0 : Int32)
else
bO (f_X8_of M v1 (6 : Int32)) (fun v3 =>
f_X8_looks_L21 M v1 v3)))
theorem pk_X8_looks : Pk "SealedGroupsModel" yX8_looks cX8_looks 4 none 0 := ⟨wm_582, wm_5, rfl, by decide +kernel⟩
theorem pv_X8_looks : Cond.instanceMethod yX8_looks ∈ wsL_law ∧ Cond.selects "SealedGroupsModel" yX8_looks yX8_looks ∈ wsL_law := ⟨wm_580, wm_581⟩
set_option maxHeartbeats 4000000 in
set_option maxRecDepth 100000 in
theorem c_X8_looks (l : Launch) (E : En) (hA : AdOK E) {M : Mem} {M0 : Mem}  (h : f_X8_looks M = some M0) : Met l yX8_looks (Wm yX8_looks cX8_looks 4 none) ({ frames := 2, cells := 0, slots := 0, locals := 44 } : Room) (va_Pc [Value.ref (E.2.2 11 28)] (Wd E M)) (QV E M0) 0 0 (AA E) := by
  refine Met.ofW (cc := cX8_looks) (maxL := 4) (ret := none) (by decide +kernel) rfl ?_
  intro p e s m args below meth c s₁ B hml hv
  obtain ⟨rfl, hP, hK⟩ := hv
  have X : Cx E (AA E) p s m c _ cX8_looks 4 RX8 := ⟨⟨B.exec, B.bytes, hml, findClass_of_methodNamed B.named, fun w hw => atoms_spec (ws := Wm yX8_looks cX8_looks 4 none) B.pre w (List.mem_cons_of_mem _ hw)⟩, hK, hA, fun _ h => h⟩
  have hx := B.exec
  have hb := B.bytes
  have hr := B.returns
  have hlocks := B.notSynchronized
  clear B hml
  have hS : va_S (AA E) s.heap s.heap [] := va_S.rf
  have hl := lv_entry ([Value.ref (E.2.2 11 28)]) (n := 4) (Nat.le_of_ble_eq_true rfl)
  rw [lg_entry_eq]
  generalize (lg_sl ([Value.ref (E.2.2 11 28)]) ++ List.replicate (4 - (lg_sl ([Value.ref (E.2.2 11 28)])).length) Slot.unset).toArray = ls at hl ⊢
  have hl : lv_has ls 4 [(0, .ref (E.2.2 11 28))] := hl
  have w_L78 : ∀ (n78 : Nat) (M : Mem) (y2 : Int32) (H : Heap) (locs : List Loc) (ls : Array Slot), itr (f_X8_looks_L78 ) (fun _ _ => none) n78 M y2 = some M0 → va_P E.1 vwCl (wl E M) H → va_S (AA E) s.heap H locs → lv_has ls 4 [(0, .ref (E.2.2 11 28)), (2, .int y2)] → W p l e (headSpec (Wm yX8_looks cX8_looks 4 none) ({ frames := 2, cells := 0, slots := 0, locals := 44 } : Room)).room s m ([Value.ref (E.2.2 11 28)] : List Value).toArray below meth c H locs 0 0 (MQ below (QV E M0) ([Value.ref (E.2.2 11 28)] : List Value).toArray s 0 0 (AA E)) (F0 m 78 ls []) := by
    intro n78
    induction n78 with
    | zero => intro M y2 H locs ls h; exact (nomatch (show (none : Option Mem) = some _ from h))
    | succ n78 ih78 =>
      intro M y2 H locs ls h hP hS hl
      have h : f_X8_looks_L78 (itr (f_X8_looks_L78 ) (fun _ _ => none) n78) M y2 = some M0 := h
      have w_L194 : ∀ (M : Mem) (y2 : Int32) (H : Heap) (locs : List Loc) (ls : Array Slot), f_X8_looks_L194 (itr (f_X8_looks_L78 ) (fun _ _ => none) n78) M y2 = some M0 → va_P E.1 vwCl (wl E M) H → va_S (AA E) s.heap H locs → lv_has ls 4 [(0, .ref (E.2.2 11 28)), (2, .int y2)] → W p l e (headSpec (Wm yX8_looks cX8_looks 4 none) ({ frames := 2, cells := 0, slots := 0, locals := 44 } : Room)).room s m ([Value.ref (E.2.2 11 28)] : List Value).toArray below meth c H locs 0 0 (MQ below (QV E M0) ([Value.ref (E.2.2 11 28)] : List Value).toArray s 0 0 (AA E)) (F0 m 194 ls []) := by
        intro M y2 H locs ls h hP hS hl
        unfold f_X8_looks_L194 at h
        obtain ⟨x14, ex14⟩ : ∃ y : Int32, y = y2 + (1 : Int32) := ⟨_, rfl⟩
        have h := bd_e h ex14
        refine lv_iinc (v := x14) (lv' := [(2, .int x14), (0, .ref (E.2.2 11 28))]) hx hb dX8_looks_194 hl (k := 1) rfl (by rw [ex14]; rfl) (by decide) rfl (fun ls hl => ?_)
        refine lv_goto (tgt := 78) hx hb dX8_looks_197 (by decide) ?_
        exact ih78 _ _ _ _ _ h hP hS (lv_sub hl [1, 0] rfl)
      have w_L127 : ∀ (M : Mem) (y2 : Int32) (H : Heap) (locs : List Loc) (ls : Array Slot), f_X8_looks_L127 (itr (f_X8_looks_L78 ) (fun _ _ => none) n78) M y2 = some M0 → va_P E.1 vwCl (wl E M) H → va_S (AA E) s.heap H locs → lv_has ls 4 [(0, .ref (E.2.2 11 28)), (2, .int y2)] → W p l e (headSpec (Wm yX8_looks cX8_looks 4 none) ({ frames := 2, cells := 0, slots := 0, locals := 44 } : Room)).room s m ([Value.ref (E.2.2 11 28)] : List Value).toArray below meth c H locs 0 0 (MQ below (QV E M0) ([Value.ref (E.2.2 11 28)] : List Value).toArray s 0 0 (AA E)) (F0 m 127 ls []) := by
        intro M y2 H locs ls h hP hS hl
        unfold f_X8_looks_L127 at h
        refine lv_aload_n hx hb dX8_looks_127 rfl (lv_at hl 0 rfl) ?_
        refine lv_dup hx hb dX8_looks_128 rfl ?_
        refine gt_8_9 X wm_577 hP ix_28 dX8_looks_129 ?_
        refine lv_iconst (v := 1) hx hb dX8_looks_132 (by decide) ?_
        refine lv_aload_n hx hb dX8_looks_133 rfl (lv_at hl 0 rfl) ?_
        refine lv_iload_n hx hb dX8_looks_134 rfl (lv_at hl 1 rfl) ?_
        refine lv_iconst (v := 1) hx hb dX8_looks_135 (by decide) ?_
        obtain ⟨v12, hv12, h⟩ := bO_e h
        refine mw_callVi X (c_X8_of l E hA hv12) pk_X8_of pv_X8_of wm_363 ⟨Nat.le_of_ble_eq_true rfl, Nat.le_of_ble_eq_true rfl⟩ ⟨rfl, rfl⟩ hP hS ix_28 rfl rfl rfl rfl hl.1 (Nat.le_of_ble_eq_true rfl) ⟨Nat.zero_le _, Nat.zero_le _⟩ rfl dX8_looks_136 (fun H locs hP hS => ?_)
        refine lv_ishl hx hb dX8_looks_139 ?_
        refine lv_iconst (v := -1) hx hb dX8_looks_140 (by decide) ?_
        refine lv_ixor hx hb dX8_looks_141 ?_
        refine lv_iand hx hb dX8_looks_142 ?_
        refine pt_8_9 X wm_577 hP hS ix_28 dX8_looks_143 (fun H locs M13 eM13 hP hS => ?_)
        have h := bd_e h eM13
        refine lv_goto (tgt := 194) hx hb dX8_looks_146 (by decide) ?_
        exact w_L194 _ _ _ _ _ h hP hS (lv_sub hl [0, 1] rfl)
      have w_L193 : ∀ (M : Mem) (y2 z0 z1 : Int32) (H : Heap) (locs : List Loc) (ls : Array Slot), f_X8_looks_L193 (itr (f_X8_looks_L78 ) (fun _ _ => none) n78) M y2 z0 z1 = some M0 → va_P E.1 vwCl (wl E M) H → va_S (AA E) s.heap H locs → lv_has ls 4 [(0, .ref (E.2.2 11 28)), (2, .int y2)] → W p l e (headSpec (Wm yX8_looks cX8_looks 4 none) ({ frames := 2, cells := 0, slots := 0, locals := 44 } : Room)).room s m ([Value.ref (E.2.2 11 28)] : List Value).toArray below meth c H locs 0 0 (MQ below (QV E M0) ([Value.ref (E.2.2 11 28)] : List Value).toArray s 0 0 (AA E)) (F0 m 193 ls [.int z0, .int z1, .ref (E.2.2 11 34)]) := by
        intro M y2 z0 z1 H locs ls h hP hS hl
        unfold f_X8_looks_L193 at h
        obtain ⟨g24, h⟩ := gd_e h
        refine mw_st X hP hS ix_34 (fun _ => rfl) (inb_vp g24) rfl dX8_looks_193 (fun H locs M23 eM23 hP hS => ?_)
        have h := bd_e h eM23
        exact w_L194 _ _ _ _ _ h hP hS (lv_sub hl [0, 1] rfl)
      unfold f_X8_looks_L78 at h
      refine lv_iload_n hx hb dX8_looks_78 rfl (lv_at hl 1 rfl) ?_
      refine lv_aload_n hx hb dX8_looks_79 rfl (lv_at hl 0 rfl) ?_
      obtain ⟨v7, hv7, h⟩ := bO_e h
      refine mw_callVi X (c_X8_last l E hA hv7) pk_X8_last pv_X8_last wm_208 ⟨Nat.le_of_ble_eq_true rfl, Nat.le_of_ble_eq_true rfl⟩ ⟨rfl, rfl⟩ hP hS ix_28 rfl rfl rfl rfl hl.1 (Nat.le_of_ble_eq_true rfl) ⟨Nat.zero_le _, Nat.zero_le _⟩ rfl dX8_looks_80 (fun H locs hP hS => ?_)
      refine lv_icmp_gt (tgt := 200) hx hb dX8_looks_83 (by decide) (fun c8 => ?_) (fun c8 => ?_)
      · have h := br_1 h c8
        exact mw_vret X hr hlocks hP hS (Option.some.inj h) dX8_looks_200
      · have h := br_0 h c8
        refine lv_aload_n hx hb dX8_looks_86 rfl (lv_at hl 0 rfl) ?_
        refine lv_iload_n hx hb dX8_looks_87 rfl (lv_at hl 1 rfl) ?_
        refine lv_iconst (v := 0) hx hb dX8_looks_88 (by decide) ?_
        obtain ⟨v9, hv9, h⟩ := bO_e h
        refine mw_callVi X (c_X8_of l E hA hv9) pk_X8_of pv_X8_of wm_363 ⟨Nat.le_of_ble_eq_true rfl, Nat.le_of_ble_eq_true rfl⟩ ⟨rfl, rfl⟩ hP hS ix_28 rfl rfl rfl rfl hl.1 (Nat.le_of_ble_eq_true rfl) ⟨Nat.zero_le _, Nat.zero_le _⟩ rfl dX8_looks_89 (fun H locs hP hS => ?_)
        refine lv_istore_n (lv' := [(3, .int v9), (0, .ref (E.2.2 11 28)), (2, .int y2)]) hx hb dX8_looks_92 rfl hl (by decide) rfl (fun ls hl => ?_)
        refine lv_iload_n hx hb dX8_looks_93 rfl (lv_at hl 0 rfl) ?_
        refine lv_if_ne (tgt := 117) hx hb dX8_looks_94 (by decide) (fun c10 => ?_) (fun c10 => ?_)
        · have h := br_0 h c10
          refine lv_iload_n hx hb dX8_looks_117 rfl (lv_at hl 0 rfl) ?_
          refine lv_iconst (v := 2) hx hb dX8_looks_118 (by decide) ?_
          refine lv_icmp_eq (tgt := 127) hx hb dX8_looks_119 (by decide) (fun c11 => ?_) (fun c11 => ?_)
          · have h := br_1 h c11
            exact w_L127 _ _ _ _ _ h hP hS (lv_sub hl [1, 2] rfl)
          · have h := br_0 h c11
            refine lv_iload_n hx hb dX8_looks_122 rfl (lv_at hl 0 rfl) ?_
            refine lv_iconst (v := 4) hx hb dX8_looks_123 (by decide) ?_
            refine lv_icmp_ne (tgt := 149) hx hb dX8_looks_124 (by decide) (fun c15 => ?_) (fun c15 => ?_)
            · have h := br_0 h c15
              refine lv_iload_n hx hb dX8_looks_149 rfl (lv_at hl 0 rfl) ?_
              refine lv_iconst (v := 5) hx hb dX8_looks_150 (by decide) ?_
              refine lv_icmp_eq (tgt := 194) hx hb dX8_looks_151 (by decide) (fun c16 => ?_) (fun c16 => ?_)
              · have h := br_1 h c16
                exact w_L194 _ _ _ _ _ h hP hS (lv_sub hl [1, 2] rfl)
              · have h := br_0 h c16
                refine lv_aload_n hx hb dX8_looks_154 rfl (lv_at hl 1 rfl) ?_
                refine gt_8_8 X wm_95 hP ix_28 dX8_looks_155 ?_
                refine lv_aload_n hx hb dX8_looks_158 rfl (lv_at hl 1 rfl) ?_
                refine lv_iload_n hx hb dX8_looks_159 rfl (lv_at hl 2 rfl) ?_
                refine lv_iconst (v := 2) hx hb dX8_looks_160 (by decide) ?_
                obtain ⟨v17, hv17, h⟩ := bO_e h
                refine mw_callVi X (c_X8_of l E hA hv17) pk_X8_of pv_X8_of wm_363 ⟨Nat.le_of_ble_eq_true rfl, Nat.le_of_ble_eq_true rfl⟩ ⟨rfl, rfl⟩ hP hS ix_28 rfl rfl rfl rfl hl.1 (Nat.le_of_ble_eq_true rfl) ⟨Nat.zero_le _, Nat.zero_le _⟩ rfl dX8_looks_161 (fun H locs hP hS => ?_)
                refine lv_aload_n hx hb dX8_looks_164 rfl (lv_at hl 1 rfl) ?_
                refine gt_8_8 X wm_95 hP ix_28 dX8_looks_165 ?_
                refine lv_aload_n hx hb dX8_looks_168 rfl (lv_at hl 1 rfl) ?_
                refine lv_iload_n hx hb dX8_looks_169 rfl (lv_at hl 2 rfl) ?_
                refine lv_iconst (v := 2) hx hb dX8_looks_170 (by decide) ?_
                obtain ⟨v18, hv18, h⟩ := bO_e h
                refine mw_callVi X (c_X8_of l E hA hv18) pk_X8_of pv_X8_of wm_363 ⟨Nat.le_of_ble_eq_true rfl, Nat.le_of_ble_eq_true rfl⟩ ⟨rfl, rfl⟩ hP hS ix_28 rfl rfl rfl rfl hl.1 (Nat.le_of_ble_eq_true rfl) ⟨Nat.zero_le _, Nat.zero_le _⟩ rfl dX8_looks_171 (fun H locs hP hS => ?_)
                obtain ⟨g19, h⟩ := gd_e h
                refine mw_ld X hP ix_34 rfl (inb_vp g19) rfl dX8_looks_174 ?_
                refine lv_if_ne (tgt := 182) hx hb dX8_looks_175 (by decide) (fun c20 => ?_) (fun c20 => ?_)
                · have h := br_0 h c20
                  refine lv_aload_n hx hb dX8_looks_182 rfl (lv_at hl 1 rfl) ?_
                  refine gt_8_8 X wm_95 hP ix_28 dX8_looks_183 ?_
                  refine lv_aload_n hx hb dX8_looks_186 rfl (lv_at hl 1 rfl) ?_
                  refine lv_iload_n hx hb dX8_looks_187 rfl (lv_at hl 2 rfl) ?_
                  refine lv_iconst (v := 2) hx hb dX8_looks_188 (by decide) ?_
                  obtain ⟨v21, hv21, h⟩ := bO_e h
                  refine mw_callVi X (c_X8_of l E hA hv21) pk_X8_of pv_X8_of wm_363 ⟨Nat.le_of_ble_eq_true rfl, Nat.le_of_ble_eq_true rfl⟩ ⟨rfl, rfl⟩ hP hS ix_28 rfl rfl rfl rfl hl.1 (Nat.le_of_ble_eq_true rfl) ⟨Nat.zero_le _, Nat.zero_le _⟩ rfl dX8_looks_189 (fun H locs hP hS => ?_)
                  obtain ⟨g22, h⟩ := gd_e h
                  refine mw_ld X hP ix_34 rfl (inb_vp g22) rfl dX8_looks_192 ?_
                  exact w_L193 _ _ _ _ _ _ _ h hP hS (lv_sub hl [1, 2] rfl)
                · have h := br_1 h c20
                  refine lv_iload_n hx hb dX8_looks_178 rfl (lv_at hl 2 rfl) ?_
                  refine lv_goto (tgt := 193) hx hb dX8_looks_179 (by decide) ?_
                  exact w_L193 _ _ _ _ _ _ _ h hP hS (lv_sub hl [1, 2] rfl)
            · have h := br_1 h c15
              exact w_L127 _ _ _ _ _ h hP hS (lv_sub hl [1, 2] rfl)
        · have h := br_1 h c10
          refine lv_aload_n hx hb dX8_looks_97 rfl (lv_at hl 1 rfl) ?_
          refine lv_dup hx hb dX8_looks_98 rfl ?_
          refine gt_8_9 X wm_577 hP ix_28 dX8_looks_99 ?_
          refine lv_iconst (v := 1) hx hb dX8_looks_102 (by decide) ?_
          refine lv_aload_n hx hb dX8_looks_103 rfl (lv_at hl 1 rfl) ?_
          refine lv_iload_n hx hb dX8_looks_104 rfl (lv_at hl 2 rfl) ?_
          refine lv_iconst (v := 1) hx hb dX8_looks_105 (by decide) ?_
          obtain ⟨v25, hv25, h⟩ := bO_e h
          refine mw_callVi X (c_X8_of l E hA hv25) pk_X8_of pv_X8_of wm_363 ⟨Nat.le_of_ble_eq_true rfl, Nat.le_of_ble_eq_true rfl⟩ ⟨rfl, rfl⟩ hP hS ix_28 rfl rfl rfl rfl hl.1 (Nat.le_of_ble_eq_true rfl) ⟨Nat.zero_le _, Nat.zero_le _⟩ rfl dX8_looks_106 (fun H locs hP hS => ?_)
          refine lv_ishl hx hb dX8_looks_109 ?_
          refine lv_ior hx hb dX8_looks_110 ?_
          refine pt_8_9 X wm_577 hP hS ix_28 dX8_looks_111 (fun H locs M26 eM26 hP hS => ?_)
          have h := bd_e h eM26
          refine lv_goto (tgt := 194) hx hb dX8_looks_114 (by decide) ?_
          exact w_L194 _ _ _ _ _ h hP hS (lv_sub hl [1, 2] rfl)
  have w_L77 : ∀ (M : Mem) (z0 : Int32) (H : Heap) (locs : List Loc) (ls : Array Slot), f_X8_looks_L77  M z0 = some M0 → va_P E.1 vwCl (wl E M) H → va_S (AA E) s.heap H locs → lv_has ls 4 [(0, .ref (E.2.2 11 28))] → W p l e (headSpec (Wm yX8_looks cX8_looks 4 none) ({ frames := 2, cells := 0, slots := 0, locals := 44 } : Room)).room s m ([Value.ref (E.2.2 11 28)] : List Value).toArray below meth c H locs 0 0 (MQ below (QV E M0) ([Value.ref (E.2.2 11 28)] : List Value).toArray s 0 0 (AA E)) (F0 m 77 ls [.int z0]) := by
    intro M z0 H locs ls h hP hS hl
    unfold f_X8_looks_L77 at h
    refine lv_istore_n (lv' := [(2, .int z0), (0, .ref (E.2.2 11 28))]) hx hb dX8_looks_77 rfl hl (by decide) rfl (fun ls hl => ?_)
    exact w_L78 FU _ _ _ _ _ h hP hS (lv_sub hl [1, 0] rfl)
  have w_L26 : ∀ (n26 : Nat) (M : Mem) (y1 y2 : Int32) (H : Heap) (locs : List Loc) (ls : Array Slot), itr (f_X8_looks_L26 ) (fun _ _ _ => none) n26 M y1 y2 = some M0 → va_P E.1 vwCl (wl E M) H → va_S (AA E) s.heap H locs → lv_has ls 4 [(0, .ref (E.2.2 11 28)), (1, .int y1), (2, .int y2)] → W p l e (headSpec (Wm yX8_looks cX8_looks 4 none) ({ frames := 2, cells := 0, slots := 0, locals := 44 } : Room)).room s m ([Value.ref (E.2.2 11 28)] : List Value).toArray below meth c H locs 0 0 (MQ below (QV E M0) ([Value.ref (E.2.2 11 28)] : List Value).toArray s 0 0 (AA E)) (F0 m 26 ls []) := by
    intro n26
    induction n26 with
    | zero => intro M y1 y2 H locs ls h; exact (nomatch (show (none : Option Mem) = some _ from h))
    | succ n26 ih26 =>
      intro M y1 y2 H locs ls h hP hS hl
      have h : f_X8_looks_L26 (itr (f_X8_looks_L26 ) (fun _ _ _ => none) n26) M y1 y2 = some M0 := h
      have w_L54 : ∀ (M : Mem) (y1 y2 z0 z1 : Int32) (H : Heap) (locs : List Loc) (ls : Array Slot), f_X8_looks_L54 (itr (f_X8_looks_L26 ) (fun _ _ _ => none) n26) M y1 y2 z0 z1 = some M0 → va_P E.1 vwCl (wl E M) H → va_S (AA E) s.heap H locs → lv_has ls 4 [(0, .ref (E.2.2 11 28)), (1, .int y1), (2, .int y2)] → W p l e (headSpec (Wm yX8_looks cX8_looks 4 none) ({ frames := 2, cells := 0, slots := 0, locals := 44 } : Room)).room s m ([Value.ref (E.2.2 11 28)] : List Value).toArray below meth c H locs 0 0 (MQ below (QV E M0) ([Value.ref (E.2.2 11 28)] : List Value).toArray s 0 0 (AA E)) (F0 m 54 ls [.int z0, .int z1, .ref (E.2.2 11 34)]) := by
        intro M y1 y2 z0 z1 H locs ls h hP hS hl
        unfold f_X8_looks_L54 at h
        obtain ⟨g30, h⟩ := gd_e h
        refine mw_st X hP hS ix_34 (fun _ => rfl) (inb_vp g30) rfl dX8_looks_54 (fun H locs M29 eM29 hP hS => ?_)
        have h := bd_e h eM29
        obtain ⟨x31, ex31⟩ : ∃ y : Int32, y = y2 + (1 : Int32) := ⟨_, rfl⟩
        have h := bd_e h ex31
        refine lv_iinc (v := x31) (lv' := [(2, .int x31), (0, .ref (E.2.2 11 28)), (1, .int y1)]) hx hb dX8_looks_55 hl (k := 2) rfl (by rw [ex31]; rfl) (by decide) rfl (fun ls hl => ?_)
        refine lv_goto (tgt := 26) hx hb dX8_looks_58 (by decide) ?_
        exact ih26 _ _ _ _ _ _ h hP hS (lv_sub hl [1, 2, 0] rfl)
      unfold f_X8_looks_L26 at h
      refine lv_iload_n hx hb dX8_looks_26 rfl (lv_at hl 2 rfl) ?_
      refine lv_bipush (v := 8) hx hb dX8_looks_27 (by decide) ?_
      refine lv_icmp_ge (tgt := 61) hx hb dX8_looks_29 (by decide) (fun c5 => ?_) (fun c5 => ?_)
      · have h := br_1 h c5
        refine lv_iload_n hx hb dX8_looks_61 rfl (lv_at hl 1 rfl) ?_
        refine lv_if_ne (tgt := 74) hx hb dX8_looks_62 (by decide) (fun c6 => ?_) (fun c6 => ?_)
        · have h := br_0 h c6
          refine lv_iload_n hx hb dX8_looks_74 rfl (lv_at hl 1 rfl) ?_
          refine lv_iconst (v := 1) hx hb dX8_looks_75 (by decide) ?_
          refine lv_iadd hx hb dX8_looks_76 ?_
          exact w_L77 _ _ _ _ _ h hP hS (lv_sub hl [0] rfl)
        · have h := br_1 h c6
          refine lv_aload_n hx hb dX8_looks_65 rfl (lv_at hl 0 rfl) ?_
          refine gt_8_0 X wm_90 hP ix_28 dX8_looks_66 ?_
          refine lv_iconst (v := 0) hx hb dX8_looks_69 (by decide) ?_
          refine mw_ld X hP ix_29 rfl (v := (M 11 29 0)) (inb_vp (by decide)) rfl dX8_looks_70 ?_
          refine lv_goto (tgt := 77) hx hb dX8_looks_71 (by decide) ?_
          exact w_L77 _ _ _ _ _ h hP hS (lv_sub hl [0] rfl)
      · have h := br_0 h c5
        refine lv_aload_n hx hb dX8_looks_32 rfl (lv_at hl 0 rfl) ?_
        refine gt_8_8 X wm_95 hP ix_28 dX8_looks_33 ?_
        refine lv_iload_n hx hb dX8_looks_36 rfl (lv_at hl 2 rfl) ?_
        refine lv_iload_n hx hb dX8_looks_37 rfl (lv_at hl 1 rfl) ?_
        refine lv_if_ne (tgt := 45) hx hb dX8_looks_38 (by decide) (fun c27 => ?_) (fun c27 => ?_)
        · have h := br_0 h c27
          refine lv_aload_n hx hb dX8_looks_45 rfl (lv_at hl 0 rfl) ?_
          refine lv_iload_n hx hb dX8_looks_46 rfl (lv_at hl 1 rfl) ?_
          refine lv_bipush (v := 8) hx hb dX8_looks_47 (by decide) ?_
          refine lv_iload_n hx hb dX8_looks_49 rfl (lv_at hl 2 rfl) ?_
          refine lv_iadd hx hb dX8_looks_50 ?_
          obtain ⟨v28, hv28, h⟩ := bO_e h
          refine mw_callVi X (c_X8_of l E hA hv28) pk_X8_of pv_X8_of wm_363 ⟨Nat.le_of_ble_eq_true rfl, Nat.le_of_ble_eq_true rfl⟩ ⟨rfl, rfl⟩ hP hS ix_28 rfl rfl rfl rfl hl.1 (Nat.le_of_ble_eq_true rfl) ⟨Nat.zero_le _, Nat.zero_le _⟩ rfl dX8_looks_51 (fun H locs hP hS => ?_)
          exact w_L54 _ _ _ _ _ _ _ _ h hP hS (lv_sub hl [0, 1, 2] rfl)
        · have h := br_1 h c27
          refine lv_iconst (v := 0) hx hb dX8_looks_41 (by decide) ?_
          refine lv_goto (tgt := 54) hx hb dX8_looks_42 (by decide) ?_
          exact w_L54 _ _ _ _ _ _ _ _ h hP hS (lv_sub hl [0, 1, 2] rfl)
  have w_L21 : ∀ (M : Mem) (y1 z0 : Int32) (H : Heap) (locs : List Loc) (ls : Array Slot), f_X8_looks_L21  M y1 z0 = some M0 → va_P E.1 vwCl (wl E M) H → va_S (AA E) s.heap H locs → lv_has ls 4 [(0, .ref (E.2.2 11 28)), (1, .int y1)] → W p l e (headSpec (Wm yX8_looks cX8_looks 4 none) ({ frames := 2, cells := 0, slots := 0, locals := 44 } : Room)).room s m ([Value.ref (E.2.2 11 28)] : List Value).toArray below meth c H locs 0 0 (MQ below (QV E M0) ([Value.ref (E.2.2 11 28)] : List Value).toArray s 0 0 (AA E)) (F0 m 21 ls [.int z0, .ref (E.2.2 11 28)]) := by
    intro M y1 z0 H locs ls h hP hS hl
    unfold f_X8_looks_L21 at h
    refine pt_8_9 X wm_577 hP hS ix_28 dX8_looks_21 (fun H locs M4 eM4 hP hS => ?_)
    have h := bd_e h eM4
    refine lv_iconst (v := 0) hx hb dX8_looks_24 (by decide) ?_
    refine lv_istore_n (lv' := [(2, .int (0 : Int32)), (0, .ref (E.2.2 11 28)), (1, .int y1)]) hx hb dX8_looks_25 rfl hl (by decide) rfl (fun ls hl => ?_)
    exact w_L26 FU _ _ _ _ _ _ h hP hS (lv_sub hl [1, 2, 0] rfl)
  unfold f_X8_looks at h
  refine lv_aload_n hx hb dX8_looks_0 rfl (lv_at hl 0 rfl) ?_
  obtain ⟨v1, hv1, h⟩ := bO_e h
  refine mw_callVi X (c_X8_latest l E hA hv1) pk_X8_latest pv_X8_latest wm_452 ⟨Nat.le_of_ble_eq_true rfl, Nat.le_of_ble_eq_true rfl⟩ ⟨rfl, rfl⟩ hP hS ix_28 rfl rfl rfl rfl hl.1 (Nat.le_of_ble_eq_true rfl) ⟨Nat.zero_le _, Nat.zero_le _⟩ rfl dX8_looks_1 (fun H locs hP hS => ?_)
  refine lv_istore_n (lv' := [(1, .int v1), (0, .ref (E.2.2 11 28))]) hx hb dX8_looks_4 rfl hl (by decide) rfl (fun ls hl => ?_)
  refine lv_aload_n hx hb dX8_looks_5 rfl (lv_at hl 1 rfl) ?_
  refine lv_iload_n hx hb dX8_looks_6 rfl (lv_at hl 0 rfl) ?_
  refine lv_if_ne (tgt := 14) hx hb dX8_looks_7 (by decide) (fun c2 => ?_) (fun c2 => ?_)
  · have h := br_0 h c2
    refine lv_aload_n hx hb dX8_looks_14 rfl (lv_at hl 1 rfl) ?_
    refine lv_iload_n hx hb dX8_looks_15 rfl (lv_at hl 0 rfl) ?_
    refine lv_bipush (v := 6) hx hb dX8_looks_16 (by decide) ?_
    obtain ⟨v3, hv3, h⟩ := bO_e h
    refine mw_callVi X (c_X8_of l E hA hv3) pk_X8_of pv_X8_of wm_363 ⟨Nat.le_of_ble_eq_true rfl, Nat.le_of_ble_eq_true rfl⟩ ⟨rfl, rfl⟩ hP hS ix_28 rfl rfl rfl rfl hl.1 (Nat.le_of_ble_eq_true rfl) ⟨Nat.zero_le _, Nat.zero_le _⟩ rfl dX8_looks_18 (fun H locs hP hS => ?_)
    exact w_L21 _ _ _ _ _ _ h hP hS (lv_sub hl [1, 0] rfl)
  · have h := br_1 h c2
    refine lv_iconst (v := 0) hx hb dX8_looks_10 (by decide) ?_
    refine lv_goto (tgt := 21) hx hb dX8_looks_11 (by decide) ?_
    exact w_L21 _ _ _ _ _ _ h hP hS (lv_sub hl [1, 0] rfl)
/-! SealedGroupsModel.restarts -/
noncomputable def f_X8_restarts_L114  (K13 : Mem → Int32 → Int32 → Option (Int32 × Mem)) (M : Mem) (y1 y2 : Int32) : Option (Int32 × Mem) :=
bd (y2 + (1 : Int32)) (fun x18 =>
K13 M y1 x18)
noncomputable def f_X8_restarts_L61  (K13 : Mem → Int32 → Int32 → Option (Int32 × Mem)) (M : Mem) (y1 y2 y3 z0 : Int32) : Option (Int32 × Mem) :=
(if y3 = 0 then
f_X8_restarts_L114 K13 M y1 y2
else
gd (inb z0 8) (
(if (M 11 34 (z0).toNatClampNeg) ≤ 0 then
f_X8_restarts_L114 K13 M y1 y2
else
gd (inb z0 8) (
(if y2 < (M 11 34 (z0).toNatClampNeg) then
f_X8_restarts_L114 K13 M y1 y2
else
bO (f_X8_mark M z0) (fun v23 =>
(if y2 ≤ v23 then
f_X8_restarts_L114 K13 M y1 y2
else
bO (f_X8_of M y2 (4 : Int32)) (fun v25 =>
bO (f_X8_comes M z0 v25 y2) (fun M27 =>
bd (y1 + (1 : Int32)) (fun x28 =>
f_X8_restarts_L114 K13 M27 x28 y2))))))))))
noncomputable def f_X8_restarts_L46  (K13 : Mem → Int32 → Int32 → Option (Int32 × Mem)) (M : Mem) (y1 y2 z0 : Int32) : Option (Int32 × Mem) :=
(if z0 = 0 then
f_X8_restarts_L61 K13 M y1 y2 z0 (0 : Int32)
else
bO (f_X8_of M y2 (2 : Int32)) (fun v29 =>
f_X8_restarts_L61 K13 M y1 y2 z0 v29))
noncomputable def f_X8_restarts_L41  (K13 : Mem → Int32 → Int32 → Option (Int32 × Mem)) (M : Mem) (y1 y2 : Int32) : Option (Int32 × Mem) :=
f_X8_restarts_L46 K13 M y1 y2 (1 : Int32)
noncomputable def f_X8_restarts_L13  (K13 : Mem → Int32 → Int32 → Option (Int32 × Mem)) (M : Mem) (y1 y2 : Int32) : Option (Int32 × Mem) :=
bO (f_X8_last M) (fun v4 =>
(if v4 < y2 then
bd (st M 11 29 4 ((M 11 29 4) + y1)) (fun M6 =>
bP (f_X8_takes M6 (M6 11 28 9)) (fun v7 M8 =>
bd (st M8 11 28 10 v7) (fun M9 =>
bO (f_X8_last M9) (fun v10 =>
bP (f_X8_forces M9 v10) (fun v11 M12 =>
bd (st M12 11 29 3 (0 : Int32)) (fun M13 =>
some (y1, M13)))))))
else
bO (f_X8_of M y2 (0 : Int32)) (fun v14 =>
(if v14 = (1 : Int32) then
f_X8_restarts_L41 K13 M y1 y2
else
bO (f_X8_of M y2 (0 : Int32)) (fun v30 =>
(if v30 = (3 : Int32) then
f_X8_restarts_L41 K13 M y1 y2
else
f_X8_restarts_L46 K13 M y1 y2 (0 : Int32)))))))
noncomputable def f_X8_restarts  (M : Mem) : Option (Int32 × Mem) :=
bO (f_X8_looks M) (fun M2 =>
bd ((M2 11 29 0)) (fun x3 =>
itr (f_X8_restarts_L13 ) (fun _ _ _ => none) FU M2 (0 : Int32) x3))
theorem pk_X8_restarts : Pk "SealedGroupsModel" yX8_restarts cX8_restarts 5 (some .int) 0 := ⟨wm_576, wm_5, rfl, by decide +kernel⟩
theorem pv_X8_restarts : Cond.instanceMethod yX8_restarts ∈ wsL_law ∧ Cond.selects "SealedGroupsModel" yX8_restarts yX8_restarts ∈ wsL_law := ⟨wm_574, wm_575⟩
set_option maxHeartbeats 4000000 in
set_option maxRecDepth 100000 in
theorem c_X8_restarts (l : Launch) (E : En) (hA : AdOK E) {M : Mem} {r0 : Int32} {M0 : Mem}  (h : f_X8_restarts M = some (r0, M0)) : Met l yX8_restarts (Wm yX8_restarts cX8_restarts 5 (some .int)) ({ frames := 5, cells := 0, slots := 0, locals := 114 } : Room) (va_Pc [Value.ref (E.2.2 11 28)] (Wd E M)) (QI E r0 M0) 0 0 (AA E) := by
  refine Met.ofW (cc := cX8_restarts) (maxL := 5) (ret := (some .int)) (by decide +kernel) rfl ?_
  intro p e s m args below meth c s₁ B hml hv
  obtain ⟨rfl, hP, hK⟩ := hv
  have X : Cx E (AA E) p s m c _ cX8_restarts 5 RX8 := ⟨⟨B.exec, B.bytes, hml, findClass_of_methodNamed B.named, fun w hw => atoms_spec (ws := Wm yX8_restarts cX8_restarts 5 (some .int)) B.pre w (List.mem_cons_of_mem _ hw)⟩, hK, hA, fun _ h => h⟩
  have hx := B.exec
  have hb := B.bytes
  have hr := B.returns
  have hlocks := B.notSynchronized
  clear B hml
  have hS : va_S (AA E) s.heap s.heap [] := va_S.rf
  have hl := lv_entry ([Value.ref (E.2.2 11 28)]) (n := 5) (Nat.le_of_ble_eq_true rfl)
  rw [lg_entry_eq]
  generalize (lg_sl ([Value.ref (E.2.2 11 28)]) ++ List.replicate (5 - (lg_sl ([Value.ref (E.2.2 11 28)])).length) Slot.unset).toArray = ls at hl ⊢
  have hl : lv_has ls 5 [(0, .ref (E.2.2 11 28))] := hl
  have w_L13 : ∀ (n13 : Nat) (M : Mem) (y1 y2 : Int32) (H : Heap) (locs : List Loc) (ls : Array Slot), itr (f_X8_restarts_L13 ) (fun _ _ _ => none) n13 M y1 y2 = some (r0, M0) → va_P E.1 vwCl (wl E M) H → va_S (AA E) s.heap H locs → lv_has ls 5 [(0, .ref (E.2.2 11 28)), (1, .int y1), (2, .int y2)] → W p l e (headSpec (Wm yX8_restarts cX8_restarts 5 (some .int)) ({ frames := 5, cells := 0, slots := 0, locals := 114 } : Room)).room s m ([Value.ref (E.2.2 11 28)] : List Value).toArray below meth c H locs 0 0 (MQ below (QI E r0 M0) ([Value.ref (E.2.2 11 28)] : List Value).toArray s 0 0 (AA E)) (F0 m 13 ls []) := by
    intro n13
    induction n13 with
    | zero => intro M y1 y2 H locs ls h; exact (nomatch (show (none : Option (Int32 × Mem)) = some _ from h))
    | succ n13 ih13 =>
      intro M y1 y2 H locs ls h hP hS hl
      have h : f_X8_restarts_L13 (itr (f_X8_restarts_L13 ) (fun _ _ _ => none) n13) M y1 y2 = some (r0, M0) := h
      have w_L114 : ∀ (M : Mem) (y1 y2 : Int32) (H : Heap) (locs : List Loc) (ls : Array Slot), f_X8_restarts_L114 (itr (f_X8_restarts_L13 ) (fun _ _ _ => none) n13) M y1 y2 = some (r0, M0) → va_P E.1 vwCl (wl E M) H → va_S (AA E) s.heap H locs → lv_has ls 5 [(0, .ref (E.2.2 11 28)), (1, .int y1), (2, .int y2)] → W p l e (headSpec (Wm yX8_restarts cX8_restarts 5 (some .int)) ({ frames := 5, cells := 0, slots := 0, locals := 114 } : Room)).room s m ([Value.ref (E.2.2 11 28)] : List Value).toArray below meth c H locs 0 0 (MQ below (QI E r0 M0) ([Value.ref (E.2.2 11 28)] : List Value).toArray s 0 0 (AA E)) (F0 m 114 ls []) := by
        intro M y1 y2 H locs ls h hP hS hl
        unfold f_X8_restarts_L114 at h
        obtain ⟨x18, ex18⟩ : ∃ y : Int32, y = y2 + (1 : Int32) := ⟨_, rfl⟩
        have h := bd_e h ex18
        refine lv_iinc (v := x18) (lv' := [(2, .int x18), (0, .ref (E.2.2 11 28)), (1, .int y1)]) hx hb dX8_restarts_114 hl (k := 2) rfl (by rw [ex18]; rfl) (by decide) rfl (fun ls hl => ?_)
        refine lv_goto (tgt := 13) hx hb dX8_restarts_117 (by decide) ?_
        exact ih13 _ _ _ _ _ _ h hP hS (lv_sub hl [1, 2, 0] rfl)
      have w_L61 : ∀ (M : Mem) (y1 y2 y3 z0 : Int32) (H : Heap) (locs : List Loc) (ls : Array Slot), f_X8_restarts_L61 (itr (f_X8_restarts_L13 ) (fun _ _ _ => none) n13) M y1 y2 y3 z0 = some (r0, M0) → va_P E.1 vwCl (wl E M) H → va_S (AA E) s.heap H locs → lv_has ls 5 [(0, .ref (E.2.2 11 28)), (1, .int y1), (2, .int y2), (3, .int y3)] → W p l e (headSpec (Wm yX8_restarts cX8_restarts 5 (some .int)) ({ frames := 5, cells := 0, slots := 0, locals := 114 } : Room)).room s m ([Value.ref (E.2.2 11 28)] : List Value).toArray below meth c H locs 0 0 (MQ below (QI E r0 M0) ([Value.ref (E.2.2 11 28)] : List Value).toArray s 0 0 (AA E)) (F0 m 61 ls [.int z0]) := by
        intro M y1 y2 y3 z0 H locs ls h hP hS hl
        unfold f_X8_restarts_L61 at h
        refine lv_istore (lv' := [(4, .int z0), (0, .ref (E.2.2 11 28)), (1, .int y1), (2, .int y2), (3, .int y3)]) hx hb dX8_restarts_61 hl (by decide) rfl (fun ls hl => ?_)
        refine lv_iload_n hx hb dX8_restarts_63 rfl (lv_at hl 4 rfl) ?_
        refine lv_if_eq (tgt := 114) hx hb dX8_restarts_64 (by decide) (fun c17 => ?_) (fun c17 => ?_)
        · have h := br_1 h c17
          exact w_L114 _ _ _ _ _ _ h hP hS (lv_sub hl [1, 2, 3] rfl)
        · have h := br_0 h c17
          refine lv_aload_n hx hb dX8_restarts_67 rfl (lv_at hl 1 rfl) ?_
          refine gt_8_8 X wm_95 hP ix_28 dX8_restarts_68 ?_
          refine lv_iload hx hb dX8_restarts_71 (lv_at hl 0 rfl) ?_
          obtain ⟨g19, h⟩ := gd_e h
          refine mw_ld X hP ix_34 rfl (inb_vp g19) rfl dX8_restarts_73 ?_
          refine lv_if_le (tgt := 114) hx hb dX8_restarts_74 (by decide) (fun c20 => ?_) (fun c20 => ?_)
          · have h := br_1 h c20
            exact w_L114 _ _ _ _ _ _ h hP hS (lv_sub hl [1, 2, 3] rfl)
          · have h := br_0 h c20
            refine lv_aload_n hx hb dX8_restarts_77 rfl (lv_at hl 1 rfl) ?_
            refine gt_8_8 X wm_95 hP ix_28 dX8_restarts_78 ?_
            refine lv_iload hx hb dX8_restarts_81 (lv_at hl 0 rfl) ?_
            obtain ⟨g21, h⟩ := gd_e h
            refine mw_ld X hP ix_34 rfl (inb_vp g21) rfl dX8_restarts_83 ?_
            refine lv_iload_n hx hb dX8_restarts_84 rfl (lv_at hl 3 rfl) ?_
            refine lv_icmp_gt (tgt := 114) hx hb dX8_restarts_85 (by decide) (fun c22 => ?_) (fun c22 => ?_)
            · have h := br_1 h c22
              exact w_L114 _ _ _ _ _ _ h hP hS (lv_sub hl [1, 2, 3] rfl)
            · have h := br_0 h c22
              refine lv_aload_n hx hb dX8_restarts_88 rfl (lv_at hl 1 rfl) ?_
              refine lv_iload hx hb dX8_restarts_89 (lv_at hl 0 rfl) ?_
              obtain ⟨v23, hv23, h⟩ := bO_e h
              refine mw_callVi X (c_X8_mark l E hA hv23) pk_X8_mark pv_X8_mark wm_265 ⟨Nat.le_of_ble_eq_true rfl, Nat.le_of_ble_eq_true rfl⟩ ⟨rfl, rfl⟩ hP hS ix_28 rfl rfl rfl rfl hl.1 (Nat.le_of_ble_eq_true rfl) ⟨Nat.zero_le _, Nat.zero_le _⟩ rfl dX8_restarts_91 (fun H locs hP hS => ?_)
              refine lv_iload_n hx hb dX8_restarts_94 rfl (lv_at hl 3 rfl) ?_
              refine lv_icmp_ge (tgt := 114) hx hb dX8_restarts_95 (by decide) (fun c24 => ?_) (fun c24 => ?_)
              · have h := br_1 h c24
                exact w_L114 _ _ _ _ _ _ h hP hS (lv_sub hl [1, 2, 3] rfl)
              · have h := br_0 h c24
                refine lv_aload_n hx hb dX8_restarts_98 rfl (lv_at hl 1 rfl) ?_
                refine lv_iload hx hb dX8_restarts_99 (lv_at hl 0 rfl) ?_
                refine lv_aload_n hx hb dX8_restarts_101 rfl (lv_at hl 1 rfl) ?_
                refine lv_iload_n hx hb dX8_restarts_102 rfl (lv_at hl 3 rfl) ?_
                refine lv_iconst (v := 4) hx hb dX8_restarts_103 (by decide) ?_
                obtain ⟨v25, hv25, h⟩ := bO_e h
                refine mw_callVi X (c_X8_of l E hA hv25) pk_X8_of pv_X8_of wm_363 ⟨Nat.le_of_ble_eq_true rfl, Nat.le_of_ble_eq_true rfl⟩ ⟨rfl, rfl⟩ hP hS ix_28 rfl rfl rfl rfl hl.1 (Nat.le_of_ble_eq_true rfl) ⟨Nat.zero_le _, Nat.zero_le _⟩ rfl dX8_restarts_104 (fun H locs hP hS => ?_)
                refine lv_iload_n hx hb dX8_restarts_107 rfl (lv_at hl 3 rfl) ?_
                obtain ⟨M27, hv26, h⟩ := bO_e h
                refine mw_callVv X (c_X8_comes l E hA hv26) pk_X8_comes pv_X8_comes wm_257 ⟨Nat.le_of_ble_eq_true rfl, Nat.le_of_ble_eq_true rfl⟩ ⟨rfl, rfl⟩ hP hS ix_28 rfl rfl rfl rfl hl.1 (Nat.le_of_ble_eq_true rfl) ⟨Nat.zero_le _, Nat.zero_le _⟩ rfl dX8_restarts_108 (fun H locs hP hS => ?_)
                obtain ⟨x28, ex28⟩ : ∃ y : Int32, y = y1 + (1 : Int32) := ⟨_, rfl⟩
                have h := bd_e h ex28
                refine lv_iinc (v := x28) (lv' := [(1, .int x28), (4, .int z0), (0, .ref (E.2.2 11 28)), (2, .int y2), (3, .int y3)]) hx hb dX8_restarts_111 hl (k := 2) rfl (by rw [ex28]; rfl) (by decide) rfl (fun ls hl => ?_)
                exact w_L114 _ _ _ _ _ _ h hP hS (lv_sub hl [2, 0, 3] rfl)
      have w_L46 : ∀ (M : Mem) (y1 y2 z0 : Int32) (H : Heap) (locs : List Loc) (ls : Array Slot), f_X8_restarts_L46 (itr (f_X8_restarts_L13 ) (fun _ _ _ => none) n13) M y1 y2 z0 = some (r0, M0) → va_P E.1 vwCl (wl E M) H → va_S (AA E) s.heap H locs → lv_has ls 5 [(0, .ref (E.2.2 11 28)), (1, .int y1), (2, .int y2)] → W p l e (headSpec (Wm yX8_restarts cX8_restarts 5 (some .int)) ({ frames := 5, cells := 0, slots := 0, locals := 114 } : Room)).room s m ([Value.ref (E.2.2 11 28)] : List Value).toArray below meth c H locs 0 0 (MQ below (QI E r0 M0) ([Value.ref (E.2.2 11 28)] : List Value).toArray s 0 0 (AA E)) (F0 m 46 ls [.int z0]) := by
        intro M y1 y2 z0 H locs ls h hP hS hl
        unfold f_X8_restarts_L46 at h
        refine lv_istore_n (lv' := [(3, .int z0), (0, .ref (E.2.2 11 28)), (1, .int y1), (2, .int y2)]) hx hb dX8_restarts_46 rfl hl (by decide) rfl (fun ls hl => ?_)
        refine lv_iload_n hx hb dX8_restarts_47 rfl (lv_at hl 0 rfl) ?_
        refine lv_if_eq (tgt := 60) hx hb dX8_restarts_48 (by decide) (fun c16 => ?_) (fun c16 => ?_)
        · have h := br_1 h c16
          refine lv_iconst (v := 0) hx hb dX8_restarts_60 (by decide) ?_
          exact w_L61 _ _ _ _ _ _ _ _ h hP hS (lv_sub hl [1, 2, 3, 0] rfl)
        · have h := br_0 h c16
          refine lv_aload_n hx hb dX8_restarts_51 rfl (lv_at hl 1 rfl) ?_
          refine lv_iload_n hx hb dX8_restarts_52 rfl (lv_at hl 3 rfl) ?_
          refine lv_iconst (v := 2) hx hb dX8_restarts_53 (by decide) ?_
          obtain ⟨v29, hv29, h⟩ := bO_e h
          refine mw_callVi X (c_X8_of l E hA hv29) pk_X8_of pv_X8_of wm_363 ⟨Nat.le_of_ble_eq_true rfl, Nat.le_of_ble_eq_true rfl⟩ ⟨rfl, rfl⟩ hP hS ix_28 rfl rfl rfl rfl hl.1 (Nat.le_of_ble_eq_true rfl) ⟨Nat.zero_le _, Nat.zero_le _⟩ rfl dX8_restarts_54 (fun H locs hP hS => ?_)
          refine lv_goto (tgt := 61) hx hb dX8_restarts_57 (by decide) ?_
          exact w_L61 _ _ _ _ _ _ _ _ h hP hS (lv_sub hl [1, 2, 3, 0] rfl)
      have w_L41 : ∀ (M : Mem) (y1 y2 : Int32) (H : Heap) (locs : List Loc) (ls : Array Slot), f_X8_restarts_L41 (itr (f_X8_restarts_L13 ) (fun _ _ _ => none) n13) M y1 y2 = some (r0, M0) → va_P E.1 vwCl (wl E M) H → va_S (AA E) s.heap H locs → lv_has ls 5 [(0, .ref (E.2.2 11 28)), (1, .int y1), (2, .int y2)] → W p l e (headSpec (Wm yX8_restarts cX8_restarts 5 (some .int)) ({ frames := 5, cells := 0, slots := 0, locals := 114 } : Room)).room s m ([Value.ref (E.2.2 11 28)] : List Value).toArray below meth c H locs 0 0 (MQ below (QI E r0 M0) ([Value.ref (E.2.2 11 28)] : List Value).toArray s 0 0 (AA E)) (F0 m 41 ls []) := by
        intro M y1 y2 H locs ls h hP hS hl
        unfold f_X8_restarts_L41 at h
        refine lv_iconst (v := 1) hx hb dX8_restarts_41 (by decide) ?_
        refine lv_goto (tgt := 46) hx hb dX8_restarts_42 (by decide) ?_
        exact w_L46 _ _ _ _ _ _ _ h hP hS (lv_sub hl [0, 1, 2] rfl)
      unfold f_X8_restarts_L13 at h
      refine lv_iload_n hx hb dX8_restarts_13 rfl (lv_at hl 2 rfl) ?_
      refine lv_aload_n hx hb dX8_restarts_14 rfl (lv_at hl 0 rfl) ?_
      obtain ⟨v4, hv4, h⟩ := bO_e h
      refine mw_callVi X (c_X8_last l E hA hv4) pk_X8_last pv_X8_last wm_208 ⟨Nat.le_of_ble_eq_true rfl, Nat.le_of_ble_eq_true rfl⟩ ⟨rfl, rfl⟩ hP hS ix_28 rfl rfl rfl rfl hl.1 (Nat.le_of_ble_eq_true rfl) ⟨Nat.zero_le _, Nat.zero_le _⟩ rfl dX8_restarts_15 (fun H locs hP hS => ?_)
      refine lv_icmp_gt (tgt := 120) hx hb dX8_restarts_18 (by decide) (fun c5 => ?_) (fun c5 => ?_)
      · have h := br_1 h c5
        refine lv_aload_n hx hb dX8_restarts_120 rfl (lv_at hl 0 rfl) ?_
        refine gt_8_0 X wm_90 hP ix_28 dX8_restarts_121 ?_
        refine lv_iconst (v := 4) hx hb dX8_restarts_124 (by decide) ?_
        refine lv_dup2_11 hx hb dX8_restarts_125 rfl rfl ?_
        refine mw_ld X hP ix_29 rfl (v := (M 11 29 4)) (inb_vp (by decide)) rfl dX8_restarts_126 ?_
        refine lv_iload_n hx hb dX8_restarts_127 rfl (lv_at hl 1 rfl) ?_
        refine lv_iadd hx hb dX8_restarts_128 ?_
        refine mw_st X hP hS ix_29 (fun _ => rfl) (j := 4) (inb_vp (by decide)) rfl dX8_restarts_129 (fun H locs M6 eM6 hP hS => ?_)
        have h := bd_e h eM6
        refine lv_aload_n hx hb dX8_restarts_130 rfl (lv_at hl 0 rfl) ?_
        refine lv_aload_n hx hb dX8_restarts_131 rfl (lv_at hl 0 rfl) ?_
        refine lv_aload_n hx hb dX8_restarts_132 rfl (lv_at hl 0 rfl) ?_
        refine gt_8_9 X wm_577 hP ix_28 dX8_restarts_133 ?_
        obtain ⟨v7, M8, hv7, h⟩ := bP_e h
        refine mw_callVi X (c_X8_takes l E hA hv7) pk_X8_takes pv_X8_takes wm_359 ⟨Nat.le_of_ble_eq_true rfl, Nat.le_of_ble_eq_true rfl⟩ ⟨rfl, rfl⟩ hP hS ix_28 rfl rfl rfl rfl hl.1 (Nat.le_of_ble_eq_true rfl) ⟨Nat.zero_le _, Nat.zero_le _⟩ rfl dX8_restarts_136 (fun H locs hP hS => ?_)
        refine pt_8_10 X wm_578 hP hS ix_28 dX8_restarts_139 (fun H locs M9 eM9 hP hS => ?_)
        have h := bd_e h eM9
        refine lv_aload_n hx hb dX8_restarts_142 rfl (lv_at hl 0 rfl) ?_
        refine lv_aload_n hx hb dX8_restarts_143 rfl (lv_at hl 0 rfl) ?_
        obtain ⟨v10, hv10, h⟩ := bO_e h
        refine mw_callVi X (c_X8_last l E hA hv10) pk_X8_last pv_X8_last wm_208 ⟨Nat.le_of_ble_eq_true rfl, Nat.le_of_ble_eq_true rfl⟩ ⟨rfl, rfl⟩ hP hS ix_28 rfl rfl rfl rfl hl.1 (Nat.le_of_ble_eq_true rfl) ⟨Nat.zero_le _, Nat.zero_le _⟩ rfl dX8_restarts_144 (fun H locs hP hS => ?_)
        obtain ⟨v11, M12, hv11, h⟩ := bP_e h
        refine mw_callVi X (c_X8_forces l E hA hv11) pk_X8_forces pv_X8_forces wm_312 ⟨Nat.le_of_ble_eq_true rfl, Nat.le_of_ble_eq_true rfl⟩ ⟨rfl, rfl⟩ hP hS ix_28 rfl rfl rfl rfl hl.1 (Nat.le_of_ble_eq_true rfl) ⟨Nat.zero_le _, Nat.zero_le _⟩ rfl dX8_restarts_147 (fun H locs hP hS => ?_)
        refine lv_pop hx hb dX8_restarts_150 rfl ?_
        refine lv_aload_n hx hb dX8_restarts_151 rfl (lv_at hl 0 rfl) ?_
        refine gt_8_0 X wm_90 hP ix_28 dX8_restarts_152 ?_
        refine lv_iconst (v := 3) hx hb dX8_restarts_155 (by decide) ?_
        refine lv_iconst (v := 0) hx hb dX8_restarts_156 (by decide) ?_
        refine mw_st X hP hS ix_29 (fun _ => rfl) (j := 3) (inb_vp (by decide)) rfl dX8_restarts_157 (fun H locs M13 eM13 hP hS => ?_)
        have h := bd_e h eM13
        refine lv_iload_n hx hb dX8_restarts_158 rfl (lv_at hl 1 rfl) ?_
        have h := Option.some.inj h
        exact mw_iret X hr hlocks hP hS (congrArg Prod.fst h) (congrArg Prod.snd h) dX8_restarts_159
      · have h := br_0 h c5
        refine lv_aload_n hx hb dX8_restarts_21 rfl (lv_at hl 0 rfl) ?_
        refine lv_iload_n hx hb dX8_restarts_22 rfl (lv_at hl 2 rfl) ?_
        refine lv_iconst (v := 0) hx hb dX8_restarts_23 (by decide) ?_
        obtain ⟨v14, hv14, h⟩ := bO_e h
        refine mw_callVi X (c_X8_of l E hA hv14) pk_X8_of pv_X8_of wm_363 ⟨Nat.le_of_ble_eq_true rfl, Nat.le_of_ble_eq_true rfl⟩ ⟨rfl, rfl⟩ hP hS ix_28 rfl rfl rfl rfl hl.1 (Nat.le_of_ble_eq_true rfl) ⟨Nat.zero_le _, Nat.zero_le _⟩ rfl dX8_restarts_24 (fun H locs hP hS => ?_)
        refine lv_iconst (v := 1) hx hb dX8_restarts_27 (by decide) ?_
        refine lv_icmp_eq (tgt := 41) hx hb dX8_restarts_28 (by decide) (fun c15 => ?_) (fun c15 => ?_)
        · have h := br_1 h c15
          exact w_L41 _ _ _ _ _ _ h hP hS (lv_sub hl [0, 1, 2] rfl)
        · have h := br_0 h c15
          refine lv_aload_n hx hb dX8_restarts_31 rfl (lv_at hl 0 rfl) ?_
          refine lv_iload_n hx hb dX8_restarts_32 rfl (lv_at hl 2 rfl) ?_
          refine lv_iconst (v := 0) hx hb dX8_restarts_33 (by decide) ?_
          obtain ⟨v30, hv30, h⟩ := bO_e h
          refine mw_callVi X (c_X8_of l E hA hv30) pk_X8_of pv_X8_of wm_363 ⟨Nat.le_of_ble_eq_true rfl, Nat.le_of_ble_eq_true rfl⟩ ⟨rfl, rfl⟩ hP hS ix_28 rfl rfl rfl rfl hl.1 (Nat.le_of_ble_eq_true rfl) ⟨Nat.zero_le _, Nat.zero_le _⟩ rfl dX8_restarts_34 (fun H locs hP hS => ?_)
          refine lv_iconst (v := 3) hx hb dX8_restarts_37 (by decide) ?_
          refine lv_icmp_ne (tgt := 45) hx hb dX8_restarts_38 (by decide) (fun c31 => ?_) (fun c31 => ?_)
          · have h := br_0 h c31
            refine lv_iconst (v := 0) hx hb dX8_restarts_45 (by decide) ?_
            exact w_L46 _ _ _ _ _ _ _ h hP hS (lv_sub hl [0, 1, 2] rfl)
          · have h := br_1 h c31
            exact w_L41 _ _ _ _ _ _ h hP hS (lv_sub hl [0, 1, 2] rfl)
  unfold f_X8_restarts at h
  refine lv_aload_n hx hb dX8_restarts_0 rfl (lv_at hl 0 rfl) ?_
  obtain ⟨M2, hv1, h⟩ := bO_e h
  refine mw_callVv X (c_X8_looks l E hA hv1) pk_X8_looks pv_X8_looks wm_579 ⟨Nat.le_of_ble_eq_true rfl, Nat.le_of_ble_eq_true rfl⟩ ⟨rfl, rfl⟩ hP hS ix_28 rfl rfl rfl rfl hl.1 (Nat.le_of_ble_eq_true rfl) ⟨Nat.zero_le _, Nat.zero_le _⟩ rfl dX8_restarts_1 (fun H locs hP hS => ?_)
  refine lv_iconst (v := 0) hx hb dX8_restarts_4 (by decide) ?_
  refine lv_istore_n (lv' := [(1, .int (0 : Int32)), (0, .ref (E.2.2 11 28))]) hx hb dX8_restarts_5 rfl hl (by decide) rfl (fun ls hl => ?_)
  refine lv_aload_n hx hb dX8_restarts_6 rfl (lv_at hl 1 rfl) ?_
  refine gt_8_0 X wm_90 hP ix_28 dX8_restarts_7 ?_
  refine lv_iconst (v := 0) hx hb dX8_restarts_10 (by decide) ?_
  refine mw_ld X hP ix_29 rfl (v := (M2 11 29 0)) (inb_vp (by decide)) rfl dX8_restarts_11 ?_
  refine lv_topi (fun x3 ex3 => ?_)
  have h := bd_e h ex3
  refine lv_istore_n (lv' := [(2, .int x3), (1, .int (0 : Int32)), (0, .ref (E.2.2 11 28))]) hx hb dX8_restarts_12 rfl hl (by decide) rfl (fun ls hl => ?_)
  exact w_L13 FU _ _ _ _ _ _ h hP hS (lv_sub hl [2, 1, 0] rfl)
/-! SealedGroupsModel.restart -/
noncomputable def f_X8_restart  (M : Mem) : Option (Int32 × Mem) :=
bO (f_X8_isStopped M) (fun v1 =>
(if v1 = 0 then
some ((-1000002 : Int32), M)
else
bO (f_X8_changes M) (fun M4 =>
bP (f_X8_restarts M4) (fun v5 M6 =>
some (v5, M6)))))
theorem pk_X8_restart : Pk "SealedGroupsModel" yX8_restart cX8_restart 1 (some .int) 0 := ⟨wm_572, wm_5, rfl, by decide +kernel⟩
theorem pv_X8_restart : Cond.instanceMethod yX8_restart ∈ wsL_law ∧ Cond.selects "SealedGroupsModel" yX8_restart yX8_restart ∈ wsL_law := ⟨wm_570, wm_571⟩
set_option maxHeartbeats 4000000 in
set_option maxRecDepth 100000 in
theorem c_X8_restart (l : Launch) (E : En) (hA : AdOK E) {M : Mem} {r0 : Int32} {M0 : Mem}  (h : f_X8_restart M = some (r0, M0)) : Met l yX8_restart (Wm yX8_restart cX8_restart 1 (some .int)) ({ frames := 6, cells := 0, slots := 0, locals := 138 } : Room) (va_Pc [Value.ref (E.2.2 11 28)] (Wd E M)) (QI E r0 M0) 0 0 (AA E) := by
  refine Met.ofW (cc := cX8_restart) (maxL := 1) (ret := (some .int)) (by decide +kernel) rfl ?_
  intro p e s m args below meth c s₁ B hml hv
  obtain ⟨rfl, hP, hK⟩ := hv
  have X : Cx E (AA E) p s m c _ cX8_restart 1 RX8 := ⟨⟨B.exec, B.bytes, hml, findClass_of_methodNamed B.named, fun w hw => atoms_spec (ws := Wm yX8_restart cX8_restart 1 (some .int)) B.pre w (List.mem_cons_of_mem _ hw)⟩, hK, hA, fun _ h => h⟩
  have hx := B.exec
  have hb := B.bytes
  have hr := B.returns
  have hlocks := B.notSynchronized
  clear B hml
  have hS : va_S (AA E) s.heap s.heap [] := va_S.rf
  have hl := lv_entry ([Value.ref (E.2.2 11 28)]) (n := 1) (Nat.le_of_ble_eq_true rfl)
  rw [lg_entry_eq]
  generalize (lg_sl ([Value.ref (E.2.2 11 28)]) ++ List.replicate (1 - (lg_sl ([Value.ref (E.2.2 11 28)])).length) Slot.unset).toArray = ls at hl ⊢
  have hl : lv_has ls 1 [(0, .ref (E.2.2 11 28))] := hl
  unfold f_X8_restart at h
  refine lv_aload_n hx hb dX8_restart_0 rfl (lv_at hl 0 rfl) ?_
  obtain ⟨v1, hv1, h⟩ := bO_e h
  refine mw_callVi X (c_X8_isStopped l E hA hv1) pk_X8_isStopped pv_X8_isStopped wm_186 ⟨Nat.le_of_ble_eq_true rfl, Nat.le_of_ble_eq_true rfl⟩ ⟨rfl, rfl⟩ hP hS ix_28 rfl rfl rfl rfl hl.1 (Nat.le_of_ble_eq_true rfl) ⟨Nat.zero_le _, Nat.zero_le _⟩ rfl dX8_restart_1 (fun H locs hP hS => ?_)
  refine lv_if_ne (tgt := 10) hx hb dX8_restart_4 (by decide) (fun c2 => ?_) (fun c2 => ?_)
  · have h := br_0 h c2
    refine lv_aload_n hx hb dX8_restart_10 rfl (lv_at hl 0 rfl) ?_
    obtain ⟨M4, hv3, h⟩ := bO_e h
    refine mw_callVv X (c_X8_changes l E hA hv3) pk_X8_changes pv_X8_changes wm_198 ⟨Nat.le_of_ble_eq_true rfl, Nat.le_of_ble_eq_true rfl⟩ ⟨rfl, rfl⟩ hP hS ix_28 rfl rfl rfl rfl hl.1 (Nat.le_of_ble_eq_true rfl) ⟨Nat.zero_le _, Nat.zero_le _⟩ rfl dX8_restart_11 (fun H locs hP hS => ?_)
    refine lv_aload_n hx hb dX8_restart_14 rfl (lv_at hl 0 rfl) ?_
    obtain ⟨v5, M6, hv5, h⟩ := bP_e h
    refine mw_callVi X (c_X8_restarts l E hA hv5) pk_X8_restarts pv_X8_restarts wm_573 ⟨Nat.le_of_ble_eq_true rfl, Nat.le_of_ble_eq_true rfl⟩ ⟨rfl, rfl⟩ hP hS ix_28 rfl rfl rfl rfl hl.1 (Nat.le_of_ble_eq_true rfl) ⟨Nat.zero_le _, Nat.zero_le _⟩ rfl dX8_restart_15 (fun H locs hP hS => ?_)
    have h := Option.some.inj h
    exact mw_iret X hr hlocks hP hS (congrArg Prod.fst h) (congrArg Prod.snd h) dX8_restart_18
  · have h := br_1 h c2
    refine lv_ldc hx hb X.1.2.2.2.1 (X.1.2.2.2.2 _ wm_180) dX8_restart_7 ?_
    have h := Option.some.inj h
    exact mw_iret X hr hlocks hP hS (congrArg Prod.fst h) (congrArg Prod.snd h) dX8_restart_9
/-! SealedGroupsModel.nextKind -/
noncomputable def f_X8_nextKind_L50  (M : Mem) (K4 : Int32 → Int32 → Option Int32) (y2 y3 : Int32) : Option Int32 :=
bd (y3 + (1 : Int32)) (fun x7 =>
K4 y2 x7)
noncomputable def f_X8_nextKind_L4  (M : Mem) (K4 : Int32 → Int32 → Option Int32) (y2 y3 : Int32) : Option Int32 :=
bO (f_X8_last M) (fun v2 =>
(if v2 < y3 then
some (-1000004 : Int32)
else
bO (f_X8_of M y3 (0 : Int32)) (fun v4 =>
bO (f_X8_of M y3 (1 : Int32)) (fun v5 =>
(if v5 = y2 then
(if v4 = 0 then
some v4
else
(if v4 = (2 : Int32) then
some v4
else
(if v4 = (4 : Int32) then
some v4
else
f_X8_nextKind_L50 M K4 y2 y3)))
else
f_X8_nextKind_L50 M K4 y2 y3)))))
noncomputable def f_X8_nextKind  (M : Mem) (a1 a2 : Int32) : Option Int32 :=
bd ((a1 + (1 : Int32))) (fun x1 =>
itr (f_X8_nextKind_L4 M) (fun _ _ => none) FU a2 x1)
theorem pk_X8_nextKind : Pk "SealedGroupsModel" yX8_nextKind cX8_nextKind 5 (some .int) 2 := ⟨wm_616, wm_5, rfl, by decide +kernel⟩
theorem pv_X8_nextKind : Cond.instanceMethod yX8_nextKind ∈ wsL_law ∧ Cond.selects "SealedGroupsModel" yX8_nextKind yX8_nextKind ∈ wsL_law := ⟨wm_614, wm_615⟩
set_option maxHeartbeats 4000000 in
set_option maxRecDepth 100000 in
theorem c_X8_nextKind (l : Launch) (E : En) (hA : AdOK E) {M : Mem} {a1 a2 : Int32} {r0 : Int32}  (h : f_X8_nextKind M a1 a2 = some r0) : Met l yX8_nextKind (Wm yX8_nextKind cX8_nextKind 5 (some .int)) ({ frames := 1, cells := 0, slots := 0, locals := 22 } : Room) (va_Pc [Value.ref (E.2.2 11 28), Value.int a1, Value.int a2] (Wd E M)) (QI E r0 M) 0 0 (AA E) := by
  refine Met.ofW (cc := cX8_nextKind) (maxL := 5) (ret := (some .int)) (by decide +kernel) rfl ?_
  intro p e s m args below meth c s₁ B hml hv
  obtain ⟨rfl, hP, hK⟩ := hv
  have X : Cx E (AA E) p s m c _ cX8_nextKind 5 RX8 := ⟨⟨B.exec, B.bytes, hml, findClass_of_methodNamed B.named, fun w hw => atoms_spec (ws := Wm yX8_nextKind cX8_nextKind 5 (some .int)) B.pre w (List.mem_cons_of_mem _ hw)⟩, hK, hA, fun _ h => h⟩
  have hx := B.exec
  have hb := B.bytes
  have hr := B.returns
  have hlocks := B.notSynchronized
  clear B hml
  have hS : va_S (AA E) s.heap s.heap [] := va_S.rf
  have hl := lv_entry ([Value.ref (E.2.2 11 28), Value.int a1, Value.int a2]) (n := 5) (Nat.le_of_ble_eq_true rfl)
  rw [lg_entry_eq]
  generalize (lg_sl ([Value.ref (E.2.2 11 28), Value.int a1, Value.int a2]) ++ List.replicate (5 - (lg_sl ([Value.ref (E.2.2 11 28), Value.int a1, Value.int a2])).length) Slot.unset).toArray = ls at hl ⊢
  have hl : lv_has ls 5 [(0, .ref (E.2.2 11 28)), (1, .int a1), (2, .int a2)] := hl
  have w_L4 : ∀ (n4 : Nat)  (y2 y3 : Int32) (H : Heap) (locs : List Loc) (ls : Array Slot), itr (f_X8_nextKind_L4 M) (fun _ _ => none) n4 y2 y3 = some r0 → va_P E.1 vwCl (wl E M) H → va_S (AA E) s.heap H locs → lv_has ls 5 [(0, .ref (E.2.2 11 28)), (2, .int y2), (3, .int y3)] → W p l e (headSpec (Wm yX8_nextKind cX8_nextKind 5 (some .int)) ({ frames := 1, cells := 0, slots := 0, locals := 22 } : Room)).room s m ([Value.ref (E.2.2 11 28), Value.int a1, Value.int a2] : List Value).toArray below meth c H locs 0 0 (MQ below (QI E r0 M) ([Value.ref (E.2.2 11 28), Value.int a1, Value.int a2] : List Value).toArray s 0 0 (AA E)) (F0 m 4 ls []) := by
    intro n4
    induction n4 with
    | zero => intro y2 y3 H locs ls h; exact (nomatch (show (none : Option Int32) = some _ from h))
    | succ n4 ih4 =>
      intro y2 y3 H locs ls h hP hS hl
      have h : f_X8_nextKind_L4 M (itr (f_X8_nextKind_L4 M) (fun _ _ => none) n4) y2 y3 = some r0 := h
      have w_L50 : ∀  (y2 y3 : Int32) (H : Heap) (locs : List Loc) (ls : Array Slot), f_X8_nextKind_L50 M (itr (f_X8_nextKind_L4 M) (fun _ _ => none) n4) y2 y3 = some r0 → va_P E.1 vwCl (wl E M) H → va_S (AA E) s.heap H locs → lv_has ls 5 [(0, .ref (E.2.2 11 28)), (2, .int y2), (3, .int y3)] → W p l e (headSpec (Wm yX8_nextKind cX8_nextKind 5 (some .int)) ({ frames := 1, cells := 0, slots := 0, locals := 22 } : Room)).room s m ([Value.ref (E.2.2 11 28), Value.int a1, Value.int a2] : List Value).toArray below meth c H locs 0 0 (MQ below (QI E r0 M) ([Value.ref (E.2.2 11 28), Value.int a1, Value.int a2] : List Value).toArray s 0 0 (AA E)) (F0 m 50 ls []) := by
        intro y2 y3 H locs ls h hP hS hl
        unfold f_X8_nextKind_L50 at h
        obtain ⟨x7, ex7⟩ : ∃ y : Int32, y = y3 + (1 : Int32) := ⟨_, rfl⟩
        have h := bd_e h ex7
        refine lv_iinc (v := x7) (lv' := [(3, .int x7), (0, .ref (E.2.2 11 28)), (2, .int y2)]) hx hb dX8_nextKind_50 hl (k := 2) rfl (by rw [ex7]; rfl) (by decide) rfl (fun ls hl => ?_)
        refine lv_goto (tgt := 4) hx hb dX8_nextKind_53 (by decide) ?_
        exact ih4 _ _ _ _ _ h hP hS (lv_sub hl [1, 2, 0] rfl)
      unfold f_X8_nextKind_L4 at h
      refine lv_iload_n hx hb dX8_nextKind_4 rfl (lv_at hl 2 rfl) ?_
      refine lv_aload_n hx hb dX8_nextKind_5 rfl (lv_at hl 0 rfl) ?_
      obtain ⟨v2, hv2, h⟩ := bO_e h
      refine mw_callVi X (c_X8_last l E hA hv2) pk_X8_last pv_X8_last wm_208 ⟨Nat.le_of_ble_eq_true rfl, Nat.le_of_ble_eq_true rfl⟩ ⟨rfl, rfl⟩ hP hS ix_28 rfl rfl rfl rfl hl.1 (Nat.le_of_ble_eq_true rfl) ⟨Nat.zero_le _, Nat.zero_le _⟩ rfl dX8_nextKind_6 (fun H locs hP hS => ?_)
      refine lv_icmp_gt (tgt := 56) hx hb dX8_nextKind_9 (by decide) (fun c3 => ?_) (fun c3 => ?_)
      · have h := br_1 h c3
        refine lv_ldc hx hb X.1.2.2.2.1 (X.1.2.2.2.2 _ wm_182) dX8_nextKind_56 ?_
        exact mw_iret X hr hlocks hP hS (Option.some.inj h) rfl dX8_nextKind_58
      · have h := br_0 h c3
        refine lv_aload_n hx hb dX8_nextKind_12 rfl (lv_at hl 0 rfl) ?_
        refine lv_iload_n hx hb dX8_nextKind_13 rfl (lv_at hl 2 rfl) ?_
        refine lv_iconst (v := 0) hx hb dX8_nextKind_14 (by decide) ?_
        obtain ⟨v4, hv4, h⟩ := bO_e h
        refine mw_callVi X (c_X8_of l E hA hv4) pk_X8_of pv_X8_of wm_363 ⟨Nat.le_of_ble_eq_true rfl, Nat.le_of_ble_eq_true rfl⟩ ⟨rfl, rfl⟩ hP hS ix_28 rfl rfl rfl rfl hl.1 (Nat.le_of_ble_eq_true rfl) ⟨Nat.zero_le _, Nat.zero_le _⟩ rfl dX8_nextKind_15 (fun H locs hP hS => ?_)
        refine lv_istore (lv' := [(4, .int v4), (0, .ref (E.2.2 11 28)), (2, .int y2), (3, .int y3)]) hx hb dX8_nextKind_18 hl (by decide) rfl (fun ls hl => ?_)
        refine lv_aload_n hx hb dX8_nextKind_20 rfl (lv_at hl 1 rfl) ?_
        refine lv_iload_n hx hb dX8_nextKind_21 rfl (lv_at hl 3 rfl) ?_
        refine lv_iconst (v := 1) hx hb dX8_nextKind_22 (by decide) ?_
        obtain ⟨v5, hv5, h⟩ := bO_e h
        refine mw_callVi X (c_X8_of l E hA hv5) pk_X8_of pv_X8_of wm_363 ⟨Nat.le_of_ble_eq_true rfl, Nat.le_of_ble_eq_true rfl⟩ ⟨rfl, rfl⟩ hP hS ix_28 rfl rfl rfl rfl hl.1 (Nat.le_of_ble_eq_true rfl) ⟨Nat.zero_le _, Nat.zero_le _⟩ rfl dX8_nextKind_23 (fun H locs hP hS => ?_)
        refine lv_iload_n hx hb dX8_nextKind_26 rfl (lv_at hl 2 rfl) ?_
        refine lv_icmp_ne (tgt := 50) hx hb dX8_nextKind_27 (by decide) (fun c6 => ?_) (fun c6 => ?_)
        · have h := br_0 h c6
          exact w_L50 _ _ _ _ _ h hP hS (lv_sub hl [1, 2, 3] rfl)
        · have h := br_1 h c6
          refine lv_iload hx hb dX8_nextKind_30 (lv_at hl 0 rfl) ?_
          refine lv_if_eq (tgt := 47) hx hb dX8_nextKind_32 (by decide) (fun c8 => ?_) (fun c8 => ?_)
          · have h := br_1 h c8
            refine lv_iload hx hb dX8_nextKind_47 (lv_at hl 0 rfl) ?_
            exact mw_iret X hr hlocks hP hS (Option.some.inj h) rfl dX8_nextKind_49
          · have h := br_0 h c8
            refine lv_iload hx hb dX8_nextKind_35 (lv_at hl 0 rfl) ?_
            refine lv_iconst (v := 2) hx hb dX8_nextKind_37 (by decide) ?_
            refine lv_icmp_eq (tgt := 47) hx hb dX8_nextKind_38 (by decide) (fun c9 => ?_) (fun c9 => ?_)
            · have h := br_1 h c9
              refine lv_iload hx hb dX8_nextKind_47 (lv_at hl 0 rfl) ?_
              exact mw_iret X hr hlocks hP hS (Option.some.inj h) rfl dX8_nextKind_49
            · have h := br_0 h c9
              refine lv_iload hx hb dX8_nextKind_41 (lv_at hl 0 rfl) ?_
              refine lv_iconst (v := 4) hx hb dX8_nextKind_43 (by decide) ?_
              refine lv_icmp_ne (tgt := 50) hx hb dX8_nextKind_44 (by decide) (fun c10 => ?_) (fun c10 => ?_)
              · have h := br_0 h c10
                exact w_L50 _ _ _ _ _ h hP hS (lv_sub hl [1, 2, 3] rfl)
              · have h := br_1 h c10
                refine lv_iload hx hb dX8_nextKind_47 (lv_at hl 0 rfl) ?_
                exact mw_iret X hr hlocks hP hS (Option.some.inj h) rfl dX8_nextKind_49
  unfold f_X8_nextKind at h
  refine lv_iload_n hx hb dX8_nextKind_0 rfl (lv_at hl 1 rfl) ?_
  refine lv_iconst (v := 1) hx hb dX8_nextKind_1 (by decide) ?_
  refine lv_iadd hx hb dX8_nextKind_2 ?_
  refine lv_topi (fun x1 ex1 => ?_)
  have h := bd_e h ex1
  refine lv_istore_n (lv' := [(3, .int x1), (0, .ref (E.2.2 11 28)), (1, .int a1), (2, .int a2)]) hx hb dX8_nextKind_3 rfl hl (by decide) rfl (fun ls hl => ?_)
  exact w_L4 FU _ _ _ _ _ h hP hS (lv_sub hl [1, 3, 0] rfl)
/-! SealedGroupsModel.settledValue -/
noncomputable def f_X8_settledValue_L63  (M : Mem) (K10 : Int32 → Int32 → Int32 → Option Int32) (y1 y3 z0 : Int32) : Option Int32 :=
bd (y3 + (1 : Int32)) (fun x6 =>
K10 y1 z0 x6)
noncomputable def f_X8_settledValue_L62  (M : Mem) (K10 : Int32 → Int32 → Int32 → Option Int32) (y1 y2 y3 : Int32) : Option Int32 :=
f_X8_settledValue_L63 M K10 y1 y3 y2
noncomputable def f_X8_settledValue_L10  (M : Mem) (K10 : Int32 → Int32 → Int32 → Option Int32) (y1 y2 y3 : Int32) : Option Int32 :=
bO (f_X8_last M) (fun v2 =>
(if v2 < y3 then
some y2
else
bO (f_X8_of M y3 (0 : Int32)) (fun v4 =>
(if v4 = (1 : Int32) then
bO (f_X8_of M y3 (2 : Int32)) (fun v7 =>
(if v7 = y1 then
bO (f_X8_of M y3 (1 : Int32)) (fun v9 =>
bO (f_X8_nextKind M y3 v9) (fun v10 =>
(if v10 = (2 : Int32) then
bO (f_X8_of M y3 (4 : Int32)) (fun v12 =>
f_X8_settledValue_L63 M K10 y1 y3 v12)
else
f_X8_settledValue_L62 M K10 y1 y2 y3)))
else
f_X8_settledValue_L62 M K10 y1 y2 y3))
else
f_X8_settledValue_L62 M K10 y1 y2 y3))))
noncomputable def f_X8_settledValue  (M : Mem) (a1 : Int32) : Option Int32 :=
bd ((M 11 29 0)) (fun x1 =>
itr (f_X8_settledValue_L10 M) (fun _ _ _ => none) FU a1 (-1000004 : Int32) x1)
theorem pk_X8_settledValue : Pk "SealedGroupsModel" yX8_settledValue cX8_settledValue 4 (some .int) 1 := ⟨wm_612, wm_5, rfl, by decide +kernel⟩
theorem pv_X8_settledValue : Cond.instanceMethod yX8_settledValue ∈ wsL_law ∧ Cond.selects "SealedGroupsModel" yX8_settledValue yX8_settledValue ∈ wsL_law := ⟨wm_610, wm_611⟩
set_option maxHeartbeats 4000000 in
set_option maxRecDepth 100000 in
theorem c_X8_settledValue (l : Launch) (E : En) (hA : AdOK E) {M : Mem} {a1 : Int32} {r0 : Int32}  (h : f_X8_settledValue M a1 = some r0) : Met l yX8_settledValue (Wm yX8_settledValue cX8_settledValue 4 (some .int)) ({ frames := 2, cells := 0, slots := 0, locals := 46 } : Room) (va_Pc [Value.ref (E.2.2 11 28), Value.int a1] (Wd E M)) (QI E r0 M) 0 0 (AA E) := by
  refine Met.ofW (cc := cX8_settledValue) (maxL := 4) (ret := (some .int)) (by decide +kernel) rfl ?_
  intro p e s m args below meth c s₁ B hml hv
  obtain ⟨rfl, hP, hK⟩ := hv
  have X : Cx E (AA E) p s m c _ cX8_settledValue 4 RX8 := ⟨⟨B.exec, B.bytes, hml, findClass_of_methodNamed B.named, fun w hw => atoms_spec (ws := Wm yX8_settledValue cX8_settledValue 4 (some .int)) B.pre w (List.mem_cons_of_mem _ hw)⟩, hK, hA, fun _ h => h⟩
  have hx := B.exec
  have hb := B.bytes
  have hr := B.returns
  have hlocks := B.notSynchronized
  clear B hml
  have hS : va_S (AA E) s.heap s.heap [] := va_S.rf
  have hl := lv_entry ([Value.ref (E.2.2 11 28), Value.int a1]) (n := 4) (Nat.le_of_ble_eq_true rfl)
  rw [lg_entry_eq]
  generalize (lg_sl ([Value.ref (E.2.2 11 28), Value.int a1]) ++ List.replicate (4 - (lg_sl ([Value.ref (E.2.2 11 28), Value.int a1])).length) Slot.unset).toArray = ls at hl ⊢
  have hl : lv_has ls 4 [(0, .ref (E.2.2 11 28)), (1, .int a1)] := hl
  have w_L10 : ∀ (n10 : Nat)  (y1 y2 y3 : Int32) (H : Heap) (locs : List Loc) (ls : Array Slot), itr (f_X8_settledValue_L10 M) (fun _ _ _ => none) n10 y1 y2 y3 = some r0 → va_P E.1 vwCl (wl E M) H → va_S (AA E) s.heap H locs → lv_has ls 4 [(0, .ref (E.2.2 11 28)), (1, .int y1), (2, .int y2), (3, .int y3)] → W p l e (headSpec (Wm yX8_settledValue cX8_settledValue 4 (some .int)) ({ frames := 2, cells := 0, slots := 0, locals := 46 } : Room)).room s m ([Value.ref (E.2.2 11 28), Value.int a1] : List Value).toArray below meth c H locs 0 0 (MQ below (QI E r0 M) ([Value.ref (E.2.2 11 28), Value.int a1] : List Value).toArray s 0 0 (AA E)) (F0 m 10 ls []) := by
    intro n10
    induction n10 with
    | zero => intro y1 y2 y3 H locs ls h; exact (nomatch (show (none : Option Int32) = some _ from h))
    | succ n10 ih10 =>
      intro y1 y2 y3 H locs ls h hP hS hl
      have h : f_X8_settledValue_L10 M (itr (f_X8_settledValue_L10 M) (fun _ _ _ => none) n10) y1 y2 y3 = some r0 := h
      have w_L63 : ∀  (y1 y3 z0 : Int32) (H : Heap) (locs : List Loc) (ls : Array Slot), f_X8_settledValue_L63 M (itr (f_X8_settledValue_L10 M) (fun _ _ _ => none) n10) y1 y3 z0 = some r0 → va_P E.1 vwCl (wl E M) H → va_S (AA E) s.heap H locs → lv_has ls 4 [(0, .ref (E.2.2 11 28)), (1, .int y1), (3, .int y3)] → W p l e (headSpec (Wm yX8_settledValue cX8_settledValue 4 (some .int)) ({ frames := 2, cells := 0, slots := 0, locals := 46 } : Room)).room s m ([Value.ref (E.2.2 11 28), Value.int a1] : List Value).toArray below meth c H locs 0 0 (MQ below (QI E r0 M) ([Value.ref (E.2.2 11 28), Value.int a1] : List Value).toArray s 0 0 (AA E)) (F0 m 63 ls [.int z0]) := by
        intro y1 y3 z0 H locs ls h hP hS hl
        unfold f_X8_settledValue_L63 at h
        refine lv_istore_n (lv' := [(2, .int z0), (0, .ref (E.2.2 11 28)), (1, .int y1), (3, .int y3)]) hx hb dX8_settledValue_63 rfl hl (by decide) rfl (fun ls hl => ?_)
        obtain ⟨x6, ex6⟩ : ∃ y : Int32, y = y3 + (1 : Int32) := ⟨_, rfl⟩
        have h := bd_e h ex6
        refine lv_iinc (v := x6) (lv' := [(3, .int x6), (2, .int z0), (0, .ref (E.2.2 11 28)), (1, .int y1)]) hx hb dX8_settledValue_64 hl (k := 3) rfl (by rw [ex6]; rfl) (by decide) rfl (fun ls hl => ?_)
        refine lv_goto (tgt := 10) hx hb dX8_settledValue_67 (by decide) ?_
        exact ih10 _ _ _ _ _ _ h hP hS (lv_sub hl [2, 3, 1, 0] rfl)
      have w_L62 : ∀  (y1 y2 y3 : Int32) (H : Heap) (locs : List Loc) (ls : Array Slot), f_X8_settledValue_L62 M (itr (f_X8_settledValue_L10 M) (fun _ _ _ => none) n10) y1 y2 y3 = some r0 → va_P E.1 vwCl (wl E M) H → va_S (AA E) s.heap H locs → lv_has ls 4 [(0, .ref (E.2.2 11 28)), (1, .int y1), (2, .int y2), (3, .int y3)] → W p l e (headSpec (Wm yX8_settledValue cX8_settledValue 4 (some .int)) ({ frames := 2, cells := 0, slots := 0, locals := 46 } : Room)).room s m ([Value.ref (E.2.2 11 28), Value.int a1] : List Value).toArray below meth c H locs 0 0 (MQ below (QI E r0 M) ([Value.ref (E.2.2 11 28), Value.int a1] : List Value).toArray s 0 0 (AA E)) (F0 m 62 ls []) := by
        intro y1 y2 y3 H locs ls h hP hS hl
        unfold f_X8_settledValue_L62 at h
        refine lv_iload_n hx hb dX8_settledValue_62 rfl (lv_at hl 2 rfl) ?_
        exact w_L63 _ _ _ _ _ _ h hP hS (lv_sub hl [0, 1, 3] rfl)
      unfold f_X8_settledValue_L10 at h
      refine lv_iload_n hx hb dX8_settledValue_10 rfl (lv_at hl 3 rfl) ?_
      refine lv_aload_n hx hb dX8_settledValue_11 rfl (lv_at hl 0 rfl) ?_
      obtain ⟨v2, hv2, h⟩ := bO_e h
      refine mw_callVi X (c_X8_last l E hA hv2) pk_X8_last pv_X8_last wm_208 ⟨Nat.le_of_ble_eq_true rfl, Nat.le_of_ble_eq_true rfl⟩ ⟨rfl, rfl⟩ hP hS ix_28 rfl rfl rfl rfl hl.1 (Nat.le_of_ble_eq_true rfl) ⟨Nat.zero_le _, Nat.zero_le _⟩ rfl dX8_settledValue_12 (fun H locs hP hS => ?_)
      refine lv_icmp_gt (tgt := 70) hx hb dX8_settledValue_15 (by decide) (fun c3 => ?_) (fun c3 => ?_)
      · have h := br_1 h c3
        refine lv_iload_n hx hb dX8_settledValue_70 rfl (lv_at hl 2 rfl) ?_
        exact mw_iret X hr hlocks hP hS (Option.some.inj h) rfl dX8_settledValue_71
      · have h := br_0 h c3
        refine lv_aload_n hx hb dX8_settledValue_18 rfl (lv_at hl 0 rfl) ?_
        refine lv_iload_n hx hb dX8_settledValue_19 rfl (lv_at hl 3 rfl) ?_
        refine lv_iconst (v := 0) hx hb dX8_settledValue_20 (by decide) ?_
        obtain ⟨v4, hv4, h⟩ := bO_e h
        refine mw_callVi X (c_X8_of l E hA hv4) pk_X8_of pv_X8_of wm_363 ⟨Nat.le_of_ble_eq_true rfl, Nat.le_of_ble_eq_true rfl⟩ ⟨rfl, rfl⟩ hP hS ix_28 rfl rfl rfl rfl hl.1 (Nat.le_of_ble_eq_true rfl) ⟨Nat.zero_le _, Nat.zero_le _⟩ rfl dX8_settledValue_21 (fun H locs hP hS => ?_)
        refine lv_iconst (v := 1) hx hb dX8_settledValue_24 (by decide) ?_
        refine lv_icmp_ne (tgt := 62) hx hb dX8_settledValue_25 (by decide) (fun c5 => ?_) (fun c5 => ?_)
        · have h := br_0 h c5
          exact w_L62 _ _ _ _ _ _ h hP hS (lv_sub hl [0, 1, 2, 3] rfl)
        · have h := br_1 h c5
          refine lv_aload_n hx hb dX8_settledValue_28 rfl (lv_at hl 0 rfl) ?_
          refine lv_iload_n hx hb dX8_settledValue_29 rfl (lv_at hl 3 rfl) ?_
          refine lv_iconst (v := 2) hx hb dX8_settledValue_30 (by decide) ?_
          obtain ⟨v7, hv7, h⟩ := bO_e h
          refine mw_callVi X (c_X8_of l E hA hv7) pk_X8_of pv_X8_of wm_363 ⟨Nat.le_of_ble_eq_true rfl, Nat.le_of_ble_eq_true rfl⟩ ⟨rfl, rfl⟩ hP hS ix_28 rfl rfl rfl rfl hl.1 (Nat.le_of_ble_eq_true rfl) ⟨Nat.zero_le _, Nat.zero_le _⟩ rfl dX8_settledValue_31 (fun H locs hP hS => ?_)
          refine lv_iload_n hx hb dX8_settledValue_34 rfl (lv_at hl 1 rfl) ?_
          refine lv_icmp_ne (tgt := 62) hx hb dX8_settledValue_35 (by decide) (fun c8 => ?_) (fun c8 => ?_)
          · have h := br_0 h c8
            exact w_L62 _ _ _ _ _ _ h hP hS (lv_sub hl [0, 1, 2, 3] rfl)
          · have h := br_1 h c8
            refine lv_aload_n hx hb dX8_settledValue_38 rfl (lv_at hl 0 rfl) ?_
            refine lv_iload_n hx hb dX8_settledValue_39 rfl (lv_at hl 3 rfl) ?_
            refine lv_aload_n hx hb dX8_settledValue_40 rfl (lv_at hl 0 rfl) ?_
            refine lv_iload_n hx hb dX8_settledValue_41 rfl (lv_at hl 3 rfl) ?_
            refine lv_iconst (v := 1) hx hb dX8_settledValue_42 (by decide) ?_
            obtain ⟨v9, hv9, h⟩ := bO_e h
            refine mw_callVi X (c_X8_of l E hA hv9) pk_X8_of pv_X8_of wm_363 ⟨Nat.le_of_ble_eq_true rfl, Nat.le_of_ble_eq_true rfl⟩ ⟨rfl, rfl⟩ hP hS ix_28 rfl rfl rfl rfl hl.1 (Nat.le_of_ble_eq_true rfl) ⟨Nat.zero_le _, Nat.zero_le _⟩ rfl dX8_settledValue_43 (fun H locs hP hS => ?_)
            obtain ⟨v10, hv10, h⟩ := bO_e h
            refine mw_callVi X (c_X8_nextKind l E hA hv10) pk_X8_nextKind pv_X8_nextKind wm_613 ⟨Nat.le_of_ble_eq_true rfl, Nat.le_of_ble_eq_true rfl⟩ ⟨rfl, rfl⟩ hP hS ix_28 rfl rfl rfl rfl hl.1 (Nat.le_of_ble_eq_true rfl) ⟨Nat.zero_le _, Nat.zero_le _⟩ rfl dX8_settledValue_46 (fun H locs hP hS => ?_)
            refine lv_iconst (v := 2) hx hb dX8_settledValue_49 (by decide) ?_
            refine lv_icmp_ne (tgt := 62) hx hb dX8_settledValue_50 (by decide) (fun c11 => ?_) (fun c11 => ?_)
            · have h := br_0 h c11
              exact w_L62 _ _ _ _ _ _ h hP hS (lv_sub hl [0, 1, 2, 3] rfl)
            · have h := br_1 h c11
              refine lv_aload_n hx hb dX8_settledValue_53 rfl (lv_at hl 0 rfl) ?_
              refine lv_iload_n hx hb dX8_settledValue_54 rfl (lv_at hl 3 rfl) ?_
              refine lv_iconst (v := 4) hx hb dX8_settledValue_55 (by decide) ?_
              obtain ⟨v12, hv12, h⟩ := bO_e h
              refine mw_callVi X (c_X8_of l E hA hv12) pk_X8_of pv_X8_of wm_363 ⟨Nat.le_of_ble_eq_true rfl, Nat.le_of_ble_eq_true rfl⟩ ⟨rfl, rfl⟩ hP hS ix_28 rfl rfl rfl rfl hl.1 (Nat.le_of_ble_eq_true rfl) ⟨Nat.zero_le _, Nat.zero_le _⟩ rfl dX8_settledValue_56 (fun H locs hP hS => ?_)
              refine lv_goto (tgt := 63) hx hb dX8_settledValue_59 (by decide) ?_
              exact w_L63 _ _ _ _ _ _ h hP hS (lv_sub hl [0, 1, 3] rfl)
  unfold f_X8_settledValue at h
  refine lv_ldc hx hb X.1.2.2.2.1 (X.1.2.2.2.2 _ wm_182) dX8_settledValue_0 ?_
  refine lv_istore_n (lv' := [(2, .int (-1000004 : Int32)), (0, .ref (E.2.2 11 28)), (1, .int a1)]) hx hb dX8_settledValue_2 rfl hl (by decide) rfl (fun ls hl => ?_)
  refine lv_aload_n hx hb dX8_settledValue_3 rfl (lv_at hl 1 rfl) ?_
  refine gt_8_0 X wm_90 hP ix_28 dX8_settledValue_4 ?_
  refine lv_iconst (v := 0) hx hb dX8_settledValue_7 (by decide) ?_
  refine mw_ld X hP ix_29 rfl (v := (M 11 29 0)) (inb_vp (by decide)) rfl dX8_settledValue_8 ?_
  refine lv_topi (fun x1 ex1 => ?_)
  have h := bd_e h ex1
  refine lv_istore_n (lv' := [(3, .int x1), (2, .int (-1000004 : Int32)), (0, .ref (E.2.2 11 28)), (1, .int a1)]) hx hb dX8_settledValue_9 rfl hl (by decide) rfl (fun ls hl => ?_)
  exact w_L10 FU _ _ _ _ _ _ h hP hS (lv_sub hl [2, 3, 1, 0] rfl)
/-! SealedGroupsModel.pageOf -/
noncomputable def f_X8_pageOf_L84  (M : Mem) (y1 y2 : Int32) : Option Int32 :=
bO (f_X8_ofPage M y1 (y2 - (2 : Int32))) (fun v10 =>
some v10)
noncomputable def f_X8_pageOf  (M : Mem) (a1 a2 : Int32) : Option Int32 :=
bO (f_X8_in M a1 (0 : Int32) (7 : Int32)) (fun v1 =>
(if v1 = 0 then
some (-1000001 : Int32)
else
bO (f_X8_in M a2 (0 : Int32) (8 : Int32)) (fun v3 =>
(if v3 = 0 then
some (-1000001 : Int32)
else
(if a2 = (0 : Int32) then
bO (f_X8_value M a1) (fun v6 =>
some v6)
else if a2 = (1 : Int32) then
bO (f_X8_mark M a1) (fun v8 =>
some v8)
else if a2 = (2 : Int32) then
f_X8_pageOf_L84 M a1 a2
else if a2 = (3 : Int32) then
f_X8_pageOf_L84 M a1 a2
else if a2 = (4 : Int32) then
bO (f_X8_ofPage M a1 (2 : Int32)) (fun v13 =>
some v13)
else if a2 = (5 : Int32) then
bO (f_X8_isDirty M a1) (fun v15 =>
(if v15 = 0 then
some (0 : Int32)
else
some (1 : Int32)))
else if a2 = (6 : Int32) then
bO (f_X8_isDirty M a1) (fun v18 =>
(if v18 = 0 then
some (-1000004 : Int32)
else
bO (f_X8_ofPage M a1 (5 : Int32)) (fun v20 =>
some v20)))
else if a2 = (7 : Int32) then
bO (f_X8_holder M a1) (fun v22 =>
some v22)
else 
bO (f_X8_settledValue M a1) (fun v23 =>
some v23))))))
theorem pk_X8_pageOf : Pk "SealedGroupsModel" yX8_pageOf cX8_pageOf 3 (some .int) 2 := ⟨wm_608, wm_5, rfl, by decide +kernel⟩
theorem pv_X8_pageOf : Cond.instanceMethod yX8_pageOf ∈ wsL_law ∧ Cond.selects "SealedGroupsModel" yX8_pageOf yX8_pageOf ∈ wsL_law := ⟨wm_606, wm_607⟩
set_option maxHeartbeats 4000000 in
set_option maxRecDepth 100000 in
theorem c_X8_pageOf (l : Launch) (E : En) (hA : AdOK E) {M : Mem} {a1 a2 : Int32} {r0 : Int32}  (h : f_X8_pageOf M a1 a2 = some r0) : Met l yX8_pageOf (Wm yX8_pageOf cX8_pageOf 3 (some .int)) ({ frames := 3, cells := 0, slots := 0, locals := 69 } : Room) (va_Pc [Value.ref (E.2.2 11 28), Value.int a1, Value.int a2] (Wd E M)) (QI E r0 M) 0 0 (AA E) := by
  refine Met.ofW (cc := cX8_pageOf) (maxL := 3) (ret := (some .int)) (by decide +kernel) rfl ?_
  intro p e s m args below meth c s₁ B hml hv
  obtain ⟨rfl, hP, hK⟩ := hv
  have X : Cx E (AA E) p s m c _ cX8_pageOf 3 RX8 := ⟨⟨B.exec, B.bytes, hml, findClass_of_methodNamed B.named, fun w hw => atoms_spec (ws := Wm yX8_pageOf cX8_pageOf 3 (some .int)) B.pre w (List.mem_cons_of_mem _ hw)⟩, hK, hA, fun _ h => h⟩
  have hx := B.exec
  have hb := B.bytes
  have hr := B.returns
  have hlocks := B.notSynchronized
  clear B hml
  have hS : va_S (AA E) s.heap s.heap [] := va_S.rf
  have hl := lv_entry ([Value.ref (E.2.2 11 28), Value.int a1, Value.int a2]) (n := 3) (Nat.le_of_ble_eq_true rfl)
  rw [lg_entry_eq]
  generalize (lg_sl ([Value.ref (E.2.2 11 28), Value.int a1, Value.int a2]) ++ List.replicate (3 - (lg_sl ([Value.ref (E.2.2 11 28), Value.int a1, Value.int a2])).length) Slot.unset).toArray = ls at hl ⊢
  have hl : lv_has ls 3 [(0, .ref (E.2.2 11 28)), (1, .int a1), (2, .int a2)] := hl
  have w_L84 : ∀  (y1 y2 : Int32) (H : Heap) (locs : List Loc) (ls : Array Slot), f_X8_pageOf_L84 M y1 y2 = some r0 → va_P E.1 vwCl (wl E M) H → va_S (AA E) s.heap H locs → lv_has ls 3 [(0, .ref (E.2.2 11 28)), (1, .int y1), (2, .int y2)] → W p l e (headSpec (Wm yX8_pageOf cX8_pageOf 3 (some .int)) ({ frames := 3, cells := 0, slots := 0, locals := 69 } : Room)).room s m ([Value.ref (E.2.2 11 28), Value.int a1, Value.int a2] : List Value).toArray below meth c H locs 0 0 (MQ below (QI E r0 M) ([Value.ref (E.2.2 11 28), Value.int a1, Value.int a2] : List Value).toArray s 0 0 (AA E)) (F0 m 84 ls []) := by
    intro y1 y2 H locs ls h hP hS hl
    unfold f_X8_pageOf_L84 at h
    refine lv_aload_n hx hb dX8_pageOf_84 rfl (lv_at hl 0 rfl) ?_
    refine lv_iload_n hx hb dX8_pageOf_85 rfl (lv_at hl 1 rfl) ?_
    refine lv_iload_n hx hb dX8_pageOf_86 rfl (lv_at hl 2 rfl) ?_
    refine lv_iconst (v := 2) hx hb dX8_pageOf_87 (by decide) ?_
    refine lv_isub hx hb dX8_pageOf_88 ?_
    obtain ⟨v10, hv10, h⟩ := bO_e h
    refine mw_callVi X (c_X8_ofPage l E hA hv10) pk_X8_ofPage pv_X8_ofPage wm_253 ⟨Nat.le_of_ble_eq_true rfl, Nat.le_of_ble_eq_true rfl⟩ ⟨rfl, rfl⟩ hP hS ix_28 rfl rfl rfl rfl hl.1 (Nat.le_of_ble_eq_true rfl) ⟨Nat.zero_le _, Nat.zero_le _⟩ rfl dX8_pageOf_89 (fun H locs hP hS => ?_)
    exact mw_iret X hr hlocks hP hS (Option.some.inj h) rfl dX8_pageOf_92
  unfold f_X8_pageOf at h
  refine lv_iload_n hx hb dX8_pageOf_0 rfl (lv_at hl 1 rfl) ?_
  refine lv_iconst (v := 0) hx hb dX8_pageOf_1 (by decide) ?_
  refine lv_bipush (v := 7) hx hb dX8_pageOf_2 (by decide) ?_
  obtain ⟨v1, hv1, h⟩ := bO_e h
  refine mw_callSi X (c_X8_in l E hA hv1) pk_X8_in wm_184 wm_183 ⟨Nat.le_of_ble_eq_true rfl, Nat.le_of_ble_eq_true rfl⟩ ⟨rfl, rfl⟩ hP hS rfl hl.1 (Nat.le_of_ble_eq_true rfl) ⟨Nat.zero_le _, Nat.zero_le _⟩ rfl dX8_pageOf_4 (fun H locs hP hS => ?_)
  refine lv_if_eq (tgt := 20) hx hb dX8_pageOf_7 (by decide) (fun c2 => ?_) (fun c2 => ?_)
  · have h := br_1 h c2
    refine lv_ldc hx hb X.1.2.2.2.1 (X.1.2.2.2.2 _ wm_179) dX8_pageOf_20 ?_
    exact mw_iret X hr hlocks hP hS (Option.some.inj h) rfl dX8_pageOf_22
  · have h := br_0 h c2
    refine lv_iload_n hx hb dX8_pageOf_10 rfl (lv_at hl 2 rfl) ?_
    refine lv_iconst (v := 0) hx hb dX8_pageOf_11 (by decide) ?_
    refine lv_bipush (v := 8) hx hb dX8_pageOf_12 (by decide) ?_
    obtain ⟨v3, hv3, h⟩ := bO_e h
    refine mw_callSi X (c_X8_in l E hA hv3) pk_X8_in wm_184 wm_183 ⟨Nat.le_of_ble_eq_true rfl, Nat.le_of_ble_eq_true rfl⟩ ⟨rfl, rfl⟩ hP hS rfl hl.1 (Nat.le_of_ble_eq_true rfl) ⟨Nat.zero_le _, Nat.zero_le _⟩ rfl dX8_pageOf_14 (fun H locs hP hS => ?_)
    refine lv_if_ne (tgt := 23) hx hb dX8_pageOf_17 (by decide) (fun c4 => ?_) (fun c4 => ?_)
    · have h := br_0 h c4
      refine lv_iload_n hx hb dX8_pageOf_23 rfl (lv_at hl 2 rfl) ?_
      by_cases c5 : a2 = (0 : Int32)
      · have h := br_1 h c5
        refine lv_tableIn (tgt := 72) hx hb dX8_pageOf_24 (by rw [c5] <;> decide) (by rw [c5] <;> decide) (by rw [c5] <;> rfl) (by decide) ?_
        refine lv_aload_n hx hb dX8_pageOf_72 rfl (lv_at hl 0 rfl) ?_
        refine lv_iload_n hx hb dX8_pageOf_73 rfl (lv_at hl 1 rfl) ?_
        obtain ⟨v6, hv6, h⟩ := bO_e h
        refine mw_callVi X (c_X8_value l E hA hv6) pk_X8_value pv_X8_value wm_249 ⟨Nat.le_of_ble_eq_true rfl, Nat.le_of_ble_eq_true rfl⟩ ⟨rfl, rfl⟩ hP hS ix_28 rfl rfl rfl rfl hl.1 (Nat.le_of_ble_eq_true rfl) ⟨Nat.zero_le _, Nat.zero_le _⟩ rfl dX8_pageOf_74 (fun H locs hP hS => ?_)
        exact mw_iret X hr hlocks hP hS (Option.some.inj h) rfl dX8_pageOf_77
      have h := br_0 h c5
      by_cases c7 : a2 = (1 : Int32)
      · have h := br_1 h c7
        refine lv_tableIn (tgt := 78) hx hb dX8_pageOf_24 (by rw [c7] <;> decide) (by rw [c7] <;> decide) (by rw [c7] <;> rfl) (by decide) ?_
        refine lv_aload_n hx hb dX8_pageOf_78 rfl (lv_at hl 0 rfl) ?_
        refine lv_iload_n hx hb dX8_pageOf_79 rfl (lv_at hl 1 rfl) ?_
        obtain ⟨v8, hv8, h⟩ := bO_e h
        refine mw_callVi X (c_X8_mark l E hA hv8) pk_X8_mark pv_X8_mark wm_265 ⟨Nat.le_of_ble_eq_true rfl, Nat.le_of_ble_eq_true rfl⟩ ⟨rfl, rfl⟩ hP hS ix_28 rfl rfl rfl rfl hl.1 (Nat.le_of_ble_eq_true rfl) ⟨Nat.zero_le _, Nat.zero_le _⟩ rfl dX8_pageOf_80 (fun H locs hP hS => ?_)
        exact mw_iret X hr hlocks hP hS (Option.some.inj h) rfl dX8_pageOf_83
      have h := br_0 h c7
      by_cases c9 : a2 = (2 : Int32)
      · have h := br_1 h c9
        refine lv_tableIn (tgt := 84) hx hb dX8_pageOf_24 (by rw [c9] <;> decide) (by rw [c9] <;> decide) (by rw [c9] <;> rfl) (by decide) ?_
        exact w_L84 _ _ _ _ _ h hP hS (lv_sub hl [0, 1, 2] rfl)
      have h := br_0 h c9
      by_cases c11 : a2 = (3 : Int32)
      · have h := br_1 h c11
        refine lv_tableIn (tgt := 84) hx hb dX8_pageOf_24 (by rw [c11] <;> decide) (by rw [c11] <;> decide) (by rw [c11] <;> rfl) (by decide) ?_
        exact w_L84 _ _ _ _ _ h hP hS (lv_sub hl [0, 1, 2] rfl)
      have h := br_0 h c11
      by_cases c12 : a2 = (4 : Int32)
      · have h := br_1 h c12
        refine lv_tableIn (tgt := 93) hx hb dX8_pageOf_24 (by rw [c12] <;> decide) (by rw [c12] <;> decide) (by rw [c12] <;> rfl) (by decide) ?_
        refine lv_aload_n hx hb dX8_pageOf_93 rfl (lv_at hl 0 rfl) ?_
        refine lv_iload_n hx hb dX8_pageOf_94 rfl (lv_at hl 1 rfl) ?_
        refine lv_iconst (v := 2) hx hb dX8_pageOf_95 (by decide) ?_
        obtain ⟨v13, hv13, h⟩ := bO_e h
        refine mw_callVi X (c_X8_ofPage l E hA hv13) pk_X8_ofPage pv_X8_ofPage wm_253 ⟨Nat.le_of_ble_eq_true rfl, Nat.le_of_ble_eq_true rfl⟩ ⟨rfl, rfl⟩ hP hS ix_28 rfl rfl rfl rfl hl.1 (Nat.le_of_ble_eq_true rfl) ⟨Nat.zero_le _, Nat.zero_le _⟩ rfl dX8_pageOf_96 (fun H locs hP hS => ?_)
        exact mw_iret X hr hlocks hP hS (Option.some.inj h) rfl dX8_pageOf_99
      have h := br_0 h c12
      by_cases c14 : a2 = (5 : Int32)
      · have h := br_1 h c14
        refine lv_tableIn (tgt := 100) hx hb dX8_pageOf_24 (by rw [c14] <;> decide) (by rw [c14] <;> decide) (by rw [c14] <;> rfl) (by decide) ?_
        refine lv_aload_n hx hb dX8_pageOf_100 rfl (lv_at hl 0 rfl) ?_
        refine lv_iload_n hx hb dX8_pageOf_101 rfl (lv_at hl 1 rfl) ?_
        obtain ⟨v15, hv15, h⟩ := bO_e h
        refine mw_callVi X (c_X8_isDirty l E hA hv15) pk_X8_isDirty pv_X8_isDirty wm_261 ⟨Nat.le_of_ble_eq_true rfl, Nat.le_of_ble_eq_true rfl⟩ ⟨rfl, rfl⟩ hP hS ix_28 rfl rfl rfl rfl hl.1 (Nat.le_of_ble_eq_true rfl) ⟨Nat.zero_le _, Nat.zero_le _⟩ rfl dX8_pageOf_102 (fun H locs hP hS => ?_)
        refine lv_if_eq (tgt := 112) hx hb dX8_pageOf_105 (by decide) (fun c16 => ?_) (fun c16 => ?_)
        · have h := br_1 h c16
          refine lv_iconst (v := 0) hx hb dX8_pageOf_112 (by decide) ?_
          exact mw_iret X hr hlocks hP hS (Option.some.inj h) rfl dX8_pageOf_113
        · have h := br_0 h c16
          refine lv_iconst (v := 1) hx hb dX8_pageOf_108 (by decide) ?_
          refine lv_goto (tgt := 113) hx hb dX8_pageOf_109 (by decide) ?_
          exact mw_iret X hr hlocks hP hS (Option.some.inj h) rfl dX8_pageOf_113
      have h := br_0 h c14
      by_cases c17 : a2 = (6 : Int32)
      · have h := br_1 h c17
        refine lv_tableIn (tgt := 114) hx hb dX8_pageOf_24 (by rw [c17] <;> decide) (by rw [c17] <;> decide) (by rw [c17] <;> rfl) (by decide) ?_
        refine lv_aload_n hx hb dX8_pageOf_114 rfl (lv_at hl 0 rfl) ?_
        refine lv_iload_n hx hb dX8_pageOf_115 rfl (lv_at hl 1 rfl) ?_
        obtain ⟨v18, hv18, h⟩ := bO_e h
        refine mw_callVi X (c_X8_isDirty l E hA hv18) pk_X8_isDirty pv_X8_isDirty wm_261 ⟨Nat.le_of_ble_eq_true rfl, Nat.le_of_ble_eq_true rfl⟩ ⟨rfl, rfl⟩ hP hS ix_28 rfl rfl rfl rfl hl.1 (Nat.le_of_ble_eq_true rfl) ⟨Nat.zero_le _, Nat.zero_le _⟩ rfl dX8_pageOf_116 (fun H locs hP hS => ?_)
        refine lv_if_eq (tgt := 131) hx hb dX8_pageOf_119 (by decide) (fun c19 => ?_) (fun c19 => ?_)
        · have h := br_1 h c19
          refine lv_ldc hx hb X.1.2.2.2.1 (X.1.2.2.2.2 _ wm_182) dX8_pageOf_131 ?_
          exact mw_iret X hr hlocks hP hS (Option.some.inj h) rfl dX8_pageOf_133
        · have h := br_0 h c19
          refine lv_aload_n hx hb dX8_pageOf_122 rfl (lv_at hl 0 rfl) ?_
          refine lv_iload_n hx hb dX8_pageOf_123 rfl (lv_at hl 1 rfl) ?_
          refine lv_iconst (v := 5) hx hb dX8_pageOf_124 (by decide) ?_
          obtain ⟨v20, hv20, h⟩ := bO_e h
          refine mw_callVi X (c_X8_ofPage l E hA hv20) pk_X8_ofPage pv_X8_ofPage wm_253 ⟨Nat.le_of_ble_eq_true rfl, Nat.le_of_ble_eq_true rfl⟩ ⟨rfl, rfl⟩ hP hS ix_28 rfl rfl rfl rfl hl.1 (Nat.le_of_ble_eq_true rfl) ⟨Nat.zero_le _, Nat.zero_le _⟩ rfl dX8_pageOf_125 (fun H locs hP hS => ?_)
          refine lv_goto (tgt := 133) hx hb dX8_pageOf_128 (by decide) ?_
          exact mw_iret X hr hlocks hP hS (Option.some.inj h) rfl dX8_pageOf_133
      have h := br_0 h c17
      by_cases c21 : a2 = (7 : Int32)
      · have h := br_1 h c21
        refine lv_tableIn (tgt := 134) hx hb dX8_pageOf_24 (by rw [c21] <;> decide) (by rw [c21] <;> decide) (by rw [c21] <;> rfl) (by decide) ?_
        refine lv_aload_n hx hb dX8_pageOf_134 rfl (lv_at hl 0 rfl) ?_
        refine lv_iload_n hx hb dX8_pageOf_135 rfl (lv_at hl 1 rfl) ?_
        obtain ⟨v22, hv22, h⟩ := bO_e h
        refine mw_callVi X (c_X8_holder l E hA hv22) pk_X8_holder pv_X8_holder wm_245 ⟨Nat.le_of_ble_eq_true rfl, Nat.le_of_ble_eq_true rfl⟩ ⟨rfl, rfl⟩ hP hS ix_28 rfl rfl rfl rfl hl.1 (Nat.le_of_ble_eq_true rfl) ⟨Nat.zero_le _, Nat.zero_le _⟩ rfl dX8_pageOf_136 (fun H locs hP hS => ?_)
        exact mw_iret X hr hlocks hP hS (Option.some.inj h) rfl dX8_pageOf_139
      have h := br_0 h c21
      have qc5 := sw_ne c5 (v := 0) rfl
      have qc7 := sw_ne c7 (v := 1) rfl
      have qc9 := sw_ne c9 (v := 2) rfl
      have qc11 := sw_ne c11 (v := 3) rfl
      have qc12 := sw_ne c12 (v := 4) rfl
      have qc14 := sw_ne c14 (v := 5) rfl
      have qc17 := sw_ne c17 (v := 6) rfl
      have qc21 := sw_ne c21 (v := 7) rfl
      refine lv_tableOut (tgt := 140) hx hb dX8_pageOf_24 (by omega) (by decide) ?_
      refine lv_aload_n hx hb dX8_pageOf_140 rfl (lv_at hl 0 rfl) ?_
      refine lv_iload_n hx hb dX8_pageOf_141 rfl (lv_at hl 1 rfl) ?_
      obtain ⟨v23, hv23, h⟩ := bO_e h
      refine mw_callVi X (c_X8_settledValue l E hA hv23) pk_X8_settledValue pv_X8_settledValue wm_609 ⟨Nat.le_of_ble_eq_true rfl, Nat.le_of_ble_eq_true rfl⟩ ⟨rfl, rfl⟩ hP hS ix_28 rfl rfl rfl rfl hl.1 (Nat.le_of_ble_eq_true rfl) ⟨Nat.zero_le _, Nat.zero_le _⟩ rfl dX8_pageOf_142 (fun H locs hP hS => ?_)
      exact mw_iret X hr hlocks hP hS (Option.some.inj h) rfl dX8_pageOf_145
    · have h := br_1 h c4
      refine lv_ldc hx hb X.1.2.2.2.1 (X.1.2.2.2.2 _ wm_179) dX8_pageOf_20 ?_
      exact mw_iret X hr hlocks hP hS (Option.some.inj h) rfl dX8_pageOf_22
/-! SealedGroupsModel.recordOf -/
noncomputable def f_X8_recordOf_L84  (M : Mem) (y1 y2 y3 : Int32) : Option Int32 :=
(if y3 = (5 : Int32) then
bO (f_X8_of M y1 (((6 : Int32) + y2) - (6 : Int32))) (fun v11 =>
some v11)
else
some (-1000004 : Int32))
noncomputable def f_X8_recordOf  (M : Mem) (a1 a2 : Int32) : Option Int32 :=
(if a1 < (1 : Int32) then
some (-1000001 : Int32)
else
bO (f_X8_in M a2 (0 : Int32) (8 : Int32)) (fun v2 =>
(if v2 = 0 then
some (-1000001 : Int32)
else
bO (f_X8_isRecord M a1) (fun v4 =>
(if v4 = 0 then
some (-1000004 : Int32)
else
bO (f_X8_of M a1 (0 : Int32)) (fun v6 =>
(if a2 = (5 : Int32) then
(if (M 11 29 2) < a1 then
some (0 : Int32)
else
some (1 : Int32))
else if a2 = (6 : Int32) then
f_X8_recordOf_L84 M a1 a2 v6
else if a2 = (7 : Int32) then
f_X8_recordOf_L84 M a1 a2 v6
else if a2 = (8 : Int32) then
bO (f_X8_of M a1 (5 : Int32)) (fun v14 =>
some v14)
else 
bO (f_X8_of M a1 a2) (fun v15 =>
some v15))))))))
theorem pk_X8_recordOf : Pk "SealedGroupsModel" yX8_recordOf cX8_recordOf 4 (some .int) 2 := ⟨wm_628, wm_5, rfl, by decide +kernel⟩
theorem pv_X8_recordOf : Cond.instanceMethod yX8_recordOf ∈ wsL_law ∧ Cond.selects "SealedGroupsModel" yX8_recordOf yX8_recordOf ∈ wsL_law := ⟨wm_626, wm_627⟩
set_option maxHeartbeats 4000000 in
set_option maxRecDepth 100000 in
theorem c_X8_recordOf (l : Launch) (E : En) (hA : AdOK E) {M : Mem} {a1 a2 : Int32} {r0 : Int32}  (h : f_X8_recordOf M a1 a2 = some r0) : Met l yX8_recordOf (Wm yX8_recordOf cX8_recordOf 4 (some .int)) ({ frames := 2, cells := 0, slots := 0, locals := 41 } : Room) (va_Pc [Value.ref (E.2.2 11 28), Value.int a1, Value.int a2] (Wd E M)) (QI E r0 M) 0 0 (AA E) := by
  refine Met.ofW (cc := cX8_recordOf) (maxL := 4) (ret := (some .int)) (by decide +kernel) rfl ?_
  intro p e s m args below meth c s₁ B hml hv
  obtain ⟨rfl, hP, hK⟩ := hv
  have X : Cx E (AA E) p s m c _ cX8_recordOf 4 RX8 := ⟨⟨B.exec, B.bytes, hml, findClass_of_methodNamed B.named, fun w hw => atoms_spec (ws := Wm yX8_recordOf cX8_recordOf 4 (some .int)) B.pre w (List.mem_cons_of_mem _ hw)⟩, hK, hA, fun _ h => h⟩
  have hx := B.exec
  have hb := B.bytes
  have hr := B.returns
  have hlocks := B.notSynchronized
  clear B hml
  have hS : va_S (AA E) s.heap s.heap [] := va_S.rf
  have hl := lv_entry ([Value.ref (E.2.2 11 28), Value.int a1, Value.int a2]) (n := 4) (Nat.le_of_ble_eq_true rfl)
  rw [lg_entry_eq]
  generalize (lg_sl ([Value.ref (E.2.2 11 28), Value.int a1, Value.int a2]) ++ List.replicate (4 - (lg_sl ([Value.ref (E.2.2 11 28), Value.int a1, Value.int a2])).length) Slot.unset).toArray = ls at hl ⊢
  have hl : lv_has ls 4 [(0, .ref (E.2.2 11 28)), (1, .int a1), (2, .int a2)] := hl
  have w_L84 : ∀  (y1 y2 y3 : Int32) (H : Heap) (locs : List Loc) (ls : Array Slot), f_X8_recordOf_L84 M y1 y2 y3 = some r0 → va_P E.1 vwCl (wl E M) H → va_S (AA E) s.heap H locs → lv_has ls 4 [(0, .ref (E.2.2 11 28)), (1, .int y1), (2, .int y2), (3, .int y3)] → W p l e (headSpec (Wm yX8_recordOf cX8_recordOf 4 (some .int)) ({ frames := 2, cells := 0, slots := 0, locals := 41 } : Room)).room s m ([Value.ref (E.2.2 11 28), Value.int a1, Value.int a2] : List Value).toArray below meth c H locs 0 0 (MQ below (QI E r0 M) ([Value.ref (E.2.2 11 28), Value.int a1, Value.int a2] : List Value).toArray s 0 0 (AA E)) (F0 m 84 ls []) := by
    intro y1 y2 y3 H locs ls h hP hS hl
    unfold f_X8_recordOf_L84 at h
    refine lv_iload_n hx hb dX8_recordOf_84 rfl (lv_at hl 3 rfl) ?_
    refine lv_iconst (v := 5) hx hb dX8_recordOf_85 (by decide) ?_
    refine lv_icmp_ne (tgt := 104) hx hb dX8_recordOf_86 (by decide) (fun c10 => ?_) (fun c10 => ?_)
    · have h := br_0 h c10
      refine lv_ldc hx hb X.1.2.2.2.1 (X.1.2.2.2.2 _ wm_182) dX8_recordOf_104 ?_
      exact mw_iret X hr hlocks hP hS (Option.some.inj h) rfl dX8_recordOf_106
    · have h := br_1 h c10
      refine lv_aload_n hx hb dX8_recordOf_89 rfl (lv_at hl 0 rfl) ?_
      refine lv_iload_n hx hb dX8_recordOf_90 rfl (lv_at hl 1 rfl) ?_
      refine lv_bipush (v := 6) hx hb dX8_recordOf_91 (by decide) ?_
      refine lv_iload_n hx hb dX8_recordOf_93 rfl (lv_at hl 2 rfl) ?_
      refine lv_iadd hx hb dX8_recordOf_94 ?_
      refine lv_bipush (v := 6) hx hb dX8_recordOf_95 (by decide) ?_
      refine lv_isub hx hb dX8_recordOf_97 ?_
      obtain ⟨v11, hv11, h⟩ := bO_e h
      refine mw_callVi X (c_X8_of l E hA hv11) pk_X8_of pv_X8_of wm_363 ⟨Nat.le_of_ble_eq_true rfl, Nat.le_of_ble_eq_true rfl⟩ ⟨rfl, rfl⟩ hP hS ix_28 rfl rfl rfl rfl hl.1 (Nat.le_of_ble_eq_true rfl) ⟨Nat.zero_le _, Nat.zero_le _⟩ rfl dX8_recordOf_98 (fun H locs hP hS => ?_)
      refine lv_goto (tgt := 106) hx hb dX8_recordOf_101 (by decide) ?_
      exact mw_iret X hr hlocks hP hS (Option.some.inj h) rfl dX8_recordOf_106
  unfold f_X8_recordOf at h
  refine lv_iload_n hx hb dX8_recordOf_0 rfl (lv_at hl 1 rfl) ?_
  refine lv_iconst (v := 1) hx hb dX8_recordOf_1 (by decide) ?_
  refine lv_icmp_lt (tgt := 15) hx hb dX8_recordOf_2 (by decide) (fun c1 => ?_) (fun c1 => ?_)
  · have h := br_1 h c1
    refine lv_ldc hx hb X.1.2.2.2.1 (X.1.2.2.2.2 _ wm_179) dX8_recordOf_15 ?_
    exact mw_iret X hr hlocks hP hS (Option.some.inj h) rfl dX8_recordOf_17
  · have h := br_0 h c1
    refine lv_iload_n hx hb dX8_recordOf_5 rfl (lv_at hl 2 rfl) ?_
    refine lv_iconst (v := 0) hx hb dX8_recordOf_6 (by decide) ?_
    refine lv_bipush (v := 8) hx hb dX8_recordOf_7 (by decide) ?_
    obtain ⟨v2, hv2, h⟩ := bO_e h
    refine mw_callSi X (c_X8_in l E hA hv2) pk_X8_in wm_184 wm_183 ⟨Nat.le_of_ble_eq_true rfl, Nat.le_of_ble_eq_true rfl⟩ ⟨rfl, rfl⟩ hP hS rfl hl.1 (Nat.le_of_ble_eq_true rfl) ⟨Nat.zero_le _, Nat.zero_le _⟩ rfl dX8_recordOf_9 (fun H locs hP hS => ?_)
    refine lv_if_ne (tgt := 18) hx hb dX8_recordOf_12 (by decide) (fun c3 => ?_) (fun c3 => ?_)
    · have h := br_0 h c3
      refine lv_aload_n hx hb dX8_recordOf_18 rfl (lv_at hl 0 rfl) ?_
      refine lv_iload_n hx hb dX8_recordOf_19 rfl (lv_at hl 1 rfl) ?_
      obtain ⟨v4, hv4, h⟩ := bO_e h
      refine mw_callVi X (c_X8_isRecord l E hA hv4) pk_X8_isRecord pv_X8_isRecord wm_629 ⟨Nat.le_of_ble_eq_true rfl, Nat.le_of_ble_eq_true rfl⟩ ⟨rfl, rfl⟩ hP hS ix_28 rfl rfl rfl rfl hl.1 (Nat.le_of_ble_eq_true rfl) ⟨Nat.zero_le _, Nat.zero_le _⟩ rfl dX8_recordOf_20 (fun H locs hP hS => ?_)
      refine lv_if_ne (tgt := 29) hx hb dX8_recordOf_23 (by decide) (fun c5 => ?_) (fun c5 => ?_)
      · have h := br_0 h c5
        refine lv_aload_n hx hb dX8_recordOf_29 rfl (lv_at hl 0 rfl) ?_
        refine lv_iload_n hx hb dX8_recordOf_30 rfl (lv_at hl 1 rfl) ?_
        refine lv_iconst (v := 0) hx hb dX8_recordOf_31 (by decide) ?_
        obtain ⟨v6, hv6, h⟩ := bO_e h
        refine mw_callVi X (c_X8_of l E hA hv6) pk_X8_of pv_X8_of wm_363 ⟨Nat.le_of_ble_eq_true rfl, Nat.le_of_ble_eq_true rfl⟩ ⟨rfl, rfl⟩ hP hS ix_28 rfl rfl rfl rfl hl.1 (Nat.le_of_ble_eq_true rfl) ⟨Nat.zero_le _, Nat.zero_le _⟩ rfl dX8_recordOf_32 (fun H locs hP hS => ?_)
        refine lv_istore_n (lv' := [(3, .int v6), (0, .ref (E.2.2 11 28)), (1, .int a1), (2, .int a2)]) hx hb dX8_recordOf_35 rfl hl (by decide) rfl (fun ls hl => ?_)
        refine lv_iload_n hx hb dX8_recordOf_36 rfl (lv_at hl 3 rfl) ?_
        by_cases c7 : a2 = (5 : Int32)
        · have h := br_1 h c7
          refine lv_tableIn (tgt := 68) hx hb dX8_recordOf_37 (by rw [c7] <;> decide) (by rw [c7] <;> decide) (by rw [c7] <;> rfl) (by decide) ?_
          refine lv_iload_n hx hb dX8_recordOf_68 rfl (lv_at hl 2 rfl) ?_
          refine lv_aload_n hx hb dX8_recordOf_69 rfl (lv_at hl 1 rfl) ?_
          refine gt_8_0 X wm_90 hP ix_28 dX8_recordOf_70 ?_
          refine lv_iconst (v := 2) hx hb dX8_recordOf_73 (by decide) ?_
          refine mw_ld X hP ix_29 rfl (v := (M 11 29 2)) (inb_vp (by decide)) rfl dX8_recordOf_74 ?_
          refine lv_icmp_gt (tgt := 82) hx hb dX8_recordOf_75 (by decide) (fun c8 => ?_) (fun c8 => ?_)
          · have h := br_1 h c8
            refine lv_iconst (v := 0) hx hb dX8_recordOf_82 (by decide) ?_
            exact mw_iret X hr hlocks hP hS (Option.some.inj h) rfl dX8_recordOf_83
          · have h := br_0 h c8
            refine lv_iconst (v := 1) hx hb dX8_recordOf_78 (by decide) ?_
            refine lv_goto (tgt := 83) hx hb dX8_recordOf_79 (by decide) ?_
            exact mw_iret X hr hlocks hP hS (Option.some.inj h) rfl dX8_recordOf_83
        have h := br_0 h c7
        by_cases c9 : a2 = (6 : Int32)
        · have h := br_1 h c9
          refine lv_tableIn (tgt := 84) hx hb dX8_recordOf_37 (by rw [c9] <;> decide) (by rw [c9] <;> decide) (by rw [c9] <;> rfl) (by decide) ?_
          exact w_L84 _ _ _ _ _ _ h hP hS (lv_sub hl [1, 2, 3, 0] rfl)
        have h := br_0 h c9
        by_cases c12 : a2 = (7 : Int32)
        · have h := br_1 h c12
          refine lv_tableIn (tgt := 84) hx hb dX8_recordOf_37 (by rw [c12] <;> decide) (by rw [c12] <;> decide) (by rw [c12] <;> rfl) (by decide) ?_
          exact w_L84 _ _ _ _ _ _ h hP hS (lv_sub hl [1, 2, 3, 0] rfl)
        have h := br_0 h c12
        by_cases c13 : a2 = (8 : Int32)
        · have h := br_1 h c13
          refine lv_tableIn (tgt := 107) hx hb dX8_recordOf_37 (by rw [c13] <;> decide) (by rw [c13] <;> decide) (by rw [c13] <;> rfl) (by decide) ?_
          refine lv_aload_n hx hb dX8_recordOf_107 rfl (lv_at hl 1 rfl) ?_
          refine lv_iload_n hx hb dX8_recordOf_108 rfl (lv_at hl 2 rfl) ?_
          refine lv_iconst (v := 5) hx hb dX8_recordOf_109 (by decide) ?_
          obtain ⟨v14, hv14, h⟩ := bO_e h
          refine mw_callVi X (c_X8_of l E hA hv14) pk_X8_of pv_X8_of wm_363 ⟨Nat.le_of_ble_eq_true rfl, Nat.le_of_ble_eq_true rfl⟩ ⟨rfl, rfl⟩ hP hS ix_28 rfl rfl rfl rfl hl.1 (Nat.le_of_ble_eq_true rfl) ⟨Nat.zero_le _, Nat.zero_le _⟩ rfl dX8_recordOf_110 (fun H locs hP hS => ?_)
          exact mw_iret X hr hlocks hP hS (Option.some.inj h) rfl dX8_recordOf_113
        have h := br_0 h c13
        have qc7 := sw_ne c7 (v := 5) rfl
        have qc9 := sw_ne c9 (v := 6) rfl
        have qc12 := sw_ne c12 (v := 7) rfl
        have qc13 := sw_ne c13 (v := 8) rfl
        refine lv_tableOut (tgt := 114) hx hb dX8_recordOf_37 (by omega) (by decide) ?_
        refine lv_aload_n hx hb dX8_recordOf_114 rfl (lv_at hl 1 rfl) ?_
        refine lv_iload_n hx hb dX8_recordOf_115 rfl (lv_at hl 2 rfl) ?_
        refine lv_iload_n hx hb dX8_recordOf_116 rfl (lv_at hl 3 rfl) ?_
        obtain ⟨v15, hv15, h⟩ := bO_e h
        refine mw_callVi X (c_X8_of l E hA hv15) pk_X8_of pv_X8_of wm_363 ⟨Nat.le_of_ble_eq_true rfl, Nat.le_of_ble_eq_true rfl⟩ ⟨rfl, rfl⟩ hP hS ix_28 rfl rfl rfl rfl hl.1 (Nat.le_of_ble_eq_true rfl) ⟨Nat.zero_le _, Nat.zero_le _⟩ rfl dX8_recordOf_117 (fun H locs hP hS => ?_)
        exact mw_iret X hr hlocks hP hS (Option.some.inj h) rfl dX8_recordOf_120
      · have h := br_1 h c5
        refine lv_ldc hx hb X.1.2.2.2.1 (X.1.2.2.2.2 _ wm_182) dX8_recordOf_26 ?_
        exact mw_iret X hr hlocks hP hS (Option.some.inj h) rfl dX8_recordOf_28
    · have h := br_1 h c3
      refine lv_ldc hx hb X.1.2.2.2.1 (X.1.2.2.2.2 _ wm_179) dX8_recordOf_15 ?_
      exact mw_iret X hr hlocks hP hS (Option.some.inj h) rfl dX8_recordOf_17
/-! SealedGroupsModel.groupOf -/
noncomputable def f_X8_groupOf_L38  (M : Mem) (y1 y2 : Int32) : Option Int32 :=
bO (f_X8_ofGroup M y1 y2) (fun v6 =>
some v6)
noncomputable def f_X8_groupOf  (M : Mem) (a1 a2 : Int32) : Option Int32 :=
bO (f_X8_in M a1 (0 : Int32) (3 : Int32)) (fun v1 =>
(if v1 = 0 then
some (-1000001 : Int32)
else
bO (f_X8_in M a2 (0 : Int32) (3 : Int32)) (fun v3 =>
(if v3 = 0 then
some (-1000001 : Int32)
else
(if a2 ≤ 0 then
f_X8_groupOf_L38 M a1 a2
else
bO (f_X8_isOpen M a1) (fun v7 =>
(if v7 = 0 then
some (-1000004 : Int32)
else
f_X8_groupOf_L38 M a1 a2)))))))
theorem pk_X8_groupOf : Pk "SealedGroupsModel" yX8_groupOf cX8_groupOf 3 (some .int) 2 := ⟨wm_648, wm_5, rfl, by decide +kernel⟩
theorem pv_X8_groupOf : Cond.instanceMethod yX8_groupOf ∈ wsL_law ∧ Cond.selects "SealedGroupsModel" yX8_groupOf yX8_groupOf ∈ wsL_law := ⟨wm_646, wm_647⟩
set_option maxHeartbeats 4000000 in
set_option maxRecDepth 100000 in
theorem c_X8_groupOf (l : Launch) (E : En) (hA : AdOK E) {M : Mem} {a1 a2 : Int32} {r0 : Int32}  (h : f_X8_groupOf M a1 a2 = some r0) : Met l yX8_groupOf (Wm yX8_groupOf cX8_groupOf 3 (some .int)) ({ frames := 2, cells := 0, slots := 0, locals := 43 } : Room) (va_Pc [Value.ref (E.2.2 11 28), Value.int a1, Value.int a2] (Wd E M)) (QI E r0 M) 0 0 (AA E) := by
  refine Met.ofW (cc := cX8_groupOf) (maxL := 3) (ret := (some .int)) (by decide +kernel) rfl ?_
  intro p e s m args below meth c s₁ B hml hv
  obtain ⟨rfl, hP, hK⟩ := hv
  have X : Cx E (AA E) p s m c _ cX8_groupOf 3 RX8 := ⟨⟨B.exec, B.bytes, hml, findClass_of_methodNamed B.named, fun w hw => atoms_spec (ws := Wm yX8_groupOf cX8_groupOf 3 (some .int)) B.pre w (List.mem_cons_of_mem _ hw)⟩, hK, hA, fun _ h => h⟩
  have hx := B.exec
  have hb := B.bytes
  have hr := B.returns
  have hlocks := B.notSynchronized
  clear B hml
  have hS : va_S (AA E) s.heap s.heap [] := va_S.rf
  have hl := lv_entry ([Value.ref (E.2.2 11 28), Value.int a1, Value.int a2]) (n := 3) (Nat.le_of_ble_eq_true rfl)
  rw [lg_entry_eq]
  generalize (lg_sl ([Value.ref (E.2.2 11 28), Value.int a1, Value.int a2]) ++ List.replicate (3 - (lg_sl ([Value.ref (E.2.2 11 28), Value.int a1, Value.int a2])).length) Slot.unset).toArray = ls at hl ⊢
  have hl : lv_has ls 3 [(0, .ref (E.2.2 11 28)), (1, .int a1), (2, .int a2)] := hl
  have w_L38 : ∀  (y1 y2 : Int32) (H : Heap) (locs : List Loc) (ls : Array Slot), f_X8_groupOf_L38 M y1 y2 = some r0 → va_P E.1 vwCl (wl E M) H → va_S (AA E) s.heap H locs → lv_has ls 3 [(0, .ref (E.2.2 11 28)), (1, .int y1), (2, .int y2)] → W p l e (headSpec (Wm yX8_groupOf cX8_groupOf 3 (some .int)) ({ frames := 2, cells := 0, slots := 0, locals := 43 } : Room)).room s m ([Value.ref (E.2.2 11 28), Value.int a1, Value.int a2] : List Value).toArray below meth c H locs 0 0 (MQ below (QI E r0 M) ([Value.ref (E.2.2 11 28), Value.int a1, Value.int a2] : List Value).toArray s 0 0 (AA E)) (F0 m 38 ls []) := by
    intro y1 y2 H locs ls h hP hS hl
    unfold f_X8_groupOf_L38 at h
    refine lv_aload_n hx hb dX8_groupOf_38 rfl (lv_at hl 0 rfl) ?_
    refine lv_iload_n hx hb dX8_groupOf_39 rfl (lv_at hl 1 rfl) ?_
    refine lv_iload_n hx hb dX8_groupOf_40 rfl (lv_at hl 2 rfl) ?_
    obtain ⟨v6, hv6, h⟩ := bO_e h
    refine mw_callVi X (c_X8_ofGroup l E hA hv6) pk_X8_ofGroup pv_X8_ofGroup wm_194 ⟨Nat.le_of_ble_eq_true rfl, Nat.le_of_ble_eq_true rfl⟩ ⟨rfl, rfl⟩ hP hS ix_28 rfl rfl rfl rfl hl.1 (Nat.le_of_ble_eq_true rfl) ⟨Nat.zero_le _, Nat.zero_le _⟩ rfl dX8_groupOf_41 (fun H locs hP hS => ?_)
    exact mw_iret X hr hlocks hP hS (Option.some.inj h) rfl dX8_groupOf_44
  unfold f_X8_groupOf at h
  refine lv_iload_n hx hb dX8_groupOf_0 rfl (lv_at hl 1 rfl) ?_
  refine lv_iconst (v := 0) hx hb dX8_groupOf_1 (by decide) ?_
  refine lv_iconst (v := 3) hx hb dX8_groupOf_2 (by decide) ?_
  obtain ⟨v1, hv1, h⟩ := bO_e h
  refine mw_callSi X (c_X8_in l E hA hv1) pk_X8_in wm_184 wm_183 ⟨Nat.le_of_ble_eq_true rfl, Nat.le_of_ble_eq_true rfl⟩ ⟨rfl, rfl⟩ hP hS rfl hl.1 (Nat.le_of_ble_eq_true rfl) ⟨Nat.zero_le _, Nat.zero_le _⟩ rfl dX8_groupOf_3 (fun H locs hP hS => ?_)
  refine lv_if_eq (tgt := 18) hx hb dX8_groupOf_6 (by decide) (fun c2 => ?_) (fun c2 => ?_)
  · have h := br_1 h c2
    refine lv_ldc hx hb X.1.2.2.2.1 (X.1.2.2.2.2 _ wm_179) dX8_groupOf_18 ?_
    exact mw_iret X hr hlocks hP hS (Option.some.inj h) rfl dX8_groupOf_20
  · have h := br_0 h c2
    refine lv_iload_n hx hb dX8_groupOf_9 rfl (lv_at hl 2 rfl) ?_
    refine lv_iconst (v := 0) hx hb dX8_groupOf_10 (by decide) ?_
    refine lv_iconst (v := 3) hx hb dX8_groupOf_11 (by decide) ?_
    obtain ⟨v3, hv3, h⟩ := bO_e h
    refine mw_callSi X (c_X8_in l E hA hv3) pk_X8_in wm_184 wm_183 ⟨Nat.le_of_ble_eq_true rfl, Nat.le_of_ble_eq_true rfl⟩ ⟨rfl, rfl⟩ hP hS rfl hl.1 (Nat.le_of_ble_eq_true rfl) ⟨Nat.zero_le _, Nat.zero_le _⟩ rfl dX8_groupOf_12 (fun H locs hP hS => ?_)
    refine lv_if_ne (tgt := 21) hx hb dX8_groupOf_15 (by decide) (fun c4 => ?_) (fun c4 => ?_)
    · have h := br_0 h c4
      refine lv_iload_n hx hb dX8_groupOf_21 rfl (lv_at hl 2 rfl) ?_
      refine lv_if_le (tgt := 38) hx hb dX8_groupOf_22 (by decide) (fun c5 => ?_) (fun c5 => ?_)
      · have h := br_1 h c5
        exact w_L38 _ _ _ _ _ h hP hS (lv_sub hl [0, 1, 2] rfl)
      · have h := br_0 h c5
        refine lv_aload_n hx hb dX8_groupOf_25 rfl (lv_at hl 0 rfl) ?_
        refine lv_iload_n hx hb dX8_groupOf_26 rfl (lv_at hl 1 rfl) ?_
        obtain ⟨v7, hv7, h⟩ := bO_e h
        refine mw_callVi X (c_X8_isOpen l E hA hv7) pk_X8_isOpen pv_X8_isOpen wm_190 ⟨Nat.le_of_ble_eq_true rfl, Nat.le_of_ble_eq_true rfl⟩ ⟨rfl, rfl⟩ hP hS ix_28 rfl rfl rfl rfl hl.1 (Nat.le_of_ble_eq_true rfl) ⟨Nat.zero_le _, Nat.zero_le _⟩ rfl dX8_groupOf_27 (fun H locs hP hS => ?_)
        refine lv_if_ne (tgt := 38) hx hb dX8_groupOf_30 (by decide) (fun c8 => ?_) (fun c8 => ?_)
        · have h := br_0 h c8
          exact w_L38 _ _ _ _ _ h hP hS (lv_sub hl [0, 1, 2] rfl)
        · have h := br_1 h c8
          refine lv_ldc hx hb X.1.2.2.2.1 (X.1.2.2.2.2 _ wm_182) dX8_groupOf_33 ?_
          refine lv_goto (tgt := 44) hx hb dX8_groupOf_35 (by decide) ?_
          exact mw_iret X hr hlocks hP hS (Option.some.inj h) rfl dX8_groupOf_44
    · have h := br_1 h c4
      refine lv_ldc hx hb X.1.2.2.2.1 (X.1.2.2.2.2 _ wm_179) dX8_groupOf_18 ?_
      exact mw_iret X hr hlocks hP hS (Option.some.inj h) rfl dX8_groupOf_20
/-! SealedGroupsModel.would -/
noncomputable def f_X8_would_L120  (M : Mem) (y2 y3 y5 y6 z0 : Int32) : Option (Int32 × Mem) :=
bO (f_X8_copies 32 29 M) (fun M18 =>
(if y2 = 0 then
some (y3, M18)
else
(if y2 = (1 : Int32) then
some (y6, M18)
else
(if y2 = (2 : Int32) then
some ((M18 11 28 10), M18)
else
(if y2 = (3 : Int32) then
some ((M18 11 28 9), M18)
else
(if y2 = (4 : Int32) then
some (y5, M18)
else
some (z0, M18)))))))
noncomputable def f_X8_would_L95  (M : Mem) (y2 y3 z0 : Int32) : Option (Int32 × Mem) :=
bP (f_X8_restarts M) (fun v14 M15 =>
(if y2 ≤ (4 : Int32) then
f_X8_would_L120 M15 y2 y3 z0 v14 (0 : Int32)
else
bO (f_X8_value M15 (y2 - (10 : Int32))) (fun v24 =>
f_X8_would_L120 M15 y2 y3 z0 v14 v24)))
noncomputable def f_X8_would_L32  (M : Mem) (y1 y2 : Int32) : Option (Int32 × Mem) :=
bO (f_X8_isStopped M) (fun v5 =>
(if v5 = 0 then
bO (f_X8_copies 29 32 M) (fun M8 =>
bP (f_X8_stops M8 y1) (fun v9 M10 =>
bO (f_X8_latest M10) (fun v11 =>
(if (M10 11 29 1) = 0 then
f_X8_would_L95 M10 y2 v9 (-1000004 : Int32)
else
(if v11 = 0 then
f_X8_would_L95 M10 y2 v9 (M10 11 29 0)
else
f_X8_would_L95 M10 y2 v9 v11)))))
else
some ((-1000002 : Int32), M)))
noncomputable def f_X8_would  (M : Mem) (a1 a2 : Int32) : Option (Int32 × Mem) :=
bO (f_X8_in M a1 (0 : Int32) (1 : Int32)) (fun v1 =>
(if v1 = 0 then
some ((-1000001 : Int32), M)
else
bO (f_X8_in M a2 (0 : Int32) (4 : Int32)) (fun v3 =>
(if v3 = 0 then
bO (f_X8_in M a2 (10 : Int32) (17 : Int32)) (fun v25 =>
(if v25 = 0 then
some ((-1000001 : Int32), M)
else
f_X8_would_L32 M a1 a2))
else
f_X8_would_L32 M a1 a2))))
theorem pk_X8_would : Pk "SealedGroupsModel" yX8_would cX8_would 8 (some .int) 2 := ⟨wm_664, wm_5, rfl, by decide +kernel⟩
theorem pv_X8_would : Cond.instanceMethod yX8_would ∈ wsL_law ∧ Cond.selects "SealedGroupsModel" yX8_would yX8_would ∈ wsL_law := ⟨wm_662, wm_663⟩
set_option maxHeartbeats 4000000 in
set_option maxRecDepth 100000 in
theorem c_X8_would (l : Launch) (E : En) (hA : AdOK E) {M : Mem} {a1 a2 : Int32} {r0 : Int32} {M0 : Mem}  (h : f_X8_would M a1 a2 = some (r0, M0)) : Met l yX8_would (Wm yX8_would cX8_would 8 (some .int)) ({ frames := 6, cells := 0, slots := 0, locals := 138 } : Room) (va_Pc [Value.ref (E.2.2 11 28), Value.int a1, Value.int a2] (Wd E M)) (QI E r0 M0) 0 0 (AA E) := by
  refine Met.ofW (cc := cX8_would) (maxL := 8) (ret := (some .int)) (by decide +kernel) rfl ?_
  intro p e s m args below meth c s₁ B hml hv
  obtain ⟨rfl, hP, hK⟩ := hv
  have X : Cx E (AA E) p s m c _ cX8_would 8 RX8 := ⟨⟨B.exec, B.bytes, hml, findClass_of_methodNamed B.named, fun w hw => atoms_spec (ws := Wm yX8_would cX8_would 8 (some .int)) B.pre w (List.mem_cons_of_mem _ hw)⟩, hK, hA, fun _ h => h⟩
  have hx := B.exec
  have hb := B.bytes
  have hr := B.returns
  have hlocks := B.notSynchronized
  clear B hml
  have hS : va_S (AA E) s.heap s.heap [] := va_S.rf
  have hl := lv_entry ([Value.ref (E.2.2 11 28), Value.int a1, Value.int a2]) (n := 8) (Nat.le_of_ble_eq_true rfl)
  rw [lg_entry_eq]
  generalize (lg_sl ([Value.ref (E.2.2 11 28), Value.int a1, Value.int a2]) ++ List.replicate (8 - (lg_sl ([Value.ref (E.2.2 11 28), Value.int a1, Value.int a2])).length) Slot.unset).toArray = ls at hl ⊢
  have hl : lv_has ls 8 [(0, .ref (E.2.2 11 28)), (1, .int a1), (2, .int a2)] := hl
  have w_L120 : ∀ (M : Mem) (y2 y3 y5 y6 z0 : Int32) (H : Heap) (locs : List Loc) (ls : Array Slot), f_X8_would_L120  M y2 y3 y5 y6 z0 = some (r0, M0) → va_P E.1 vwCl (wl E M) H → va_S (AA E) s.heap H locs → lv_has ls 8 [(0, .ref (E.2.2 11 28)), (2, .int y2), (3, .int y3), (5, .int y5), (6, .int y6)] → W p l e (headSpec (Wm yX8_would cX8_would 8 (some .int)) ({ frames := 6, cells := 0, slots := 0, locals := 138 } : Room)).room s m ([Value.ref (E.2.2 11 28), Value.int a1, Value.int a2] : List Value).toArray below meth c H locs 0 0 (MQ below (QI E r0 M0) ([Value.ref (E.2.2 11 28), Value.int a1, Value.int a2] : List Value).toArray s 0 0 (AA E)) (F0 m 120 ls [.int z0]) := by
    intro M y2 y3 y5 y6 z0 H locs ls h hP hS hl
    unfold f_X8_would_L120 at h
    refine lv_istore (lv' := [(7, .int z0), (0, .ref (E.2.2 11 28)), (2, .int y2), (3, .int y3), (5, .int y5), (6, .int y6)]) hx hb dX8_would_120 hl (by decide) rfl (fun ls hl => ?_)
    refine lv_aload_n hx hb dX8_would_122 rfl (lv_at hl 1 rfl) ?_
    refine gt_8_3 X wm_93 hP ix_28 dX8_would_123 ?_
    refine lv_aload_n hx hb dX8_would_126 rfl (lv_at hl 1 rfl) ?_
    refine gt_8_0 X wm_90 hP ix_28 dX8_would_127 ?_
    obtain ⟨M18, hv17, h⟩ := bO_e h
    refine mw_callSv X (c_X8_copies l E hA (by decide) (by decide) hv17) pk_X8_copies wm_666 wm_665 ⟨Nat.le_of_ble_eq_true rfl, Nat.le_of_ble_eq_true rfl⟩ ⟨rfl, rfl⟩ hP hS rfl hl.1 (Nat.le_of_ble_eq_true rfl) ⟨Nat.zero_le _, Nat.zero_le _⟩ rfl dX8_would_130 (fun H locs hP hS => ?_)
    refine lv_iload_n hx hb dX8_would_133 rfl (lv_at hl 2 rfl) ?_
    refine lv_if_ne (tgt := 141) hx hb dX8_would_134 (by decide) (fun c19 => ?_) (fun c19 => ?_)
    · have h := br_0 h c19
      refine lv_iload_n hx hb dX8_would_141 rfl (lv_at hl 2 rfl) ?_
      refine lv_iconst (v := 1) hx hb dX8_would_142 (by decide) ?_
      refine lv_icmp_ne (tgt := 151) hx hb dX8_would_143 (by decide) (fun c20 => ?_) (fun c20 => ?_)
      · have h := br_0 h c20
        refine lv_iload_n hx hb dX8_would_151 rfl (lv_at hl 2 rfl) ?_
        refine lv_iconst (v := 2) hx hb dX8_would_152 (by decide) ?_
        refine lv_icmp_ne (tgt := 163) hx hb dX8_would_153 (by decide) (fun c21 => ?_) (fun c21 => ?_)
        · have h := br_0 h c21
          refine lv_iload_n hx hb dX8_would_163 rfl (lv_at hl 2 rfl) ?_
          refine lv_iconst (v := 3) hx hb dX8_would_164 (by decide) ?_
          refine lv_icmp_ne (tgt := 175) hx hb dX8_would_165 (by decide) (fun c22 => ?_) (fun c22 => ?_)
          · have h := br_0 h c22
            refine lv_iload_n hx hb dX8_would_175 rfl (lv_at hl 2 rfl) ?_
            refine lv_iconst (v := 4) hx hb dX8_would_176 (by decide) ?_
            refine lv_icmp_ne (tgt := 185) hx hb dX8_would_177 (by decide) (fun c23 => ?_) (fun c23 => ?_)
            · have h := br_0 h c23
              refine lv_iload hx hb dX8_would_185 (lv_at hl 0 rfl) ?_
              have h := Option.some.inj h
              exact mw_iret X hr hlocks hP hS (congrArg Prod.fst h) (congrArg Prod.snd h) dX8_would_187
            · have h := br_1 h c23
              refine lv_iload hx hb dX8_would_180 (lv_at hl 4 rfl) ?_
              refine lv_goto (tgt := 187) hx hb dX8_would_182 (by decide) ?_
              have h := Option.some.inj h
              exact mw_iret X hr hlocks hP hS (congrArg Prod.fst h) (congrArg Prod.snd h) dX8_would_187
          · have h := br_1 h c22
            refine lv_aload_n hx hb dX8_would_168 rfl (lv_at hl 1 rfl) ?_
            refine gt_8_9 X wm_577 hP ix_28 dX8_would_169 ?_
            refine lv_goto (tgt := 187) hx hb dX8_would_172 (by decide) ?_
            have h := Option.some.inj h
            exact mw_iret X hr hlocks hP hS (congrArg Prod.fst h) (congrArg Prod.snd h) dX8_would_187
        · have h := br_1 h c21
          refine lv_aload_n hx hb dX8_would_156 rfl (lv_at hl 1 rfl) ?_
          refine gt_8_10 X wm_578 hP ix_28 dX8_would_157 ?_
          refine lv_goto (tgt := 187) hx hb dX8_would_160 (by decide) ?_
          have h := Option.some.inj h
          exact mw_iret X hr hlocks hP hS (congrArg Prod.fst h) (congrArg Prod.snd h) dX8_would_187
      · have h := br_1 h c20
        refine lv_iload hx hb dX8_would_146 (lv_at hl 5 rfl) ?_
        refine lv_goto (tgt := 187) hx hb dX8_would_148 (by decide) ?_
        have h := Option.some.inj h
        exact mw_iret X hr hlocks hP hS (congrArg Prod.fst h) (congrArg Prod.snd h) dX8_would_187
    · have h := br_1 h c19
      refine lv_iload_n hx hb dX8_would_137 rfl (lv_at hl 3 rfl) ?_
      refine lv_goto (tgt := 187) hx hb dX8_would_138 (by decide) ?_
      have h := Option.some.inj h
      exact mw_iret X hr hlocks hP hS (congrArg Prod.fst h) (congrArg Prod.snd h) dX8_would_187
  have w_L95 : ∀ (M : Mem) (y2 y3 z0 : Int32) (H : Heap) (locs : List Loc) (ls : Array Slot), f_X8_would_L95  M y2 y3 z0 = some (r0, M0) → va_P E.1 vwCl (wl E M) H → va_S (AA E) s.heap H locs → lv_has ls 8 [(0, .ref (E.2.2 11 28)), (2, .int y2), (3, .int y3)] → W p l e (headSpec (Wm yX8_would cX8_would 8 (some .int)) ({ frames := 6, cells := 0, slots := 0, locals := 138 } : Room)).room s m ([Value.ref (E.2.2 11 28), Value.int a1, Value.int a2] : List Value).toArray below meth c H locs 0 0 (MQ below (QI E r0 M0) ([Value.ref (E.2.2 11 28), Value.int a1, Value.int a2] : List Value).toArray s 0 0 (AA E)) (F0 m 95 ls [.int z0]) := by
    intro M y2 y3 z0 H locs ls h hP hS hl
    unfold f_X8_would_L95 at h
    refine lv_istore (lv' := [(5, .int z0), (0, .ref (E.2.2 11 28)), (2, .int y2), (3, .int y3)]) hx hb dX8_would_95 hl (by decide) rfl (fun ls hl => ?_)
    refine lv_aload_n hx hb dX8_would_97 rfl (lv_at hl 1 rfl) ?_
    obtain ⟨v14, M15, hv14, h⟩ := bP_e h
    refine mw_callVi X (c_X8_restarts l E hA hv14) pk_X8_restarts pv_X8_restarts wm_573 ⟨Nat.le_of_ble_eq_true rfl, Nat.le_of_ble_eq_true rfl⟩ ⟨rfl, rfl⟩ hP hS ix_28 rfl rfl rfl rfl hl.1 (Nat.le_of_ble_eq_true rfl) ⟨Nat.zero_le _, Nat.zero_le _⟩ rfl dX8_would_98 (fun H locs hP hS => ?_)
    refine lv_istore (lv' := [(6, .int v14), (5, .int z0), (0, .ref (E.2.2 11 28)), (2, .int y2), (3, .int y3)]) hx hb dX8_would_101 hl (by decide) rfl (fun ls hl => ?_)
    refine lv_iload_n hx hb dX8_would_103 rfl (lv_at hl 3 rfl) ?_
    refine lv_iconst (v := 4) hx hb dX8_would_104 (by decide) ?_
    refine lv_icmp_le (tgt := 119) hx hb dX8_would_105 (by decide) (fun c16 => ?_) (fun c16 => ?_)
    · have h := br_1 h c16
      refine lv_iconst (v := 0) hx hb dX8_would_119 (by decide) ?_
      exact w_L120 _ _ _ _ _ _ _ _ _ h hP hS (lv_sub hl [2, 3, 4, 1, 0] rfl)
    · have h := br_0 h c16
      refine lv_aload_n hx hb dX8_would_108 rfl (lv_at hl 2 rfl) ?_
      refine lv_iload_n hx hb dX8_would_109 rfl (lv_at hl 3 rfl) ?_
      refine lv_bipush (v := 10) hx hb dX8_would_110 (by decide) ?_
      refine lv_isub hx hb dX8_would_112 ?_
      obtain ⟨v24, hv24, h⟩ := bO_e h
      refine mw_callVi X (c_X8_value l E hA hv24) pk_X8_value pv_X8_value wm_249 ⟨Nat.le_of_ble_eq_true rfl, Nat.le_of_ble_eq_true rfl⟩ ⟨rfl, rfl⟩ hP hS ix_28 rfl rfl rfl rfl hl.1 (Nat.le_of_ble_eq_true rfl) ⟨Nat.zero_le _, Nat.zero_le _⟩ rfl dX8_would_113 (fun H locs hP hS => ?_)
      refine lv_goto (tgt := 120) hx hb dX8_would_116 (by decide) ?_
      exact w_L120 _ _ _ _ _ _ _ _ _ h hP hS (lv_sub hl [2, 3, 4, 1, 0] rfl)
  have w_L32 : ∀ (M : Mem) (y1 y2 : Int32) (H : Heap) (locs : List Loc) (ls : Array Slot), f_X8_would_L32  M y1 y2 = some (r0, M0) → va_P E.1 vwCl (wl E M) H → va_S (AA E) s.heap H locs → lv_has ls 8 [(0, .ref (E.2.2 11 28)), (1, .int y1), (2, .int y2)] → W p l e (headSpec (Wm yX8_would cX8_would 8 (some .int)) ({ frames := 6, cells := 0, slots := 0, locals := 138 } : Room)).room s m ([Value.ref (E.2.2 11 28), Value.int a1, Value.int a2] : List Value).toArray below meth c H locs 0 0 (MQ below (QI E r0 M0) ([Value.ref (E.2.2 11 28), Value.int a1, Value.int a2] : List Value).toArray s 0 0 (AA E)) (F0 m 32 ls []) := by
    intro M y1 y2 H locs ls h hP hS hl
    unfold f_X8_would_L32 at h
    refine lv_aload_n hx hb dX8_would_32 rfl (lv_at hl 0 rfl) ?_
    obtain ⟨v5, hv5, h⟩ := bO_e h
    refine mw_callVi X (c_X8_isStopped l E hA hv5) pk_X8_isStopped pv_X8_isStopped wm_186 ⟨Nat.le_of_ble_eq_true rfl, Nat.le_of_ble_eq_true rfl⟩ ⟨rfl, rfl⟩ hP hS ix_28 rfl rfl rfl rfl hl.1 (Nat.le_of_ble_eq_true rfl) ⟨Nat.zero_le _, Nat.zero_le _⟩ rfl dX8_would_33 (fun H locs hP hS => ?_)
    refine lv_if_eq (tgt := 42) hx hb dX8_would_36 (by decide) (fun c6 => ?_) (fun c6 => ?_)
    · have h := br_1 h c6
      refine lv_aload_n hx hb dX8_would_42 rfl (lv_at hl 0 rfl) ?_
      refine gt_8_0 X wm_90 hP ix_28 dX8_would_43 ?_
      refine lv_aload_n hx hb dX8_would_46 rfl (lv_at hl 0 rfl) ?_
      refine gt_8_3 X wm_93 hP ix_28 dX8_would_47 ?_
      obtain ⟨M8, hv7, h⟩ := bO_e h
      refine mw_callSv X (c_X8_copies l E hA (by decide) (by decide) hv7) pk_X8_copies wm_666 wm_665 ⟨Nat.le_of_ble_eq_true rfl, Nat.le_of_ble_eq_true rfl⟩ ⟨rfl, rfl⟩ hP hS rfl hl.1 (Nat.le_of_ble_eq_true rfl) ⟨Nat.zero_le _, Nat.zero_le _⟩ rfl dX8_would_50 (fun H locs hP hS => ?_)
      refine lv_aload_n hx hb dX8_would_53 rfl (lv_at hl 0 rfl) ?_
      refine lv_iload_n hx hb dX8_would_54 rfl (lv_at hl 1 rfl) ?_
      obtain ⟨v9, M10, hv9, h⟩ := bP_e h
      refine mw_callVi X (c_X8_stops l E hA hv9) pk_X8_stops pv_X8_stops wm_503 ⟨Nat.le_of_ble_eq_true rfl, Nat.le_of_ble_eq_true rfl⟩ ⟨rfl, rfl⟩ hP hS ix_28 rfl rfl rfl rfl hl.1 (Nat.le_of_ble_eq_true rfl) ⟨Nat.zero_le _, Nat.zero_le _⟩ rfl dX8_would_55 (fun H locs hP hS => ?_)
      refine lv_istore_n (lv' := [(3, .int v9), (0, .ref (E.2.2 11 28)), (1, .int y1), (2, .int y2)]) hx hb dX8_would_58 rfl hl (by decide) rfl (fun ls hl => ?_)
      refine lv_aload_n hx hb dX8_would_59 rfl (lv_at hl 1 rfl) ?_
      obtain ⟨v11, hv11, h⟩ := bO_e h
      refine mw_callVi X (c_X8_latest l E hA hv11) pk_X8_latest pv_X8_latest wm_452 ⟨Nat.le_of_ble_eq_true rfl, Nat.le_of_ble_eq_true rfl⟩ ⟨rfl, rfl⟩ hP hS ix_28 rfl rfl rfl rfl hl.1 (Nat.le_of_ble_eq_true rfl) ⟨Nat.zero_le _, Nat.zero_le _⟩ rfl dX8_would_60 (fun H locs hP hS => ?_)
      refine lv_istore (lv' := [(4, .int v11), (3, .int v9), (0, .ref (E.2.2 11 28)), (1, .int y1), (2, .int y2)]) hx hb dX8_would_63 hl (by decide) rfl (fun ls hl => ?_)
      refine lv_aload_n hx hb dX8_would_65 rfl (lv_at hl 2 rfl) ?_
      refine gt_8_0 X wm_90 hP ix_28 dX8_would_66 ?_
      refine lv_iconst (v := 1) hx hb dX8_would_69 (by decide) ?_
      refine mw_ld X hP ix_29 rfl (v := (M10 11 29 1)) (inb_vp (by decide)) rfl dX8_would_70 ?_
      refine lv_if_ne (tgt := 79) hx hb dX8_would_71 (by decide) (fun c12 => ?_) (fun c12 => ?_)
      · have h := br_0 h c12
        refine lv_iload hx hb dX8_would_79 (lv_at hl 0 rfl) ?_
        refine lv_if_ne (tgt := 93) hx hb dX8_would_81 (by decide) (fun c13 => ?_) (fun c13 => ?_)
        · have h := br_0 h c13
          refine lv_iload hx hb dX8_would_93 (lv_at hl 0 rfl) ?_
          exact w_L95 _ _ _ _ _ _ _ h hP hS (lv_sub hl [2, 4, 1] rfl)
        · have h := br_1 h c13
          refine lv_aload_n hx hb dX8_would_84 rfl (lv_at hl 2 rfl) ?_
          refine gt_8_0 X wm_90 hP ix_28 dX8_would_85 ?_
          refine lv_iconst (v := 0) hx hb dX8_would_88 (by decide) ?_
          refine mw_ld X hP ix_29 rfl (v := (M10 11 29 0)) (inb_vp (by decide)) rfl dX8_would_89 ?_
          refine lv_goto (tgt := 95) hx hb dX8_would_90 (by decide) ?_
          exact w_L95 _ _ _ _ _ _ _ h hP hS (lv_sub hl [2, 4, 1] rfl)
      · have h := br_1 h c12
        refine lv_ldc hx hb X.1.2.2.2.1 (X.1.2.2.2.2 _ wm_182) dX8_would_74 ?_
        refine lv_goto (tgt := 95) hx hb dX8_would_76 (by decide) ?_
        exact w_L95 _ _ _ _ _ _ _ h hP hS (lv_sub hl [2, 4, 1] rfl)
    · have h := br_0 h c6
      refine lv_ldc hx hb X.1.2.2.2.1 (X.1.2.2.2.2 _ wm_180) dX8_would_39 ?_
      have h := Option.some.inj h
      exact mw_iret X hr hlocks hP hS (congrArg Prod.fst h) (congrArg Prod.snd h) dX8_would_41
  unfold f_X8_would at h
  refine lv_iload_n hx hb dX8_would_0 rfl (lv_at hl 1 rfl) ?_
  refine lv_iconst (v := 0) hx hb dX8_would_1 (by decide) ?_
  refine lv_iconst (v := 1) hx hb dX8_would_2 (by decide) ?_
  obtain ⟨v1, hv1, h⟩ := bO_e h
  refine mw_callSi X (c_X8_in l E hA hv1) pk_X8_in wm_184 wm_183 ⟨Nat.le_of_ble_eq_true rfl, Nat.le_of_ble_eq_true rfl⟩ ⟨rfl, rfl⟩ hP hS rfl hl.1 (Nat.le_of_ble_eq_true rfl) ⟨Nat.zero_le _, Nat.zero_le _⟩ rfl dX8_would_3 (fun H locs hP hS => ?_)
  refine lv_if_eq (tgt := 29) hx hb dX8_would_6 (by decide) (fun c2 => ?_) (fun c2 => ?_)
  · have h := br_1 h c2
    refine lv_ldc hx hb X.1.2.2.2.1 (X.1.2.2.2.2 _ wm_179) dX8_would_29 ?_
    have h := Option.some.inj h
    exact mw_iret X hr hlocks hP hS (congrArg Prod.fst h) (congrArg Prod.snd h) dX8_would_31
  · have h := br_0 h c2
    refine lv_iload_n hx hb dX8_would_9 rfl (lv_at hl 2 rfl) ?_
    refine lv_iconst (v := 0) hx hb dX8_would_10 (by decide) ?_
    refine lv_iconst (v := 4) hx hb dX8_would_11 (by decide) ?_
    obtain ⟨v3, hv3, h⟩ := bO_e h
    refine mw_callSi X (c_X8_in l E hA hv3) pk_X8_in wm_184 wm_183 ⟨Nat.le_of_ble_eq_true rfl, Nat.le_of_ble_eq_true rfl⟩ ⟨rfl, rfl⟩ hP hS rfl hl.1 (Nat.le_of_ble_eq_true rfl) ⟨Nat.zero_le _, Nat.zero_le _⟩ rfl dX8_would_12 (fun H locs hP hS => ?_)
    refine lv_if_ne (tgt := 32) hx hb dX8_would_15 (by decide) (fun c4 => ?_) (fun c4 => ?_)
    · have h := br_0 h c4
      exact w_L32 _ _ _ _ _ _ h hP hS (lv_sub hl [0, 1, 2] rfl)
    · have h := br_1 h c4
      refine lv_iload_n hx hb dX8_would_18 rfl (lv_at hl 2 rfl) ?_
      refine lv_bipush (v := 10) hx hb dX8_would_19 (by decide) ?_
      refine lv_bipush (v := 17) hx hb dX8_would_21 (by decide) ?_
      obtain ⟨v25, hv25, h⟩ := bO_e h
      refine mw_callSi X (c_X8_in l E hA hv25) pk_X8_in wm_184 wm_183 ⟨Nat.le_of_ble_eq_true rfl, Nat.le_of_ble_eq_true rfl⟩ ⟨rfl, rfl⟩ hP hS rfl hl.1 (Nat.le_of_ble_eq_true rfl) ⟨Nat.zero_le _, Nat.zero_le _⟩ rfl dX8_would_23 (fun H locs hP hS => ?_)
      refine lv_if_ne (tgt := 32) hx hb dX8_would_26 (by decide) (fun c26 => ?_) (fun c26 => ?_)
      · have h := br_0 h c26
        exact w_L32 _ _ _ _ _ _ h hP hS (lv_sub hl [0, 1, 2] rfl)
      · have h := br_1 h c26
        refine lv_ldc hx hb X.1.2.2.2.1 (X.1.2.2.2.2 _ wm_179) dX8_would_29 ?_
        have h := Option.some.inj h
        exact mw_iret X hr hlocks hP hS (congrArg Prod.fst h) (congrArg Prod.snd h) dX8_would_31
/-! SealedGroupsModel.count -/
noncomputable def f_X8_count_L153  (M : Mem) (y1 : Int32) : Option Int32 :=
bO (f_X8_pages M (y1 - (5 : Int32))) (fun v12 =>
some v12)
noncomputable def f_X8_count  (M : Mem) (a1 : Int32) : Option Int32 :=
(if a1 = (0 : Int32) then
some (M 11 29 1)
else if a1 = (1 : Int32) then
(if (M 11 29 1) = 0 then
some (0 : Int32)
else
some (M 11 29 0))
else if a1 = (2 : Int32) then
(if (M 11 29 1) = 0 then
some (0 : Int32)
else
bO (f_X8_last M) (fun v6 =>
some v6))
else if a1 = (3 : Int32) then
(if (M 11 29 2) < (M 11 29 0) then
some (0 : Int32)
else
some (((M 11 29 2) - (M 11 29 0)) + (1 : Int32)))
else if a1 = (4 : Int32) then
bO (f_X8_openSet M) (fun v10 =>
some v10)
else if a1 = (5 : Int32) then
f_X8_count_L153 M a1
else if a1 = (6 : Int32) then
f_X8_count_L153 M a1
else if a1 = (7 : Int32) then
some (M 11 29 3)
else if a1 = (8 : Int32) then
bO (f_X8_latest M) (fun v16 =>
some v16)
else if a1 = (9 : Int32) then
bO (f_X8_canDrop M) (fun v18 =>
some v18)
else if a1 = (10 : Int32) then
some (M 11 29 4)
else if a1 = (11 : Int32) then
some (M 11 28 4)
else if a1 = (12 : Int32) then
some (M 11 28 7)
else 
some (-1000001 : Int32))
theorem pk_X8_count : Pk "SealedGroupsModel" yX8_count cX8_count 2 (some .int) 1 := ⟨wm_676, wm_5, rfl, by decide +kernel⟩
theorem pv_X8_count : Cond.instanceMethod yX8_count ∈ wsL_law ∧ Cond.selects "SealedGroupsModel" yX8_count yX8_count ∈ wsL_law := ⟨wm_674, wm_675⟩
set_option maxHeartbeats 4000000 in
set_option maxRecDepth 100000 in
theorem c_X8_count (l : Launch) (E : En) (hA : AdOK E) {M : Mem} {a1 : Int32} {r0 : Int32}  (h : f_X8_count M a1 = some r0) : Met l yX8_count (Wm yX8_count cX8_count 2 (some .int)) ({ frames := 4, cells := 0, slots := 0, locals := 87 } : Room) (va_Pc [Value.ref (E.2.2 11 28), Value.int a1] (Wd E M)) (QI E r0 M) 0 0 (AA E) := by
  refine Met.ofW (cc := cX8_count) (maxL := 2) (ret := (some .int)) (by decide +kernel) rfl ?_
  intro p e s m args below meth c s₁ B hml hv
  obtain ⟨rfl, hP, hK⟩ := hv
  have X : Cx E (AA E) p s m c _ cX8_count 2 RX8 := ⟨⟨B.exec, B.bytes, hml, findClass_of_methodNamed B.named, fun w hw => atoms_spec (ws := Wm yX8_count cX8_count 2 (some .int)) B.pre w (List.mem_cons_of_mem _ hw)⟩, hK, hA, fun _ h => h⟩
  have hx := B.exec
  have hb := B.bytes
  have hr := B.returns
  have hlocks := B.notSynchronized
  clear B hml
  have hS : va_S (AA E) s.heap s.heap [] := va_S.rf
  have hl := lv_entry ([Value.ref (E.2.2 11 28), Value.int a1]) (n := 2) (Nat.le_of_ble_eq_true rfl)
  rw [lg_entry_eq]
  generalize (lg_sl ([Value.ref (E.2.2 11 28), Value.int a1]) ++ List.replicate (2 - (lg_sl ([Value.ref (E.2.2 11 28), Value.int a1])).length) Slot.unset).toArray = ls at hl ⊢
  have hl : lv_has ls 2 [(0, .ref (E.2.2 11 28)), (1, .int a1)] := hl
  have w_L153 : ∀  (y1 : Int32) (H : Heap) (locs : List Loc) (ls : Array Slot), f_X8_count_L153 M y1 = some r0 → va_P E.1 vwCl (wl E M) H → va_S (AA E) s.heap H locs → lv_has ls 2 [(0, .ref (E.2.2 11 28)), (1, .int y1)] → W p l e (headSpec (Wm yX8_count cX8_count 2 (some .int)) ({ frames := 4, cells := 0, slots := 0, locals := 87 } : Room)).room s m ([Value.ref (E.2.2 11 28), Value.int a1] : List Value).toArray below meth c H locs 0 0 (MQ below (QI E r0 M) ([Value.ref (E.2.2 11 28), Value.int a1] : List Value).toArray s 0 0 (AA E)) (F0 m 153 ls []) := by
    intro y1 H locs ls h hP hS hl
    unfold f_X8_count_L153 at h
    refine lv_aload_n hx hb dX8_count_153 rfl (lv_at hl 0 rfl) ?_
    refine lv_iload_n hx hb dX8_count_154 rfl (lv_at hl 1 rfl) ?_
    refine lv_iconst (v := 5) hx hb dX8_count_155 (by decide) ?_
    refine lv_isub hx hb dX8_count_156 ?_
    obtain ⟨v12, hv12, h⟩ := bO_e h
    refine mw_callVi X (c_X8_pages l E hA hv12) pk_X8_pages pv_X8_pages wm_403 ⟨Nat.le_of_ble_eq_true rfl, Nat.le_of_ble_eq_true rfl⟩ ⟨rfl, rfl⟩ hP hS ix_28 rfl rfl rfl rfl hl.1 (Nat.le_of_ble_eq_true rfl) ⟨Nat.zero_le _, Nat.zero_le _⟩ rfl dX8_count_157 (fun H locs hP hS => ?_)
    exact mw_iret X hr hlocks hP hS (Option.some.inj h) rfl dX8_count_160
  unfold f_X8_count at h
  refine lv_iload_n hx hb dX8_count_0 rfl (lv_at hl 1 rfl) ?_
  by_cases c1 : a1 = (0 : Int32)
  · have h := br_1 h c1
    refine lv_tableIn (tgt := 68) hx hb dX8_count_1 (by rw [c1] <;> decide) (by rw [c1] <;> decide) (by rw [c1] <;> rfl) (by decide) ?_
    refine lv_aload_n hx hb dX8_count_68 rfl (lv_at hl 0 rfl) ?_
    refine gt_8_0 X wm_90 hP ix_28 dX8_count_69 ?_
    refine lv_iconst (v := 1) hx hb dX8_count_72 (by decide) ?_
    refine mw_ld X hP ix_29 rfl (v := (M 11 29 1)) (inb_vp (by decide)) rfl dX8_count_73 ?_
    exact mw_iret X hr hlocks hP hS (Option.some.inj h) rfl dX8_count_74
  have h := br_0 h c1
  by_cases c2 : a1 = (1 : Int32)
  · have h := br_1 h c2
    refine lv_tableIn (tgt := 75) hx hb dX8_count_1 (by rw [c2] <;> decide) (by rw [c2] <;> decide) (by rw [c2] <;> rfl) (by decide) ?_
    refine lv_aload_n hx hb dX8_count_75 rfl (lv_at hl 0 rfl) ?_
    refine gt_8_0 X wm_90 hP ix_28 dX8_count_76 ?_
    refine lv_iconst (v := 1) hx hb dX8_count_79 (by decide) ?_
    refine mw_ld X hP ix_29 rfl (v := (M 11 29 1)) (inb_vp (by decide)) rfl dX8_count_80 ?_
    refine lv_if_ne (tgt := 88) hx hb dX8_count_81 (by decide) (fun c3 => ?_) (fun c3 => ?_)
    · have h := br_0 h c3
      refine lv_aload_n hx hb dX8_count_88 rfl (lv_at hl 0 rfl) ?_
      refine gt_8_0 X wm_90 hP ix_28 dX8_count_89 ?_
      refine lv_iconst (v := 0) hx hb dX8_count_92 (by decide) ?_
      refine mw_ld X hP ix_29 rfl (v := (M 11 29 0)) (inb_vp (by decide)) rfl dX8_count_93 ?_
      exact mw_iret X hr hlocks hP hS (Option.some.inj h) rfl dX8_count_94
    · have h := br_1 h c3
      refine lv_iconst (v := 0) hx hb dX8_count_84 (by decide) ?_
      refine lv_goto (tgt := 94) hx hb dX8_count_85 (by decide) ?_
      exact mw_iret X hr hlocks hP hS (Option.some.inj h) rfl dX8_count_94
  have h := br_0 h c2
  by_cases c4 : a1 = (2 : Int32)
  · have h := br_1 h c4
    refine lv_tableIn (tgt := 95) hx hb dX8_count_1 (by rw [c4] <;> decide) (by rw [c4] <;> decide) (by rw [c4] <;> rfl) (by decide) ?_
    refine lv_aload_n hx hb dX8_count_95 rfl (lv_at hl 0 rfl) ?_
    refine gt_8_0 X wm_90 hP ix_28 dX8_count_96 ?_
    refine lv_iconst (v := 1) hx hb dX8_count_99 (by decide) ?_
    refine mw_ld X hP ix_29 rfl (v := (M 11 29 1)) (inb_vp (by decide)) rfl dX8_count_100 ?_
    refine lv_if_ne (tgt := 108) hx hb dX8_count_101 (by decide) (fun c5 => ?_) (fun c5 => ?_)
    · have h := br_0 h c5
      refine lv_aload_n hx hb dX8_count_108 rfl (lv_at hl 0 rfl) ?_
      obtain ⟨v6, hv6, h⟩ := bO_e h
      refine mw_callVi X (c_X8_last l E hA hv6) pk_X8_last pv_X8_last wm_208 ⟨Nat.le_of_ble_eq_true rfl, Nat.le_of_ble_eq_true rfl⟩ ⟨rfl, rfl⟩ hP hS ix_28 rfl rfl rfl rfl hl.1 (Nat.le_of_ble_eq_true rfl) ⟨Nat.zero_le _, Nat.zero_le _⟩ rfl dX8_count_109 (fun H locs hP hS => ?_)
      exact mw_iret X hr hlocks hP hS (Option.some.inj h) rfl dX8_count_112
    · have h := br_1 h c5
      refine lv_iconst (v := 0) hx hb dX8_count_104 (by decide) ?_
      refine lv_goto (tgt := 112) hx hb dX8_count_105 (by decide) ?_
      exact mw_iret X hr hlocks hP hS (Option.some.inj h) rfl dX8_count_112
  have h := br_0 h c4
  by_cases c7 : a1 = (3 : Int32)
  · have h := br_1 h c7
    refine lv_tableIn (tgt := 113) hx hb dX8_count_1 (by rw [c7] <;> decide) (by rw [c7] <;> decide) (by rw [c7] <;> rfl) (by decide) ?_
    refine lv_aload_n hx hb dX8_count_113 rfl (lv_at hl 0 rfl) ?_
    refine gt_8_0 X wm_90 hP ix_28 dX8_count_114 ?_
    refine lv_iconst (v := 2) hx hb dX8_count_117 (by decide) ?_
    refine mw_ld X hP ix_29 rfl (v := (M 11 29 2)) (inb_vp (by decide)) rfl dX8_count_118 ?_
    refine lv_aload_n hx hb dX8_count_119 rfl (lv_at hl 0 rfl) ?_
    refine gt_8_0 X wm_90 hP ix_28 dX8_count_120 ?_
    refine lv_iconst (v := 0) hx hb dX8_count_123 (by decide) ?_
    refine mw_ld X hP ix_29 rfl (v := (M 11 29 0)) (inb_vp (by decide)) rfl dX8_count_124 ?_
    refine lv_icmp_lt (tgt := 146) hx hb dX8_count_125 (by decide) (fun c8 => ?_) (fun c8 => ?_)
    · have h := br_1 h c8
      refine lv_iconst (v := 0) hx hb dX8_count_146 (by decide) ?_
      exact mw_iret X hr hlocks hP hS (Option.some.inj h) rfl dX8_count_147
    · have h := br_0 h c8
      refine lv_aload_n hx hb dX8_count_128 rfl (lv_at hl 0 rfl) ?_
      refine gt_8_0 X wm_90 hP ix_28 dX8_count_129 ?_
      refine lv_iconst (v := 2) hx hb dX8_count_132 (by decide) ?_
      refine mw_ld X hP ix_29 rfl (v := (M 11 29 2)) (inb_vp (by decide)) rfl dX8_count_133 ?_
      refine lv_aload_n hx hb dX8_count_134 rfl (lv_at hl 0 rfl) ?_
      refine gt_8_0 X wm_90 hP ix_28 dX8_count_135 ?_
      refine lv_iconst (v := 0) hx hb dX8_count_138 (by decide) ?_
      refine mw_ld X hP ix_29 rfl (v := (M 11 29 0)) (inb_vp (by decide)) rfl dX8_count_139 ?_
      refine lv_isub hx hb dX8_count_140 ?_
      refine lv_iconst (v := 1) hx hb dX8_count_141 (by decide) ?_
      refine lv_iadd hx hb dX8_count_142 ?_
      refine lv_goto (tgt := 147) hx hb dX8_count_143 (by decide) ?_
      exact mw_iret X hr hlocks hP hS (Option.some.inj h) rfl dX8_count_147
  have h := br_0 h c7
  by_cases c9 : a1 = (4 : Int32)
  · have h := br_1 h c9
    refine lv_tableIn (tgt := 148) hx hb dX8_count_1 (by rw [c9] <;> decide) (by rw [c9] <;> decide) (by rw [c9] <;> rfl) (by decide) ?_
    refine lv_aload_n hx hb dX8_count_148 rfl (lv_at hl 0 rfl) ?_
    obtain ⟨v10, hv10, h⟩ := bO_e h
    refine mw_callVi X (c_X8_openSet l E hA hv10) pk_X8_openSet pv_X8_openSet wm_428 ⟨Nat.le_of_ble_eq_true rfl, Nat.le_of_ble_eq_true rfl⟩ ⟨rfl, rfl⟩ hP hS ix_28 rfl rfl rfl rfl hl.1 (Nat.le_of_ble_eq_true rfl) ⟨Nat.zero_le _, Nat.zero_le _⟩ rfl dX8_count_149 (fun H locs hP hS => ?_)
    exact mw_iret X hr hlocks hP hS (Option.some.inj h) rfl dX8_count_152
  have h := br_0 h c9
  by_cases c11 : a1 = (5 : Int32)
  · have h := br_1 h c11
    refine lv_tableIn (tgt := 153) hx hb dX8_count_1 (by rw [c11] <;> decide) (by rw [c11] <;> decide) (by rw [c11] <;> rfl) (by decide) ?_
    exact w_L153 _ _ _ _ h hP hS (lv_sub hl [0, 1] rfl)
  have h := br_0 h c11
  by_cases c13 : a1 = (6 : Int32)
  · have h := br_1 h c13
    refine lv_tableIn (tgt := 153) hx hb dX8_count_1 (by rw [c13] <;> decide) (by rw [c13] <;> decide) (by rw [c13] <;> rfl) (by decide) ?_
    exact w_L153 _ _ _ _ h hP hS (lv_sub hl [0, 1] rfl)
  have h := br_0 h c13
  by_cases c14 : a1 = (7 : Int32)
  · have h := br_1 h c14
    refine lv_tableIn (tgt := 161) hx hb dX8_count_1 (by rw [c14] <;> decide) (by rw [c14] <;> decide) (by rw [c14] <;> rfl) (by decide) ?_
    refine lv_aload_n hx hb dX8_count_161 rfl (lv_at hl 0 rfl) ?_
    refine gt_8_0 X wm_90 hP ix_28 dX8_count_162 ?_
    refine lv_iconst (v := 3) hx hb dX8_count_165 (by decide) ?_
    refine mw_ld X hP ix_29 rfl (v := (M 11 29 3)) (inb_vp (by decide)) rfl dX8_count_166 ?_
    exact mw_iret X hr hlocks hP hS (Option.some.inj h) rfl dX8_count_167
  have h := br_0 h c14
  by_cases c15 : a1 = (8 : Int32)
  · have h := br_1 h c15
    refine lv_tableIn (tgt := 168) hx hb dX8_count_1 (by rw [c15] <;> decide) (by rw [c15] <;> decide) (by rw [c15] <;> rfl) (by decide) ?_
    refine lv_aload_n hx hb dX8_count_168 rfl (lv_at hl 0 rfl) ?_
    obtain ⟨v16, hv16, h⟩ := bO_e h
    refine mw_callVi X (c_X8_latest l E hA hv16) pk_X8_latest pv_X8_latest wm_452 ⟨Nat.le_of_ble_eq_true rfl, Nat.le_of_ble_eq_true rfl⟩ ⟨rfl, rfl⟩ hP hS ix_28 rfl rfl rfl rfl hl.1 (Nat.le_of_ble_eq_true rfl) ⟨Nat.zero_le _, Nat.zero_le _⟩ rfl dX8_count_169 (fun H locs hP hS => ?_)
    exact mw_iret X hr hlocks hP hS (Option.some.inj h) rfl dX8_count_172
  have h := br_0 h c15
  by_cases c17 : a1 = (9 : Int32)
  · have h := br_1 h c17
    refine lv_tableIn (tgt := 173) hx hb dX8_count_1 (by rw [c17] <;> decide) (by rw [c17] <;> decide) (by rw [c17] <;> rfl) (by decide) ?_
    refine lv_aload_n hx hb dX8_count_173 rfl (lv_at hl 0 rfl) ?_
    obtain ⟨v18, hv18, h⟩ := bO_e h
    refine mw_callVi X (c_X8_canDrop l E hA hv18) pk_X8_canDrop pv_X8_canDrop wm_456 ⟨Nat.le_of_ble_eq_true rfl, Nat.le_of_ble_eq_true rfl⟩ ⟨rfl, rfl⟩ hP hS ix_28 rfl rfl rfl rfl hl.1 (Nat.le_of_ble_eq_true rfl) ⟨Nat.zero_le _, Nat.zero_le _⟩ rfl dX8_count_174 (fun H locs hP hS => ?_)
    exact mw_iret X hr hlocks hP hS (Option.some.inj h) rfl dX8_count_177
  have h := br_0 h c17
  by_cases c19 : a1 = (10 : Int32)
  · have h := br_1 h c19
    refine lv_tableIn (tgt := 178) hx hb dX8_count_1 (by rw [c19] <;> decide) (by rw [c19] <;> decide) (by rw [c19] <;> rfl) (by decide) ?_
    refine lv_aload_n hx hb dX8_count_178 rfl (lv_at hl 0 rfl) ?_
    refine gt_8_0 X wm_90 hP ix_28 dX8_count_179 ?_
    refine lv_iconst (v := 4) hx hb dX8_count_182 (by decide) ?_
    refine mw_ld X hP ix_29 rfl (v := (M 11 29 4)) (inb_vp (by decide)) rfl dX8_count_183 ?_
    exact mw_iret X hr hlocks hP hS (Option.some.inj h) rfl dX8_count_184
  have h := br_0 h c19
  by_cases c20 : a1 = (11 : Int32)
  · have h := br_1 h c20
    refine lv_tableIn (tgt := 185) hx hb dX8_count_1 (by rw [c20] <;> decide) (by rw [c20] <;> decide) (by rw [c20] <;> rfl) (by decide) ?_
    refine lv_aload_n hx hb dX8_count_185 rfl (lv_at hl 0 rfl) ?_
    refine gt_8_4 X wm_203 hP ix_28 dX8_count_186 ?_
    exact mw_iret X hr hlocks hP hS (Option.some.inj h) rfl dX8_count_189
  have h := br_0 h c20
  by_cases c21 : a1 = (12 : Int32)
  · have h := br_1 h c21
    refine lv_tableIn (tgt := 190) hx hb dX8_count_1 (by rw [c21] <;> decide) (by rw [c21] <;> decide) (by rw [c21] <;> rfl) (by decide) ?_
    refine lv_aload_n hx hb dX8_count_190 rfl (lv_at hl 0 rfl) ?_
    refine gt_8_7 X wm_677 hP ix_28 dX8_count_191 ?_
    exact mw_iret X hr hlocks hP hS (Option.some.inj h) rfl dX8_count_194
  have h := br_0 h c21
  have qc1 := sw_ne c1 (v := 0) rfl
  have qc2 := sw_ne c2 (v := 1) rfl
  have qc4 := sw_ne c4 (v := 2) rfl
  have qc7 := sw_ne c7 (v := 3) rfl
  have qc9 := sw_ne c9 (v := 4) rfl
  have qc11 := sw_ne c11 (v := 5) rfl
  have qc13 := sw_ne c13 (v := 6) rfl
  have qc14 := sw_ne c14 (v := 7) rfl
  have qc15 := sw_ne c15 (v := 8) rfl
  have qc17 := sw_ne c17 (v := 9) rfl
  have qc19 := sw_ne c19 (v := 10) rfl
  have qc20 := sw_ne c20 (v := 11) rfl
  have qc21 := sw_ne c21 (v := 12) rfl
  refine lv_tableOut (tgt := 195) hx hb dX8_count_1 (by omega) (by decide) ?_
  refine lv_ldc hx hb X.1.2.2.2.1 (X.1.2.2.2.2 _ wm_179) dX8_count_195 ?_
  exact mw_iret X hr hlocks hP hS (Option.some.inj h) rfl dX8_count_197
/-! SealedGroupsModel.undo -/
noncomputable def f_X8_undo_L22  (K22 : Mem → Int32 → Option (Int32 × Mem)) (M : Mem) (y1 : Int32) : Option (Int32 × Mem) :=
(if (2117 : Int32) ≤ y1 then
some ((M 11 28 4), M)
else
gd (inb (((2117 : Int32) * (M 11 28 4)) + y1) 8468) (
gd (inb y1 2117) (
bd (st M 11 29 (y1).toNatClampNeg (M 11 30 ((((2117 : Int32) * (M 11 28 4)) + y1)).toNatClampNeg)) (fun M5 =>
bd (y1 + (1 : Int32)) (fun x7 =>
K22 M5 x7)))))
noncomputable def f_X8_undo  (M : Mem) : Option (Int32 × Mem) :=
(if (M 11 28 4) = 0 then
some ((-1000002 : Int32), M)
else
bd (st M 11 28 4 ((M 11 28 4) - (1 : Int32))) (fun M2 =>
itr (f_X8_undo_L22 ) (fun _ _ => none) FU M2 (0 : Int32)))
theorem pk_X8_undo : Pk "SealedGroupsModel" yX8_undo cX8_undo 2 (some .int) 0 := ⟨wm_690, wm_5, rfl, by decide +kernel⟩
theorem pv_X8_undo : Cond.instanceMethod yX8_undo ∈ wsL_law ∧ Cond.selects "SealedGroupsModel" yX8_undo yX8_undo ∈ wsL_law := ⟨wm_688, wm_689⟩
set_option maxHeartbeats 4000000 in
set_option maxRecDepth 100000 in
theorem c_X8_undo (l : Launch) (E : En) (hA : AdOK E) {M : Mem} {r0 : Int32} {M0 : Mem}  (h : f_X8_undo M = some (r0, M0)) : Met l yX8_undo (Wm yX8_undo cX8_undo 2 (some .int)) ({ frames := 0, cells := 0, slots := 0, locals := 0 } : Room) (va_Pc [Value.ref (E.2.2 11 28)] (Wd E M)) (QI E r0 M0) 0 0 (AA E) := by
  refine Met.ofW (cc := cX8_undo) (maxL := 2) (ret := (some .int)) (by decide +kernel) rfl ?_
  intro p e s m args below meth c s₁ B hml hv
  obtain ⟨rfl, hP, hK⟩ := hv
  have X : Cx E (AA E) p s m c _ cX8_undo 2 RX8 := ⟨⟨B.exec, B.bytes, hml, findClass_of_methodNamed B.named, fun w hw => atoms_spec (ws := Wm yX8_undo cX8_undo 2 (some .int)) B.pre w (List.mem_cons_of_mem _ hw)⟩, hK, hA, fun _ h => h⟩
  have hx := B.exec
  have hb := B.bytes
  have hr := B.returns
  have hlocks := B.notSynchronized
  clear B hml
  have hS : va_S (AA E) s.heap s.heap [] := va_S.rf
  have hl := lv_entry ([Value.ref (E.2.2 11 28)]) (n := 2) (Nat.le_of_ble_eq_true rfl)
  rw [lg_entry_eq]
  generalize (lg_sl ([Value.ref (E.2.2 11 28)]) ++ List.replicate (2 - (lg_sl ([Value.ref (E.2.2 11 28)])).length) Slot.unset).toArray = ls at hl ⊢
  have hl : lv_has ls 2 [(0, .ref (E.2.2 11 28))] := hl
  have w_L22 : ∀ (n22 : Nat) (M : Mem) (y1 : Int32) (H : Heap) (locs : List Loc) (ls : Array Slot), itr (f_X8_undo_L22 ) (fun _ _ => none) n22 M y1 = some (r0, M0) → va_P E.1 vwCl (wl E M) H → va_S (AA E) s.heap H locs → lv_has ls 2 [(0, .ref (E.2.2 11 28)), (1, .int y1)] → W p l e (headSpec (Wm yX8_undo cX8_undo 2 (some .int)) ({ frames := 0, cells := 0, slots := 0, locals := 0 } : Room)).room s m ([Value.ref (E.2.2 11 28)] : List Value).toArray below meth c H locs 0 0 (MQ below (QI E r0 M0) ([Value.ref (E.2.2 11 28)] : List Value).toArray s 0 0 (AA E)) (F0 m 22 ls []) := by
    intro n22
    induction n22 with
    | zero => intro M y1 H locs ls h; exact (nomatch (show (none : Option (Int32 × Mem)) = some _ from h))
    | succ n22 ih22 =>
      intro M y1 H locs ls h hP hS hl
      have h : f_X8_undo_L22 (itr (f_X8_undo_L22 ) (fun _ _ => none) n22) M y1 = some (r0, M0) := h
      unfold f_X8_undo_L22 at h
      refine lv_iload_n hx hb dX8_undo_22 rfl (lv_at hl 1 rfl) ?_
      refine lv_sipush (v := 2117) hx hb dX8_undo_23 (by decide) ?_
      refine lv_icmp_ge (tgt := 56) hx hb dX8_undo_26 (by decide) (fun c3 => ?_) (fun c3 => ?_)
      · have h := br_1 h c3
        refine lv_aload_n hx hb dX8_undo_56 rfl (lv_at hl 0 rfl) ?_
        refine gt_8_4 X wm_203 hP ix_28 dX8_undo_57 ?_
        have h := Option.some.inj h
        exact mw_iret X hr hlocks hP hS (congrArg Prod.fst h) (congrArg Prod.snd h) dX8_undo_60
      · have h := br_0 h c3
        refine lv_aload_n hx hb dX8_undo_29 rfl (lv_at hl 0 rfl) ?_
        refine gt_8_0 X wm_90 hP ix_28 dX8_undo_30 ?_
        refine lv_iload_n hx hb dX8_undo_33 rfl (lv_at hl 1 rfl) ?_
        refine lv_aload_n hx hb dX8_undo_34 rfl (lv_at hl 0 rfl) ?_
        refine gt_8_1 X wm_91 hP ix_28 dX8_undo_35 ?_
        refine lv_sipush (v := 2117) hx hb dX8_undo_38 (by decide) ?_
        refine lv_aload_n hx hb dX8_undo_41 rfl (lv_at hl 0 rfl) ?_
        refine gt_8_4 X wm_203 hP ix_28 dX8_undo_42 ?_
        refine lv_imul hx hb dX8_undo_45 ?_
        refine lv_iload_n hx hb dX8_undo_46 rfl (lv_at hl 1 rfl) ?_
        refine lv_iadd hx hb dX8_undo_47 ?_
        obtain ⟨g4, h⟩ := gd_e h
        refine mw_ld X hP ix_30 rfl (inb_vp g4) rfl dX8_undo_48 ?_
        obtain ⟨g6, h⟩ := gd_e h
        refine mw_st X hP hS ix_29 (fun _ => rfl) (inb_vp g6) rfl dX8_undo_49 (fun H locs M5 eM5 hP hS => ?_)
        have h := bd_e h eM5
        obtain ⟨x7, ex7⟩ : ∃ y : Int32, y = y1 + (1 : Int32) := ⟨_, rfl⟩
        have h := bd_e h ex7
        refine lv_iinc (v := x7) (lv' := [(1, .int x7), (0, .ref (E.2.2 11 28))]) hx hb dX8_undo_50 hl (k := 1) rfl (by rw [ex7]; rfl) (by decide) rfl (fun ls hl => ?_)
        refine lv_goto (tgt := 22) hx hb dX8_undo_53 (by decide) ?_
        exact ih22 _ _ _ _ _ h hP hS (lv_sub hl [1, 0] rfl)
  unfold f_X8_undo at h
  refine lv_aload_n hx hb dX8_undo_0 rfl (lv_at hl 0 rfl) ?_
  refine gt_8_4 X wm_203 hP ix_28 dX8_undo_1 ?_
  refine lv_if_ne (tgt := 10) hx hb dX8_undo_4 (by decide) (fun c1 => ?_) (fun c1 => ?_)
  · have h := br_0 h c1
    refine lv_aload_n hx hb dX8_undo_10 rfl (lv_at hl 0 rfl) ?_
    refine lv_dup hx hb dX8_undo_11 rfl ?_
    refine gt_8_4 X wm_203 hP ix_28 dX8_undo_12 ?_
    refine lv_iconst (v := 1) hx hb dX8_undo_15 (by decide) ?_
    refine lv_isub hx hb dX8_undo_16 ?_
    refine pt_8_4 X wm_203 hP hS ix_28 dX8_undo_17 (fun H locs M2 eM2 hP hS => ?_)
    have h := bd_e h eM2
    refine lv_iconst (v := 0) hx hb dX8_undo_20 (by decide) ?_
    refine lv_istore_n (lv' := [(1, .int (0 : Int32)), (0, .ref (E.2.2 11 28))]) hx hb dX8_undo_21 rfl hl (by decide) rfl (fun ls hl => ?_)
    exact w_L22 FU _ _ _ _ _ h hP hS (lv_sub hl [1, 0] rfl)
  · have h := br_1 h c1
    refine lv_ldc hx hb X.1.2.2.2.1 (X.1.2.2.2.2 _ wm_180) dX8_undo_7 ?_
    have h := Option.some.inj h
    exact mw_iret X hr hlocks hP hS (congrArg Prod.fst h) (congrArg Prod.snd h) dX8_undo_9
/-! SealedGroupsModel.type -/
noncomputable def f_X8_type  (M : Mem) (a1 : Int32) : Option (Int32 × Mem) :=
bO (f_X8_in M a1 (32 : Int32) (126 : Int32)) (fun v1 =>
(if v1 = 0 then
some ((-1000001 : Int32), M)
else
(if (M 11 28 7) = (80 : Int32) then
some ((-1000003 : Int32), M)
else
gd (inb (M 11 28 7) 80) (
bd (st M 11 33 ((M 11 28 7)).toNatClampNeg a1) (fun M4 =>
bd (st M4 11 28 7 ((M4 11 28 7) + (1 : Int32))) (fun M6 =>
some ((M6 11 28 7), M6)))))))
theorem pk_X8_type : Pk "SealedGroupsModel" yX8_type cX8_type 2 (some .int) 1 := ⟨wm_704, wm_5, rfl, by decide +kernel⟩
theorem pv_X8_type : Cond.instanceMethod yX8_type ∈ wsL_law ∧ Cond.selects "SealedGroupsModel" yX8_type yX8_type ∈ wsL_law := ⟨wm_702, wm_703⟩
set_option maxHeartbeats 4000000 in
set_option maxRecDepth 100000 in
theorem c_X8_type (l : Launch) (E : En) (hA : AdOK E) {M : Mem} {a1 : Int32} {r0 : Int32} {M0 : Mem}  (h : f_X8_type M a1 = some (r0, M0)) : Met l yX8_type (Wm yX8_type cX8_type 2 (some .int)) ({ frames := 1, cells := 0, slots := 0, locals := 22 } : Room) (va_Pc [Value.ref (E.2.2 11 28), Value.int a1] (Wd E M)) (QI E r0 M0) 0 0 (AA E) := by
  refine Met.ofW (cc := cX8_type) (maxL := 2) (ret := (some .int)) (by decide +kernel) rfl ?_
  intro p e s m args below meth c s₁ B hml hv
  obtain ⟨rfl, hP, hK⟩ := hv
  have X : Cx E (AA E) p s m c _ cX8_type 2 RX8 := ⟨⟨B.exec, B.bytes, hml, findClass_of_methodNamed B.named, fun w hw => atoms_spec (ws := Wm yX8_type cX8_type 2 (some .int)) B.pre w (List.mem_cons_of_mem _ hw)⟩, hK, hA, fun _ h => h⟩
  have hx := B.exec
  have hb := B.bytes
  have hr := B.returns
  have hlocks := B.notSynchronized
  clear B hml
  have hS : va_S (AA E) s.heap s.heap [] := va_S.rf
  have hl := lv_entry ([Value.ref (E.2.2 11 28), Value.int a1]) (n := 2) (Nat.le_of_ble_eq_true rfl)
  rw [lg_entry_eq]
  generalize (lg_sl ([Value.ref (E.2.2 11 28), Value.int a1]) ++ List.replicate (2 - (lg_sl ([Value.ref (E.2.2 11 28), Value.int a1])).length) Slot.unset).toArray = ls at hl ⊢
  have hl : lv_has ls 2 [(0, .ref (E.2.2 11 28)), (1, .int a1)] := hl
  unfold f_X8_type at h
  refine lv_iload_n hx hb dX8_type_0 rfl (lv_at hl 1 rfl) ?_
  refine lv_bipush (v := 32) hx hb dX8_type_1 (by decide) ?_
  refine lv_bipush (v := 126) hx hb dX8_type_3 (by decide) ?_
  obtain ⟨v1, hv1, h⟩ := bO_e h
  refine mw_callSi X (c_X8_in l E hA hv1) pk_X8_in wm_184 wm_183 ⟨Nat.le_of_ble_eq_true rfl, Nat.le_of_ble_eq_true rfl⟩ ⟨rfl, rfl⟩ hP hS rfl hl.1 (Nat.le_of_ble_eq_true rfl) ⟨Nat.zero_le _, Nat.zero_le _⟩ rfl dX8_type_5 (fun H locs hP hS => ?_)
  refine lv_if_ne (tgt := 14) hx hb dX8_type_8 (by decide) (fun c2 => ?_) (fun c2 => ?_)
  · have h := br_0 h c2
    refine lv_aload_n hx hb dX8_type_14 rfl (lv_at hl 0 rfl) ?_
    refine gt_8_7 X wm_677 hP ix_28 dX8_type_15 ?_
    refine lv_bipush (v := 80) hx hb dX8_type_18 (by decide) ?_
    refine lv_icmp_ne (tgt := 26) hx hb dX8_type_20 (by decide) (fun c3 => ?_) (fun c3 => ?_)
    · have h := br_0 h c3
      refine lv_aload_n hx hb dX8_type_26 rfl (lv_at hl 0 rfl) ?_
      refine gt_8_6 X wm_94 hP ix_28 dX8_type_27 ?_
      refine lv_aload_n hx hb dX8_type_30 rfl (lv_at hl 0 rfl) ?_
      refine gt_8_7 X wm_677 hP ix_28 dX8_type_31 ?_
      refine lv_iload_n hx hb dX8_type_34 rfl (lv_at hl 1 rfl) ?_
      obtain ⟨g5, h⟩ := gd_e h
      refine mw_st X hP hS ix_33 (fun _ => rfl) (inb_vp g5) rfl dX8_type_35 (fun H locs M4 eM4 hP hS => ?_)
      have h := bd_e h eM4
      refine lv_aload_n hx hb dX8_type_36 rfl (lv_at hl 0 rfl) ?_
      refine lv_dup hx hb dX8_type_37 rfl ?_
      refine gt_8_7 X wm_677 hP ix_28 dX8_type_38 ?_
      refine lv_iconst (v := 1) hx hb dX8_type_41 (by decide) ?_
      refine lv_iadd hx hb dX8_type_42 ?_
      refine pt_8_7 X wm_677 hP hS ix_28 dX8_type_43 (fun H locs M6 eM6 hP hS => ?_)
      have h := bd_e h eM6
      refine lv_aload_n hx hb dX8_type_46 rfl (lv_at hl 0 rfl) ?_
      refine gt_8_7 X wm_677 hP ix_28 dX8_type_47 ?_
      have h := Option.some.inj h
      exact mw_iret X hr hlocks hP hS (congrArg Prod.fst h) (congrArg Prod.snd h) dX8_type_50
    · have h := br_1 h c3
      refine lv_ldc hx hb X.1.2.2.2.1 (X.1.2.2.2.2 _ wm_181) dX8_type_23 ?_
      have h := Option.some.inj h
      exact mw_iret X hr hlocks hP hS (congrArg Prod.fst h) (congrArg Prod.snd h) dX8_type_25
  · have h := br_1 h c2
    refine lv_ldc hx hb X.1.2.2.2.1 (X.1.2.2.2.2 _ wm_179) dX8_type_11 ?_
    have h := Option.some.inj h
    exact mw_iret X hr hlocks hP hS (congrArg Prod.fst h) (congrArg Prod.snd h) dX8_type_13
/-! SealedGroupsModel.clearText -/
noncomputable def f_X8_clearText  (M : Mem) : Option (Int32 × Mem) :=
bd ((M 11 28 7)) (fun x1 =>
bd (st M 11 28 7 (0 : Int32)) (fun M2 =>
some (x1, M2)))
theorem pk_X8_clearText : Pk "SealedGroupsModel" yX8_clearText cX8_clearText 2 (some .int) 0 := ⟨wm_716, wm_5, rfl, by decide +kernel⟩
theorem pv_X8_clearText : Cond.instanceMethod yX8_clearText ∈ wsL_law ∧ Cond.selects "SealedGroupsModel" yX8_clearText yX8_clearText ∈ wsL_law := ⟨wm_714, wm_715⟩
set_option maxHeartbeats 4000000 in
set_option maxRecDepth 100000 in
theorem c_X8_clearText (l : Launch) (E : En) (hA : AdOK E) {M : Mem} {r0 : Int32} {M0 : Mem}  (h : f_X8_clearText M = some (r0, M0)) : Met l yX8_clearText (Wm yX8_clearText cX8_clearText 2 (some .int)) ({ frames := 0, cells := 0, slots := 0, locals := 0 } : Room) (va_Pc [Value.ref (E.2.2 11 28)] (Wd E M)) (QI E r0 M0) 0 0 (AA E) := by
  refine Met.ofW (cc := cX8_clearText) (maxL := 2) (ret := (some .int)) (by decide +kernel) rfl ?_
  intro p e s m args below meth c s₁ B hml hv
  obtain ⟨rfl, hP, hK⟩ := hv
  have X : Cx E (AA E) p s m c _ cX8_clearText 2 RX8 := ⟨⟨B.exec, B.bytes, hml, findClass_of_methodNamed B.named, fun w hw => atoms_spec (ws := Wm yX8_clearText cX8_clearText 2 (some .int)) B.pre w (List.mem_cons_of_mem _ hw)⟩, hK, hA, fun _ h => h⟩
  have hx := B.exec
  have hb := B.bytes
  have hr := B.returns
  have hlocks := B.notSynchronized
  clear B hml
  have hS : va_S (AA E) s.heap s.heap [] := va_S.rf
  have hl := lv_entry ([Value.ref (E.2.2 11 28)]) (n := 2) (Nat.le_of_ble_eq_true rfl)
  rw [lg_entry_eq]
  generalize (lg_sl ([Value.ref (E.2.2 11 28)]) ++ List.replicate (2 - (lg_sl ([Value.ref (E.2.2 11 28)])).length) Slot.unset).toArray = ls at hl ⊢
  have hl : lv_has ls 2 [(0, .ref (E.2.2 11 28))] := hl
  unfold f_X8_clearText at h
  refine lv_aload_n hx hb dX8_clearText_0 rfl (lv_at hl 0 rfl) ?_
  refine gt_8_7 X wm_677 hP ix_28 dX8_clearText_1 ?_
  refine lv_topi (fun x1 ex1 => ?_)
  have h := bd_e h ex1
  refine lv_istore_n (lv' := [(1, .int x1), (0, .ref (E.2.2 11 28))]) hx hb dX8_clearText_4 rfl hl (by decide) rfl (fun ls hl => ?_)
  refine lv_aload_n hx hb dX8_clearText_5 rfl (lv_at hl 1 rfl) ?_
  refine lv_iconst (v := 0) hx hb dX8_clearText_6 (by decide) ?_
  refine pt_8_7 X wm_677 hP hS ix_28 dX8_clearText_7 (fun H locs M2 eM2 hP hS => ?_)
  have h := bd_e h eM2
  refine lv_iload_n hx hb dX8_clearText_10 rfl (lv_at hl 0 rfl) ?_
  have h := Option.some.inj h
  exact mw_iret X hr hlocks hP hS (congrArg Prod.fst h) (congrArg Prod.snd h) dX8_clearText_11
/-! SealedGroupsModel.passes -/
noncomputable def f_X8_passes_L44  (M : Mem) (y2 z0 z1 : Int32) : Option (Int32 × Mem) :=
bd (st M 11 28 11 (z1 + z0)) (fun M3 =>
gd (isB y2) (some (y2, M3)))
noncomputable def f_X8_passes_L29  (M : Mem) (z0 : Int32) : Option (Int32 × Mem) :=
(if z0 = 0 then
f_X8_passes_L44 M z0 (0 : Int32) (M 11 28 11)
else
f_X8_passes_L44 M z0 (1 : Int32) (M 11 28 11))
noncomputable def f_X8_passes_L28  (M : Mem) : Option (Int32 × Mem) :=
f_X8_passes_L29 M (0 : Int32)
noncomputable def f_X8_passes  (M : Mem) (a1 : Int32) : Option (Int32 × Mem) :=
(if (M 11 28 7) ≤ (M 11 28 11) then
f_X8_passes_L28 M
else
gd (inb (M 11 28 11) 80) (
(if (M 11 33 ((M 11 28 11)).toNatClampNeg) = a1 then
f_X8_passes_L29 M (1 : Int32)
else
f_X8_passes_L28 M)))
theorem pk_X8_passes : Pk "SealedGroupsModel" yX8_passes cX8_passes 3 (some .boolean) 1 := ⟨wm_789, wm_5, rfl, by decide +kernel⟩
theorem pv_X8_passes : Cond.instanceMethod yX8_passes ∈ wsL_law ∧ Cond.selects "SealedGroupsModel" yX8_passes yX8_passes ∈ wsL_law := ⟨wm_787, wm_788⟩
set_option maxHeartbeats 4000000 in
set_option maxRecDepth 100000 in
theorem c_X8_passes (l : Launch) (E : En) (hA : AdOK E) {M : Mem} {a1 : Int32} {r0 : Int32} {M0 : Mem}  (h : f_X8_passes M a1 = some (r0, M0)) : Met l yX8_passes (Wm yX8_passes cX8_passes 3 (some .boolean)) ({ frames := 0, cells := 0, slots := 0, locals := 0 } : Room) (va_Pc [Value.ref (E.2.2 11 28), Value.int a1] (Wd E M)) (QI E r0 M0) 0 0 (AA E) := by
  refine Met.ofW (cc := cX8_passes) (maxL := 3) (ret := (some .boolean)) (by decide +kernel) rfl ?_
  intro p e s m args below meth c s₁ B hml hv
  obtain ⟨rfl, hP, hK⟩ := hv
  have X : Cx E (AA E) p s m c _ cX8_passes 3 RX8 := ⟨⟨B.exec, B.bytes, hml, findClass_of_methodNamed B.named, fun w hw => atoms_spec (ws := Wm yX8_passes cX8_passes 3 (some .boolean)) B.pre w (List.mem_cons_of_mem _ hw)⟩, hK, hA, fun _ h => h⟩
  have hx := B.exec
  have hb := B.bytes
  have hr := B.returns
  have hlocks := B.notSynchronized
  clear B hml
  have hS : va_S (AA E) s.heap s.heap [] := va_S.rf
  have hl := lv_entry ([Value.ref (E.2.2 11 28), Value.int a1]) (n := 3) (Nat.le_of_ble_eq_true rfl)
  rw [lg_entry_eq]
  generalize (lg_sl ([Value.ref (E.2.2 11 28), Value.int a1]) ++ List.replicate (3 - (lg_sl ([Value.ref (E.2.2 11 28), Value.int a1])).length) Slot.unset).toArray = ls at hl ⊢
  have hl : lv_has ls 3 [(0, .ref (E.2.2 11 28)), (1, .int a1)] := hl
  have w_L44 : ∀ (M : Mem) (y2 z0 z1 : Int32) (H : Heap) (locs : List Loc) (ls : Array Slot), f_X8_passes_L44  M y2 z0 z1 = some (r0, M0) → va_P E.1 vwCl (wl E M) H → va_S (AA E) s.heap H locs → lv_has ls 3 [(2, .int y2)] → W p l e (headSpec (Wm yX8_passes cX8_passes 3 (some .boolean)) ({ frames := 0, cells := 0, slots := 0, locals := 0 } : Room)).room s m ([Value.ref (E.2.2 11 28), Value.int a1] : List Value).toArray below meth c H locs 0 0 (MQ below (QI E r0 M0) ([Value.ref (E.2.2 11 28), Value.int a1] : List Value).toArray s 0 0 (AA E)) (F0 m 44 ls [.int z0, .int z1, .ref (E.2.2 11 28)]) := by
    intro M y2 z0 z1 H locs ls h hP hS hl
    unfold f_X8_passes_L44 at h
    refine lv_iadd hx hb dX8_passes_44 ?_
    refine pt_8_11 X wm_780 hP hS ix_28 dX8_passes_45 (fun H locs M3 eM3 hP hS => ?_)
    have h := bd_e h eM3
    refine lv_iload_n hx hb dX8_passes_48 rfl (lv_at hl 0 rfl) ?_
    obtain ⟨g4, h⟩ := gd_e h
    have h := Option.some.inj h
    exact mw_zret X hr hlocks hP hS g4 (congrArg Prod.fst h) (congrArg Prod.snd h) dX8_passes_49
  have w_L29 : ∀ (M : Mem) (z0 : Int32) (H : Heap) (locs : List Loc) (ls : Array Slot), f_X8_passes_L29  M z0 = some (r0, M0) → va_P E.1 vwCl (wl E M) H → va_S (AA E) s.heap H locs → lv_has ls 3 [(0, .ref (E.2.2 11 28))] → W p l e (headSpec (Wm yX8_passes cX8_passes 3 (some .boolean)) ({ frames := 0, cells := 0, slots := 0, locals := 0 } : Room)).room s m ([Value.ref (E.2.2 11 28), Value.int a1] : List Value).toArray below meth c H locs 0 0 (MQ below (QI E r0 M0) ([Value.ref (E.2.2 11 28), Value.int a1] : List Value).toArray s 0 0 (AA E)) (F0 m 29 ls [.int z0]) := by
    intro M z0 H locs ls h hP hS hl
    unfold f_X8_passes_L29 at h
    refine lv_istore_n (lv' := [(2, .int z0), (0, .ref (E.2.2 11 28))]) hx hb dX8_passes_29 rfl hl (by decide) rfl (fun ls hl => ?_)
    refine lv_aload_n hx hb dX8_passes_30 rfl (lv_at hl 1 rfl) ?_
    refine lv_dup hx hb dX8_passes_31 rfl ?_
    refine gt_8_11 X wm_780 hP ix_28 dX8_passes_32 ?_
    refine lv_iload_n hx hb dX8_passes_35 rfl (lv_at hl 0 rfl) ?_
    refine lv_if_eq (tgt := 43) hx hb dX8_passes_36 (by decide) (fun c2 => ?_) (fun c2 => ?_)
    · have h := br_1 h c2
      refine lv_iconst (v := 0) hx hb dX8_passes_43 (by decide) ?_
      exact w_L44 _ _ _ _ _ _ _ h hP hS (lv_sub hl [0] rfl)
    · have h := br_0 h c2
      refine lv_iconst (v := 1) hx hb dX8_passes_39 (by decide) ?_
      refine lv_goto (tgt := 44) hx hb dX8_passes_40 (by decide) ?_
      exact w_L44 _ _ _ _ _ _ _ h hP hS (lv_sub hl [0] rfl)
  have w_L28 : ∀ (M : Mem) (H : Heap) (locs : List Loc) (ls : Array Slot), f_X8_passes_L28  M = some (r0, M0) → va_P E.1 vwCl (wl E M) H → va_S (AA E) s.heap H locs → lv_has ls 3 [(0, .ref (E.2.2 11 28))] → W p l e (headSpec (Wm yX8_passes cX8_passes 3 (some .boolean)) ({ frames := 0, cells := 0, slots := 0, locals := 0 } : Room)).room s m ([Value.ref (E.2.2 11 28), Value.int a1] : List Value).toArray below meth c H locs 0 0 (MQ below (QI E r0 M0) ([Value.ref (E.2.2 11 28), Value.int a1] : List Value).toArray s 0 0 (AA E)) (F0 m 28 ls []) := by
    intro M H locs ls h hP hS hl
    unfold f_X8_passes_L28 at h
    refine lv_iconst (v := 0) hx hb dX8_passes_28 (by decide) ?_
    exact w_L29 _ _ _ _ _ h hP hS (lv_sub hl [0] rfl)
  unfold f_X8_passes at h
  refine lv_aload_n hx hb dX8_passes_0 rfl (lv_at hl 0 rfl) ?_
  refine gt_8_11 X wm_780 hP ix_28 dX8_passes_1 ?_
  refine lv_aload_n hx hb dX8_passes_4 rfl (lv_at hl 0 rfl) ?_
  refine gt_8_7 X wm_677 hP ix_28 dX8_passes_5 ?_
  refine lv_icmp_ge (tgt := 28) hx hb dX8_passes_8 (by decide) (fun c1 => ?_) (fun c1 => ?_)
  · have h := br_1 h c1
    exact w_L28 _ _ _ _ h hP hS (lv_sub hl [0] rfl)
  · have h := br_0 h c1
    refine lv_aload_n hx hb dX8_passes_11 rfl (lv_at hl 0 rfl) ?_
    refine gt_8_6 X wm_94 hP ix_28 dX8_passes_12 ?_
    refine lv_aload_n hx hb dX8_passes_15 rfl (lv_at hl 0 rfl) ?_
    refine gt_8_11 X wm_780 hP ix_28 dX8_passes_16 ?_
    obtain ⟨g5, h⟩ := gd_e h
    refine mw_ld X hP ix_33 rfl (inb_vp g5) rfl dX8_passes_19 ?_
    refine lv_iload_n hx hb dX8_passes_20 rfl (lv_at hl 1 rfl) ?_
    refine lv_icmp_ne (tgt := 28) hx hb dX8_passes_21 (by decide) (fun c6 => ?_) (fun c6 => ?_)
    · have h := br_0 h c6
      exact w_L28 _ _ _ _ h hP hS (lv_sub hl [0] rfl)
    · have h := br_1 h c6
      refine lv_iconst (v := 1) hx hb dX8_passes_24 (by decide) ?_
      refine lv_goto (tgt := 29) hx hb dX8_passes_25 (by decide) ?_
      exact w_L29 _ _ _ _ _ h hP hS (lv_sub hl [0] rfl)
/-! SealedGroupsModel.number -/
noncomputable def f_X8_number_L93  (M : Mem) (y3 : Int32) : Option (Int32 × Mem) :=
(if (M 11 28 11) ≤ y3 then
some ((0 : Int32), M)
else
some ((1 : Int32), M))
noncomputable def f_X8_number_L12  (K12 : Mem → Int32 → Int32 → Int32 → Option (Int32 × Mem)) (M : Mem) (y1 y2 y3 : Int32) : Option (Int32 × Mem) :=
(if (M 11 28 7) ≤ (M 11 28 11) then
f_X8_number_L93 M y3
else
gd (inb (M 11 28 11) 80) (
bO (f_X8_in M (M 11 33 ((M 11 28 11)).toNatClampNeg) (48 : Int32) (57 : Int32)) (fun v7 =>
(if v7 = 0 then
f_X8_number_L93 M y3
else
(if y2 ≤ ((M 11 28 11) - y3) then
f_X8_number_L93 M y3
else
gd (inb y1 3) (
gd (inb (M 11 28 11) 80) (
gd (inb y1 3) (
bd (st M 11 35 (y1).toNatClampNeg ((((10 : Int32) * (M 11 35 (y1).toNatClampNeg)) + (M 11 33 ((M 11 28 11)).toNatClampNeg)) - (48 : Int32))) (fun M12 =>
bd (st M12 11 28 11 ((M12 11 28 11) + (1 : Int32))) (fun M14 =>
K12 M14 y1 y2 y3))))))))))
noncomputable def f_X8_number  (M : Mem) (a1 a2 : Int32) : Option (Int32 × Mem) :=
bd ((M 11 28 11)) (fun x1 =>
gd (inb a1 3) (
bd (st M 11 35 (a1).toNatClampNeg (0 : Int32)) (fun M2 =>
itr (f_X8_number_L12 ) (fun _ _ _ _ => none) FU M2 a1 a2 x1)))
theorem pk_X8_number : Pk "SealedGroupsModel" yX8_number cX8_number 4 (some .boolean) 2 := ⟨wm_793, wm_5, rfl, by decide +kernel⟩
theorem pv_X8_number : Cond.instanceMethod yX8_number ∈ wsL_law ∧ Cond.selects "SealedGroupsModel" yX8_number yX8_number ∈ wsL_law := ⟨wm_791, wm_792⟩
set_option maxHeartbeats 4000000 in
set_option maxRecDepth 100000 in
theorem c_X8_number (l : Launch) (E : En) (hA : AdOK E) {M : Mem} {a1 a2 : Int32} {r0 : Int32} {M0 : Mem}  (h : f_X8_number M a1 a2 = some (r0, M0)) : Met l yX8_number (Wm yX8_number cX8_number 4 (some .boolean)) ({ frames := 1, cells := 0, slots := 0, locals := 22 } : Room) (va_Pc [Value.ref (E.2.2 11 28), Value.int a1, Value.int a2] (Wd E M)) (QI E r0 M0) 0 0 (AA E) := by
  refine Met.ofW (cc := cX8_number) (maxL := 4) (ret := (some .boolean)) (by decide +kernel) rfl ?_
  intro p e s m args below meth c s₁ B hml hv
  obtain ⟨rfl, hP, hK⟩ := hv
  have X : Cx E (AA E) p s m c _ cX8_number 4 RX8 := ⟨⟨B.exec, B.bytes, hml, findClass_of_methodNamed B.named, fun w hw => atoms_spec (ws := Wm yX8_number cX8_number 4 (some .boolean)) B.pre w (List.mem_cons_of_mem _ hw)⟩, hK, hA, fun _ h => h⟩
  have hx := B.exec
  have hb := B.bytes
  have hr := B.returns
  have hlocks := B.notSynchronized
  clear B hml
  have hS : va_S (AA E) s.heap s.heap [] := va_S.rf
  have hl := lv_entry ([Value.ref (E.2.2 11 28), Value.int a1, Value.int a2]) (n := 4) (Nat.le_of_ble_eq_true rfl)
  rw [lg_entry_eq]
  generalize (lg_sl ([Value.ref (E.2.2 11 28), Value.int a1, Value.int a2]) ++ List.replicate (4 - (lg_sl ([Value.ref (E.2.2 11 28), Value.int a1, Value.int a2])).length) Slot.unset).toArray = ls at hl ⊢
  have hl : lv_has ls 4 [(0, .ref (E.2.2 11 28)), (1, .int a1), (2, .int a2)] := hl
  have w_L93 : ∀ (M : Mem) (y3 : Int32) (H : Heap) (locs : List Loc) (ls : Array Slot), f_X8_number_L93  M y3 = some (r0, M0) → va_P E.1 vwCl (wl E M) H → va_S (AA E) s.heap H locs → lv_has ls 4 [(0, .ref (E.2.2 11 28)), (3, .int y3)] → W p l e (headSpec (Wm yX8_number cX8_number 4 (some .boolean)) ({ frames := 1, cells := 0, slots := 0, locals := 22 } : Room)).room s m ([Value.ref (E.2.2 11 28), Value.int a1, Value.int a2] : List Value).toArray below meth c H locs 0 0 (MQ below (QI E r0 M0) ([Value.ref (E.2.2 11 28), Value.int a1, Value.int a2] : List Value).toArray s 0 0 (AA E)) (F0 m 93 ls []) := by
    intro M y3 H locs ls h hP hS hl
    unfold f_X8_number_L93 at h
    refine lv_aload_n hx hb dX8_number_93 rfl (lv_at hl 0 rfl) ?_
    refine gt_8_11 X wm_780 hP ix_28 dX8_number_94 ?_
    refine lv_iload_n hx hb dX8_number_97 rfl (lv_at hl 1 rfl) ?_
    refine lv_icmp_le (tgt := 105) hx hb dX8_number_98 (by decide) (fun c5 => ?_) (fun c5 => ?_)
    · have h := br_1 h c5
      refine lv_iconst (v := 0) hx hb dX8_number_105 (by decide) ?_
      have h := Option.some.inj h
      exact mw_zret X hr hlocks hP hS (by decide) (congrArg Prod.fst h) (congrArg Prod.snd h) dX8_number_106
    · have h := br_0 h c5
      refine lv_iconst (v := 1) hx hb dX8_number_101 (by decide) ?_
      refine lv_goto (tgt := 106) hx hb dX8_number_102 (by decide) ?_
      have h := Option.some.inj h
      exact mw_zret X hr hlocks hP hS (by decide) (congrArg Prod.fst h) (congrArg Prod.snd h) dX8_number_106
  have w_L12 : ∀ (n12 : Nat) (M : Mem) (y1 y2 y3 : Int32) (H : Heap) (locs : List Loc) (ls : Array Slot), itr (f_X8_number_L12 ) (fun _ _ _ _ => none) n12 M y1 y2 y3 = some (r0, M0) → va_P E.1 vwCl (wl E M) H → va_S (AA E) s.heap H locs → lv_has ls 4 [(0, .ref (E.2.2 11 28)), (1, .int y1), (2, .int y2), (3, .int y3)] → W p l e (headSpec (Wm yX8_number cX8_number 4 (some .boolean)) ({ frames := 1, cells := 0, slots := 0, locals := 22 } : Room)).room s m ([Value.ref (E.2.2 11 28), Value.int a1, Value.int a2] : List Value).toArray below meth c H locs 0 0 (MQ below (QI E r0 M0) ([Value.ref (E.2.2 11 28), Value.int a1, Value.int a2] : List Value).toArray s 0 0 (AA E)) (F0 m 12 ls []) := by
    intro n12
    induction n12 with
    | zero => intro M y1 y2 y3 H locs ls h; exact (nomatch (show (none : Option (Int32 × Mem)) = some _ from h))
    | succ n12 ih12 =>
      intro M y1 y2 y3 H locs ls h hP hS hl
      have h : f_X8_number_L12 (itr (f_X8_number_L12 ) (fun _ _ _ _ => none) n12) M y1 y2 y3 = some (r0, M0) := h
      unfold f_X8_number_L12 at h
      refine lv_aload_n hx hb dX8_number_12 rfl (lv_at hl 0 rfl) ?_
      refine gt_8_11 X wm_780 hP ix_28 dX8_number_13 ?_
      refine lv_aload_n hx hb dX8_number_16 rfl (lv_at hl 0 rfl) ?_
      refine gt_8_7 X wm_677 hP ix_28 dX8_number_17 ?_
      refine lv_icmp_ge (tgt := 93) hx hb dX8_number_20 (by decide) (fun c4 => ?_) (fun c4 => ?_)
      · have h := br_1 h c4
        exact w_L93 _ _ _ _ _ h hP hS (lv_sub hl [0, 3] rfl)
      · have h := br_0 h c4
        refine lv_aload_n hx hb dX8_number_23 rfl (lv_at hl 0 rfl) ?_
        refine gt_8_6 X wm_94 hP ix_28 dX8_number_24 ?_
        refine lv_aload_n hx hb dX8_number_27 rfl (lv_at hl 0 rfl) ?_
        refine gt_8_11 X wm_780 hP ix_28 dX8_number_28 ?_
        obtain ⟨g6, h⟩ := gd_e h
        refine mw_ld X hP ix_33 rfl (inb_vp g6) rfl dX8_number_31 ?_
        refine lv_bipush (v := 48) hx hb dX8_number_32 (by decide) ?_
        refine lv_bipush (v := 57) hx hb dX8_number_34 (by decide) ?_
        obtain ⟨v7, hv7, h⟩ := bO_e h
        refine mw_callSi X (c_X8_in l E hA hv7) pk_X8_in wm_184 wm_183 ⟨Nat.le_of_ble_eq_true rfl, Nat.le_of_ble_eq_true rfl⟩ ⟨rfl, rfl⟩ hP hS rfl hl.1 (Nat.le_of_ble_eq_true rfl) ⟨Nat.zero_le _, Nat.zero_le _⟩ rfl dX8_number_36 (fun H locs hP hS => ?_)
        refine lv_if_eq (tgt := 93) hx hb dX8_number_39 (by decide) (fun c8 => ?_) (fun c8 => ?_)
        · have h := br_1 h c8
          exact w_L93 _ _ _ _ _ h hP hS (lv_sub hl [0, 3] rfl)
        · have h := br_0 h c8
          refine lv_aload_n hx hb dX8_number_42 rfl (lv_at hl 0 rfl) ?_
          refine gt_8_11 X wm_780 hP ix_28 dX8_number_43 ?_
          refine lv_iload_n hx hb dX8_number_46 rfl (lv_at hl 3 rfl) ?_
          refine lv_isub hx hb dX8_number_47 ?_
          refine lv_iload_n hx hb dX8_number_48 rfl (lv_at hl 2 rfl) ?_
          refine lv_icmp_ge (tgt := 93) hx hb dX8_number_49 (by decide) (fun c9 => ?_) (fun c9 => ?_)
          · have h := br_1 h c9
            exact w_L93 _ _ _ _ _ h hP hS (lv_sub hl [0, 3] rfl)
          · have h := br_0 h c9
            refine lv_aload_n hx hb dX8_number_52 rfl (lv_at hl 0 rfl) ?_
            refine gt_8_15 X wm_96 hP ix_28 dX8_number_53 ?_
            refine lv_iload_n hx hb dX8_number_56 rfl (lv_at hl 1 rfl) ?_
            refine lv_bipush (v := 10) hx hb dX8_number_57 (by decide) ?_
            refine lv_aload_n hx hb dX8_number_59 rfl (lv_at hl 0 rfl) ?_
            refine gt_8_15 X wm_96 hP ix_28 dX8_number_60 ?_
            refine lv_iload_n hx hb dX8_number_63 rfl (lv_at hl 1 rfl) ?_
            obtain ⟨g10, h⟩ := gd_e h
            refine mw_ld X hP ix_35 rfl (inb_vp g10) rfl dX8_number_64 ?_
            refine lv_imul hx hb dX8_number_65 ?_
            refine lv_aload_n hx hb dX8_number_66 rfl (lv_at hl 0 rfl) ?_
            refine gt_8_6 X wm_94 hP ix_28 dX8_number_67 ?_
            refine lv_aload_n hx hb dX8_number_70 rfl (lv_at hl 0 rfl) ?_
            refine gt_8_11 X wm_780 hP ix_28 dX8_number_71 ?_
            obtain ⟨g11, h⟩ := gd_e h
            refine mw_ld X hP ix_33 rfl (inb_vp g11) rfl dX8_number_74 ?_
            refine lv_iadd hx hb dX8_number_75 ?_
            refine lv_bipush (v := 48) hx hb dX8_number_76 (by decide) ?_
            refine lv_isub hx hb dX8_number_78 ?_
            obtain ⟨g13, h⟩ := gd_e h
            refine mw_st X hP hS ix_35 (fun _ => rfl) (inb_vp g13) rfl dX8_number_79 (fun H locs M12 eM12 hP hS => ?_)
            have h := bd_e h eM12
            refine lv_aload_n hx hb dX8_number_80 rfl (lv_at hl 0 rfl) ?_
            refine lv_dup hx hb dX8_number_81 rfl ?_
            refine gt_8_11 X wm_780 hP ix_28 dX8_number_82 ?_
            refine lv_iconst (v := 1) hx hb dX8_number_85 (by decide) ?_
            refine lv_iadd hx hb dX8_number_86 ?_
            refine pt_8_11 X wm_780 hP hS ix_28 dX8_number_87 (fun H locs M14 eM14 hP hS => ?_)
            have h := bd_e h eM14
            refine lv_goto (tgt := 12) hx hb dX8_number_90 (by decide) ?_
            exact ih12 _ _ _ _ _ _ _ h hP hS (lv_sub hl [0, 1, 2, 3] rfl)
  unfold f_X8_number at h
  refine lv_aload_n hx hb dX8_number_0 rfl (lv_at hl 0 rfl) ?_
  refine gt_8_11 X wm_780 hP ix_28 dX8_number_1 ?_
  refine lv_topi (fun x1 ex1 => ?_)
  have h := bd_e h ex1
  refine lv_istore_n (lv' := [(3, .int x1), (0, .ref (E.2.2 11 28)), (1, .int a1), (2, .int a2)]) hx hb dX8_number_4 rfl hl (by decide) rfl (fun ls hl => ?_)
  refine lv_aload_n hx hb dX8_number_5 rfl (lv_at hl 1 rfl) ?_
  refine gt_8_15 X wm_96 hP ix_28 dX8_number_6 ?_
  refine lv_iload_n hx hb dX8_number_9 rfl (lv_at hl 2 rfl) ?_
  refine lv_iconst (v := 0) hx hb dX8_number_10 (by decide) ?_
  obtain ⟨g3, h⟩ := gd_e h
  refine mw_st X hP hS ix_35 (fun _ => rfl) (inb_vp g3) rfl dX8_number_11 (fun H locs M2 eM2 hP hS => ?_)
  have h := bd_e h eM2
  exact w_L12 FU _ _ _ _ _ _ _ h hP hS (lv_sub hl [1, 2, 3, 0] rfl)
/-! SealedGroupsModel.isForm -/
noncomputable def f_X8_isForm_L18  (M : Mem) : Option (Int32 × Mem) :=
bd (st M 11 28 11 ((M 11 28 11) + (1 : Int32))) (fun M2 =>
bP (f_X8_passes M2 (59 : Int32)) (fun v3 M4 =>
gd (isB v3) (some (v3, M4))))
noncomputable def f_X8_isForm_L135  (M : Mem) : Option (Int32 × Mem) :=
bd (st M 11 28 11 ((M 11 28 11) + (1 : Int32))) (fun M10 =>
bP (f_X8_number M10 (0 : Int32) (1 : Int32)) (fun v11 M12 =>
(if v11 = 0 then
some ((0 : Int32), M12)
else
bP (f_X8_passes M12 (59 : Int32)) (fun v14 M15 =>
(if v14 = 0 then
some ((0 : Int32), M15)
else
some ((1 : Int32), M15))))))
noncomputable def f_X8_isForm  (M : Mem) (a1 : Int32) : Option (Int32 × Mem) :=
(if a1 = (99 : Int32) then
f_X8_isForm_L18 M
else
(if a1 = (120 : Int32) then
f_X8_isForm_L18 M
else
(if a1 = (114 : Int32) then
f_X8_isForm_L18 M
else
(if a1 = (119 : Int32) then
bd (st M 11 28 11 ((M 11 28 11) + (1 : Int32))) (fun M20 =>
bP (f_X8_number M20 (0 : Int32) (1 : Int32)) (fun v21 M22 =>
(if v21 = 0 then
some ((0 : Int32), M22)
else
bP (f_X8_passes M22 (44 : Int32)) (fun v24 M25 =>
(if v24 = 0 then
some ((0 : Int32), M25)
else
bP (f_X8_number M25 (1 : Int32) (1 : Int32)) (fun v27 M28 =>
(if v27 = 0 then
some ((0 : Int32), M28)
else
bP (f_X8_passes M28 (44 : Int32)) (fun v30 M31 =>
(if v30 = 0 then
some ((0 : Int32), M31)
else
bP (f_X8_number M31 (2 : Int32) (2 : Int32)) (fun v33 M34 =>
(if v33 = 0 then
some ((0 : Int32), M34)
else
bP (f_X8_passes M34 (59 : Int32)) (fun v36 M37 =>
(if v36 = 0 then
some ((0 : Int32), M37)
else
some ((1 : Int32), M37))))))))))))))
else
(if a1 = (98 : Int32) then
f_X8_isForm_L135 M
else
(if a1 = (115 : Int32) then
f_X8_isForm_L135 M
else
(if a1 = (116 : Int32) then
f_X8_isForm_L135 M
else
(if a1 = (111 : Int32) then
f_X8_isForm_L135 M
else
some ((0 : Int32), M)))))))))
theorem pk_X8_isForm : Pk "SealedGroupsModel" yX8_isForm cX8_isForm 2 (some .boolean) 1 := ⟨wm_785, wm_5, rfl, by decide +kernel⟩
theorem pv_X8_isForm : Cond.instanceMethod yX8_isForm ∈ wsL_law ∧ Cond.selects "SealedGroupsModel" yX8_isForm yX8_isForm ∈ wsL_law := ⟨wm_783, wm_784⟩
set_option maxHeartbeats 4000000 in
set_option maxRecDepth 100000 in
theorem c_X8_isForm (l : Launch) (E : En) (hA : AdOK E) {M : Mem} {a1 : Int32} {r0 : Int32} {M0 : Mem}  (h : f_X8_isForm M a1 = some (r0, M0)) : Met l yX8_isForm (Wm yX8_isForm cX8_isForm 2 (some .boolean)) ({ frames := 2, cells := 0, slots := 0, locals := 45 } : Room) (va_Pc [Value.ref (E.2.2 11 28), Value.int a1] (Wd E M)) (QI E r0 M0) 0 0 (AA E) := by
  refine Met.ofW (cc := cX8_isForm) (maxL := 2) (ret := (some .boolean)) (by decide +kernel) rfl ?_
  intro p e s m args below meth c s₁ B hml hv
  obtain ⟨rfl, hP, hK⟩ := hv
  have X : Cx E (AA E) p s m c _ cX8_isForm 2 RX8 := ⟨⟨B.exec, B.bytes, hml, findClass_of_methodNamed B.named, fun w hw => atoms_spec (ws := Wm yX8_isForm cX8_isForm 2 (some .boolean)) B.pre w (List.mem_cons_of_mem _ hw)⟩, hK, hA, fun _ h => h⟩
  have hx := B.exec
  have hb := B.bytes
  have hr := B.returns
  have hlocks := B.notSynchronized
  clear B hml
  have hS : va_S (AA E) s.heap s.heap [] := va_S.rf
  have hl := lv_entry ([Value.ref (E.2.2 11 28), Value.int a1]) (n := 2) (Nat.le_of_ble_eq_true rfl)
  rw [lg_entry_eq]
  generalize (lg_sl ([Value.ref (E.2.2 11 28), Value.int a1]) ++ List.replicate (2 - (lg_sl ([Value.ref (E.2.2 11 28), Value.int a1])).length) Slot.unset).toArray = ls at hl ⊢
  have hl : lv_has ls 2 [(0, .ref (E.2.2 11 28)), (1, .int a1)] := hl
  have w_L18 : ∀ (M : Mem) (H : Heap) (locs : List Loc) (ls : Array Slot), f_X8_isForm_L18  M = some (r0, M0) → va_P E.1 vwCl (wl E M) H → va_S (AA E) s.heap H locs → lv_has ls 2 [(0, .ref (E.2.2 11 28))] → W p l e (headSpec (Wm yX8_isForm cX8_isForm 2 (some .boolean)) ({ frames := 2, cells := 0, slots := 0, locals := 45 } : Room)).room s m ([Value.ref (E.2.2 11 28), Value.int a1] : List Value).toArray below meth c H locs 0 0 (MQ below (QI E r0 M0) ([Value.ref (E.2.2 11 28), Value.int a1] : List Value).toArray s 0 0 (AA E)) (F0 m 18 ls []) := by
    intro M H locs ls h hP hS hl
    unfold f_X8_isForm_L18 at h
    refine lv_aload_n hx hb dX8_isForm_18 rfl (lv_at hl 0 rfl) ?_
    refine lv_dup hx hb dX8_isForm_19 rfl ?_
    refine gt_8_11 X wm_780 hP ix_28 dX8_isForm_20 ?_
    refine lv_iconst (v := 1) hx hb dX8_isForm_23 (by decide) ?_
    refine lv_iadd hx hb dX8_isForm_24 ?_
    refine pt_8_11 X wm_780 hP hS ix_28 dX8_isForm_25 (fun H locs M2 eM2 hP hS => ?_)
    have h := bd_e h eM2
    refine lv_aload_n hx hb dX8_isForm_28 rfl (lv_at hl 0 rfl) ?_
    refine lv_bipush (v := 59) hx hb dX8_isForm_29 (by decide) ?_
    obtain ⟨v3, M4, hv3, h⟩ := bP_e h
    refine mw_callVi X (c_X8_passes l E hA hv3) pk_X8_passes pv_X8_passes wm_786 ⟨Nat.le_of_ble_eq_true rfl, Nat.le_of_ble_eq_true rfl⟩ ⟨rfl, rfl⟩ hP hS ix_28 rfl rfl rfl rfl hl.1 (Nat.le_of_ble_eq_true rfl) ⟨Nat.zero_le _, Nat.zero_le _⟩ rfl dX8_isForm_31 (fun H locs hP hS => ?_)
    obtain ⟨g5, h⟩ := gd_e h
    have h := Option.some.inj h
    exact mw_zret X hr hlocks hP hS g5 (congrArg Prod.fst h) (congrArg Prod.snd h) dX8_isForm_34
  have w_L135 : ∀ (M : Mem) (H : Heap) (locs : List Loc) (ls : Array Slot), f_X8_isForm_L135  M = some (r0, M0) → va_P E.1 vwCl (wl E M) H → va_S (AA E) s.heap H locs → lv_has ls 2 [(0, .ref (E.2.2 11 28))] → W p l e (headSpec (Wm yX8_isForm cX8_isForm 2 (some .boolean)) ({ frames := 2, cells := 0, slots := 0, locals := 45 } : Room)).room s m ([Value.ref (E.2.2 11 28), Value.int a1] : List Value).toArray below meth c H locs 0 0 (MQ below (QI E r0 M0) ([Value.ref (E.2.2 11 28), Value.int a1] : List Value).toArray s 0 0 (AA E)) (F0 m 135 ls []) := by
    intro M H locs ls h hP hS hl
    unfold f_X8_isForm_L135 at h
    refine lv_aload_n hx hb dX8_isForm_135 rfl (lv_at hl 0 rfl) ?_
    refine lv_dup hx hb dX8_isForm_136 rfl ?_
    refine gt_8_11 X wm_780 hP ix_28 dX8_isForm_137 ?_
    refine lv_iconst (v := 1) hx hb dX8_isForm_140 (by decide) ?_
    refine lv_iadd hx hb dX8_isForm_141 ?_
    refine pt_8_11 X wm_780 hP hS ix_28 dX8_isForm_142 (fun H locs M10 eM10 hP hS => ?_)
    have h := bd_e h eM10
    refine lv_aload_n hx hb dX8_isForm_145 rfl (lv_at hl 0 rfl) ?_
    refine lv_iconst (v := 0) hx hb dX8_isForm_146 (by decide) ?_
    refine lv_iconst (v := 1) hx hb dX8_isForm_147 (by decide) ?_
    obtain ⟨v11, M12, hv11, h⟩ := bP_e h
    refine mw_callVi X (c_X8_number l E hA hv11) pk_X8_number pv_X8_number wm_790 ⟨Nat.le_of_ble_eq_true rfl, Nat.le_of_ble_eq_true rfl⟩ ⟨rfl, rfl⟩ hP hS ix_28 rfl rfl rfl rfl hl.1 (Nat.le_of_ble_eq_true rfl) ⟨Nat.zero_le _, Nat.zero_le _⟩ rfl dX8_isForm_148 (fun H locs hP hS => ?_)
    refine lv_if_eq (tgt := 167) hx hb dX8_isForm_151 (by decide) (fun c13 => ?_) (fun c13 => ?_)
    · have h := br_1 h c13
      refine lv_iconst (v := 0) hx hb dX8_isForm_167 (by decide) ?_
      have h := Option.some.inj h
      exact mw_zret X hr hlocks hP hS (by decide) (congrArg Prod.fst h) (congrArg Prod.snd h) dX8_isForm_168
    · have h := br_0 h c13
      refine lv_aload_n hx hb dX8_isForm_154 rfl (lv_at hl 0 rfl) ?_
      refine lv_bipush (v := 59) hx hb dX8_isForm_155 (by decide) ?_
      obtain ⟨v14, M15, hv14, h⟩ := bP_e h
      refine mw_callVi X (c_X8_passes l E hA hv14) pk_X8_passes pv_X8_passes wm_786 ⟨Nat.le_of_ble_eq_true rfl, Nat.le_of_ble_eq_true rfl⟩ ⟨rfl, rfl⟩ hP hS ix_28 rfl rfl rfl rfl hl.1 (Nat.le_of_ble_eq_true rfl) ⟨Nat.zero_le _, Nat.zero_le _⟩ rfl dX8_isForm_157 (fun H locs hP hS => ?_)
      refine lv_if_eq (tgt := 167) hx hb dX8_isForm_160 (by decide) (fun c16 => ?_) (fun c16 => ?_)
      · have h := br_1 h c16
        refine lv_iconst (v := 0) hx hb dX8_isForm_167 (by decide) ?_
        have h := Option.some.inj h
        exact mw_zret X hr hlocks hP hS (by decide) (congrArg Prod.fst h) (congrArg Prod.snd h) dX8_isForm_168
      · have h := br_0 h c16
        refine lv_iconst (v := 1) hx hb dX8_isForm_163 (by decide) ?_
        refine lv_goto (tgt := 168) hx hb dX8_isForm_164 (by decide) ?_
        have h := Option.some.inj h
        exact mw_zret X hr hlocks hP hS (by decide) (congrArg Prod.fst h) (congrArg Prod.snd h) dX8_isForm_168
  unfold f_X8_isForm at h
  refine lv_iload_n hx hb dX8_isForm_0 rfl (lv_at hl 1 rfl) ?_
  refine lv_bipush (v := 99) hx hb dX8_isForm_1 (by decide) ?_
  refine lv_icmp_eq (tgt := 18) hx hb dX8_isForm_3 (by decide) (fun c1 => ?_) (fun c1 => ?_)
  · have h := br_1 h c1
    exact w_L18 _ _ _ _ h hP hS (lv_sub hl [0] rfl)
  · have h := br_0 h c1
    refine lv_iload_n hx hb dX8_isForm_6 rfl (lv_at hl 1 rfl) ?_
    refine lv_bipush (v := 120) hx hb dX8_isForm_7 (by decide) ?_
    refine lv_icmp_eq (tgt := 18) hx hb dX8_isForm_9 (by decide) (fun c6 => ?_) (fun c6 => ?_)
    · have h := br_1 h c6
      exact w_L18 _ _ _ _ h hP hS (lv_sub hl [0] rfl)
    · have h := br_0 h c6
      refine lv_iload_n hx hb dX8_isForm_12 rfl (lv_at hl 1 rfl) ?_
      refine lv_bipush (v := 114) hx hb dX8_isForm_13 (by decide) ?_
      refine lv_icmp_ne (tgt := 35) hx hb dX8_isForm_15 (by decide) (fun c7 => ?_) (fun c7 => ?_)
      · have h := br_0 h c7
        refine lv_iload_n hx hb dX8_isForm_35 rfl (lv_at hl 1 rfl) ?_
        refine lv_bipush (v := 119) hx hb dX8_isForm_36 (by decide) ?_
        refine lv_icmp_ne (tgt := 111) hx hb dX8_isForm_38 (by decide) (fun c8 => ?_) (fun c8 => ?_)
        · have h := br_0 h c8
          refine lv_iload_n hx hb dX8_isForm_111 rfl (lv_at hl 1 rfl) ?_
          refine lv_bipush (v := 98) hx hb dX8_isForm_112 (by decide) ?_
          refine lv_icmp_eq (tgt := 135) hx hb dX8_isForm_114 (by decide) (fun c9 => ?_) (fun c9 => ?_)
          · have h := br_1 h c9
            exact w_L135 _ _ _ _ h hP hS (lv_sub hl [0] rfl)
          · have h := br_0 h c9
            refine lv_iload_n hx hb dX8_isForm_117 rfl (lv_at hl 1 rfl) ?_
            refine lv_bipush (v := 115) hx hb dX8_isForm_118 (by decide) ?_
            refine lv_icmp_eq (tgt := 135) hx hb dX8_isForm_120 (by decide) (fun c17 => ?_) (fun c17 => ?_)
            · have h := br_1 h c17
              exact w_L135 _ _ _ _ h hP hS (lv_sub hl [0] rfl)
            · have h := br_0 h c17
              refine lv_iload_n hx hb dX8_isForm_123 rfl (lv_at hl 1 rfl) ?_
              refine lv_bipush (v := 116) hx hb dX8_isForm_124 (by decide) ?_
              refine lv_icmp_eq (tgt := 135) hx hb dX8_isForm_126 (by decide) (fun c18 => ?_) (fun c18 => ?_)
              · have h := br_1 h c18
                exact w_L135 _ _ _ _ h hP hS (lv_sub hl [0] rfl)
              · have h := br_0 h c18
                refine lv_iload_n hx hb dX8_isForm_129 rfl (lv_at hl 1 rfl) ?_
                refine lv_bipush (v := 111) hx hb dX8_isForm_130 (by decide) ?_
                refine lv_icmp_ne (tgt := 169) hx hb dX8_isForm_132 (by decide) (fun c19 => ?_) (fun c19 => ?_)
                · have h := br_0 h c19
                  refine lv_iconst (v := 0) hx hb dX8_isForm_169 (by decide) ?_
                  have h := Option.some.inj h
                  exact mw_zret X hr hlocks hP hS (by decide) (congrArg Prod.fst h) (congrArg Prod.snd h) dX8_isForm_170
                · have h := br_1 h c19
                  exact w_L135 _ _ _ _ h hP hS (lv_sub hl [0] rfl)
        · have h := br_1 h c8
          refine lv_aload_n hx hb dX8_isForm_41 rfl (lv_at hl 0 rfl) ?_
          refine lv_dup hx hb dX8_isForm_42 rfl ?_
          refine gt_8_11 X wm_780 hP ix_28 dX8_isForm_43 ?_
          refine lv_iconst (v := 1) hx hb dX8_isForm_46 (by decide) ?_
          refine lv_iadd hx hb dX8_isForm_47 ?_
          refine pt_8_11 X wm_780 hP hS ix_28 dX8_isForm_48 (fun H locs M20 eM20 hP hS => ?_)
          have h := bd_e h eM20
          refine lv_aload_n hx hb dX8_isForm_51 rfl (lv_at hl 0 rfl) ?_
          refine lv_iconst (v := 0) hx hb dX8_isForm_52 (by decide) ?_
          refine lv_iconst (v := 1) hx hb dX8_isForm_53 (by decide) ?_
          obtain ⟨v21, M22, hv21, h⟩ := bP_e h
          refine mw_callVi X (c_X8_number l E hA hv21) pk_X8_number pv_X8_number wm_790 ⟨Nat.le_of_ble_eq_true rfl, Nat.le_of_ble_eq_true rfl⟩ ⟨rfl, rfl⟩ hP hS ix_28 rfl rfl rfl rfl hl.1 (Nat.le_of_ble_eq_true rfl) ⟨Nat.zero_le _, Nat.zero_le _⟩ rfl dX8_isForm_54 (fun H locs hP hS => ?_)
          refine lv_if_eq (tgt := 109) hx hb dX8_isForm_57 (by decide) (fun c23 => ?_) (fun c23 => ?_)
          · have h := br_1 h c23
            refine lv_iconst (v := 0) hx hb dX8_isForm_109 (by decide) ?_
            have h := Option.some.inj h
            exact mw_zret X hr hlocks hP hS (by decide) (congrArg Prod.fst h) (congrArg Prod.snd h) dX8_isForm_110
          · have h := br_0 h c23
            refine lv_aload_n hx hb dX8_isForm_60 rfl (lv_at hl 0 rfl) ?_
            refine lv_bipush (v := 44) hx hb dX8_isForm_61 (by decide) ?_
            obtain ⟨v24, M25, hv24, h⟩ := bP_e h
            refine mw_callVi X (c_X8_passes l E hA hv24) pk_X8_passes pv_X8_passes wm_786 ⟨Nat.le_of_ble_eq_true rfl, Nat.le_of_ble_eq_true rfl⟩ ⟨rfl, rfl⟩ hP hS ix_28 rfl rfl rfl rfl hl.1 (Nat.le_of_ble_eq_true rfl) ⟨Nat.zero_le _, Nat.zero_le _⟩ rfl dX8_isForm_63 (fun H locs hP hS => ?_)
            refine lv_if_eq (tgt := 109) hx hb dX8_isForm_66 (by decide) (fun c26 => ?_) (fun c26 => ?_)
            · have h := br_1 h c26
              refine lv_iconst (v := 0) hx hb dX8_isForm_109 (by decide) ?_
              have h := Option.some.inj h
              exact mw_zret X hr hlocks hP hS (by decide) (congrArg Prod.fst h) (congrArg Prod.snd h) dX8_isForm_110
            · have h := br_0 h c26
              refine lv_aload_n hx hb dX8_isForm_69 rfl (lv_at hl 0 rfl) ?_
              refine lv_iconst (v := 1) hx hb dX8_isForm_70 (by decide) ?_
              refine lv_iconst (v := 1) hx hb dX8_isForm_71 (by decide) ?_
              obtain ⟨v27, M28, hv27, h⟩ := bP_e h
              refine mw_callVi X (c_X8_number l E hA hv27) pk_X8_number pv_X8_number wm_790 ⟨Nat.le_of_ble_eq_true rfl, Nat.le_of_ble_eq_true rfl⟩ ⟨rfl, rfl⟩ hP hS ix_28 rfl rfl rfl rfl hl.1 (Nat.le_of_ble_eq_true rfl) ⟨Nat.zero_le _, Nat.zero_le _⟩ rfl dX8_isForm_72 (fun H locs hP hS => ?_)
              refine lv_if_eq (tgt := 109) hx hb dX8_isForm_75 (by decide) (fun c29 => ?_) (fun c29 => ?_)
              · have h := br_1 h c29
                refine lv_iconst (v := 0) hx hb dX8_isForm_109 (by decide) ?_
                have h := Option.some.inj h
                exact mw_zret X hr hlocks hP hS (by decide) (congrArg Prod.fst h) (congrArg Prod.snd h) dX8_isForm_110
              · have h := br_0 h c29
                refine lv_aload_n hx hb dX8_isForm_78 rfl (lv_at hl 0 rfl) ?_
                refine lv_bipush (v := 44) hx hb dX8_isForm_79 (by decide) ?_
                obtain ⟨v30, M31, hv30, h⟩ := bP_e h
                refine mw_callVi X (c_X8_passes l E hA hv30) pk_X8_passes pv_X8_passes wm_786 ⟨Nat.le_of_ble_eq_true rfl, Nat.le_of_ble_eq_true rfl⟩ ⟨rfl, rfl⟩ hP hS ix_28 rfl rfl rfl rfl hl.1 (Nat.le_of_ble_eq_true rfl) ⟨Nat.zero_le _, Nat.zero_le _⟩ rfl dX8_isForm_81 (fun H locs hP hS => ?_)
                refine lv_if_eq (tgt := 109) hx hb dX8_isForm_84 (by decide) (fun c32 => ?_) (fun c32 => ?_)
                · have h := br_1 h c32
                  refine lv_iconst (v := 0) hx hb dX8_isForm_109 (by decide) ?_
                  have h := Option.some.inj h
                  exact mw_zret X hr hlocks hP hS (by decide) (congrArg Prod.fst h) (congrArg Prod.snd h) dX8_isForm_110
                · have h := br_0 h c32
                  refine lv_aload_n hx hb dX8_isForm_87 rfl (lv_at hl 0 rfl) ?_
                  refine lv_iconst (v := 2) hx hb dX8_isForm_88 (by decide) ?_
                  refine lv_iconst (v := 2) hx hb dX8_isForm_89 (by decide) ?_
                  obtain ⟨v33, M34, hv33, h⟩ := bP_e h
                  refine mw_callVi X (c_X8_number l E hA hv33) pk_X8_number pv_X8_number wm_790 ⟨Nat.le_of_ble_eq_true rfl, Nat.le_of_ble_eq_true rfl⟩ ⟨rfl, rfl⟩ hP hS ix_28 rfl rfl rfl rfl hl.1 (Nat.le_of_ble_eq_true rfl) ⟨Nat.zero_le _, Nat.zero_le _⟩ rfl dX8_isForm_90 (fun H locs hP hS => ?_)
                  refine lv_if_eq (tgt := 109) hx hb dX8_isForm_93 (by decide) (fun c35 => ?_) (fun c35 => ?_)
                  · have h := br_1 h c35
                    refine lv_iconst (v := 0) hx hb dX8_isForm_109 (by decide) ?_
                    have h := Option.some.inj h
                    exact mw_zret X hr hlocks hP hS (by decide) (congrArg Prod.fst h) (congrArg Prod.snd h) dX8_isForm_110
                  · have h := br_0 h c35
                    refine lv_aload_n hx hb dX8_isForm_96 rfl (lv_at hl 0 rfl) ?_
                    refine lv_bipush (v := 59) hx hb dX8_isForm_97 (by decide) ?_
                    obtain ⟨v36, M37, hv36, h⟩ := bP_e h
                    refine mw_callVi X (c_X8_passes l E hA hv36) pk_X8_passes pv_X8_passes wm_786 ⟨Nat.le_of_ble_eq_true rfl, Nat.le_of_ble_eq_true rfl⟩ ⟨rfl, rfl⟩ hP hS ix_28 rfl rfl rfl rfl hl.1 (Nat.le_of_ble_eq_true rfl) ⟨Nat.zero_le _, Nat.zero_le _⟩ rfl dX8_isForm_99 (fun H locs hP hS => ?_)
                    refine lv_if_eq (tgt := 109) hx hb dX8_isForm_102 (by decide) (fun c38 => ?_) (fun c38 => ?_)
                    · have h := br_1 h c38
                      refine lv_iconst (v := 0) hx hb dX8_isForm_109 (by decide) ?_
                      have h := Option.some.inj h
                      exact mw_zret X hr hlocks hP hS (by decide) (congrArg Prod.fst h) (congrArg Prod.snd h) dX8_isForm_110
                    · have h := br_0 h c38
                      refine lv_iconst (v := 1) hx hb dX8_isForm_105 (by decide) ?_
                      refine lv_goto (tgt := 110) hx hb dX8_isForm_106 (by decide) ?_
                      have h := Option.some.inj h
                      exact mw_zret X hr hlocks hP hS (by decide) (congrArg Prod.fst h) (congrArg Prod.snd h) dX8_isForm_110
      · have h := br_1 h c7
        exact w_L18 _ _ _ _ h hP hS (lv_sub hl [0] rfl)
/-! SealedGroupsModel.calls -/
noncomputable def f_X8_calls_L186  (M : Mem) : Option (Int32 × Mem) :=
bP (f_X8_restart M) (fun v8 M9 =>
some (v8, M9))
noncomputable def f_X8_calls  (M : Mem) (a1 : Int32) : Option (Int32 × Mem) :=
(if a1 = (98 : Int32) then
bP (f_X8_begin M (M 11 35 0)) (fun v2 M3 =>
some (v2, M3))
else if a1 = (99 : Int32) then
bP (f_X8_checkpoint M) (fun v5 M6 =>
some (v5, M6))
else if a1 = (100 : Int32) then
f_X8_calls_L186 M
else if a1 = (101 : Int32) then
f_X8_calls_L186 M
else if a1 = (102 : Int32) then
f_X8_calls_L186 M
else if a1 = (103 : Int32) then
f_X8_calls_L186 M
else if a1 = (104 : Int32) then
f_X8_calls_L186 M
else if a1 = (105 : Int32) then
f_X8_calls_L186 M
else if a1 = (106 : Int32) then
f_X8_calls_L186 M
else if a1 = (107 : Int32) then
f_X8_calls_L186 M
else if a1 = (108 : Int32) then
f_X8_calls_L186 M
else if a1 = (109 : Int32) then
f_X8_calls_L186 M
else if a1 = (110 : Int32) then
f_X8_calls_L186 M
else if a1 = (111 : Int32) then
bP (f_X8_writeOut M (M 11 35 0)) (fun v21 M22 =>
some (v21, M22))
else if a1 = (112 : Int32) then
f_X8_calls_L186 M
else if a1 = (113 : Int32) then
f_X8_calls_L186 M
else if a1 = (114 : Int32) then
f_X8_calls_L186 M
else if a1 = (115 : Int32) then
bP (f_X8_settle M (M 11 35 0)) (fun v27 M28 =>
some (v27, M28))
else if a1 = (116 : Int32) then
bP (f_X8_takeBack M (M 11 35 0)) (fun v30 M31 =>
some (v30, M31))
else if a1 = (117 : Int32) then
f_X8_calls_L186 M
else if a1 = (118 : Int32) then
f_X8_calls_L186 M
else if a1 = (119 : Int32) then
bP (f_X8_write M (M 11 35 0) (M 11 35 1) (M 11 35 2)) (fun v35 M36 =>
some (v35, M36))
else if a1 = (120 : Int32) then
bP (f_X8_stop M (0 : Int32)) (fun v38 M39 =>
some (v38, M39))
else 
f_X8_calls_L186 M)
theorem pk_X8_calls : Pk "SealedGroupsModel" yX8_calls cX8_calls 2 (some .int) 1 := ⟨wm_797, wm_5, rfl, by decide +kernel⟩
theorem pv_X8_calls : Cond.instanceMethod yX8_calls ∈ wsL_law ∧ Cond.selects "SealedGroupsModel" yX8_calls yX8_calls ∈ wsL_law := ⟨wm_795, wm_796⟩
set_option maxHeartbeats 4000000 in
set_option maxRecDepth 100000 in
theorem c_X8_calls (l : Launch) (E : En) (hA : AdOK E) {M : Mem} {a1 : Int32} {r0 : Int32} {M0 : Mem}  (h : f_X8_calls M a1 = some (r0, M0)) : Met l yX8_calls (Wm yX8_calls cX8_calls 2 (some .int)) ({ frames := 7, cells := 0, slots := 0, locals := 158 } : Room) (va_Pc [Value.ref (E.2.2 11 28), Value.int a1] (Wd E M)) (QI E r0 M0) 0 0 (AA E) := by
  refine Met.ofW (cc := cX8_calls) (maxL := 2) (ret := (some .int)) (by decide +kernel) rfl ?_
  intro p e s m args below meth c s₁ B hml hv
  obtain ⟨rfl, hP, hK⟩ := hv
  have X : Cx E (AA E) p s m c _ cX8_calls 2 RX8 := ⟨⟨B.exec, B.bytes, hml, findClass_of_methodNamed B.named, fun w hw => atoms_spec (ws := Wm yX8_calls cX8_calls 2 (some .int)) B.pre w (List.mem_cons_of_mem _ hw)⟩, hK, hA, fun _ h => h⟩
  have hx := B.exec
  have hb := B.bytes
  have hr := B.returns
  have hlocks := B.notSynchronized
  clear B hml
  have hS : va_S (AA E) s.heap s.heap [] := va_S.rf
  have hl := lv_entry ([Value.ref (E.2.2 11 28), Value.int a1]) (n := 2) (Nat.le_of_ble_eq_true rfl)
  rw [lg_entry_eq]
  generalize (lg_sl ([Value.ref (E.2.2 11 28), Value.int a1]) ++ List.replicate (2 - (lg_sl ([Value.ref (E.2.2 11 28), Value.int a1])).length) Slot.unset).toArray = ls at hl ⊢
  have hl : lv_has ls 2 [(0, .ref (E.2.2 11 28)), (1, .int a1)] := hl
  have w_L186 : ∀ (M : Mem) (H : Heap) (locs : List Loc) (ls : Array Slot), f_X8_calls_L186  M = some (r0, M0) → va_P E.1 vwCl (wl E M) H → va_S (AA E) s.heap H locs → lv_has ls 2 [(0, .ref (E.2.2 11 28))] → W p l e (headSpec (Wm yX8_calls cX8_calls 2 (some .int)) ({ frames := 7, cells := 0, slots := 0, locals := 158 } : Room)).room s m ([Value.ref (E.2.2 11 28), Value.int a1] : List Value).toArray below meth c H locs 0 0 (MQ below (QI E r0 M0) ([Value.ref (E.2.2 11 28), Value.int a1] : List Value).toArray s 0 0 (AA E)) (F0 m 186 ls []) := by
    intro M H locs ls h hP hS hl
    unfold f_X8_calls_L186 at h
    refine lv_aload_n hx hb dX8_calls_186 rfl (lv_at hl 0 rfl) ?_
    obtain ⟨v8, M9, hv8, h⟩ := bP_e h
    refine mw_callVi X (c_X8_restart l E hA hv8) pk_X8_restart pv_X8_restart wm_805 ⟨Nat.le_of_ble_eq_true rfl, Nat.le_of_ble_eq_true rfl⟩ ⟨rfl, rfl⟩ hP hS ix_28 rfl rfl rfl rfl hl.1 (Nat.le_of_ble_eq_true rfl) ⟨Nat.zero_le _, Nat.zero_le _⟩ rfl dX8_calls_187 (fun H locs hP hS => ?_)
    have h := Option.some.inj h
    exact mw_iret X hr hlocks hP hS (congrArg Prod.fst h) (congrArg Prod.snd h) dX8_calls_190
  unfold f_X8_calls at h
  refine lv_iload_n hx hb dX8_calls_0 rfl (lv_at hl 1 rfl) ?_
  by_cases c1 : a1 = (98 : Int32)
  · have h := br_1 h c1
    refine lv_tableIn (tgt := 108) hx hb dX8_calls_1 (by rw [c1] <;> decide) (by rw [c1] <;> decide) (by rw [c1] <;> rfl) (by decide) ?_
    refine lv_aload_n hx hb dX8_calls_108 rfl (lv_at hl 0 rfl) ?_
    refine lv_aload_n hx hb dX8_calls_109 rfl (lv_at hl 0 rfl) ?_
    refine gt_8_15 X wm_96 hP ix_28 dX8_calls_110 ?_
    refine lv_iconst (v := 0) hx hb dX8_calls_113 (by decide) ?_
    refine mw_ld X hP ix_35 rfl (v := (M 11 35 0)) (inb_vp (by decide)) rfl dX8_calls_114 ?_
    obtain ⟨v2, M3, hv2, h⟩ := bP_e h
    refine mw_callVi X (c_X8_begin l E hA hv2) pk_X8_begin pv_X8_begin wm_798 ⟨Nat.le_of_ble_eq_true rfl, Nat.le_of_ble_eq_true rfl⟩ ⟨rfl, rfl⟩ hP hS ix_28 rfl rfl rfl rfl hl.1 (Nat.le_of_ble_eq_true rfl) ⟨Nat.zero_le _, Nat.zero_le _⟩ rfl dX8_calls_115 (fun H locs hP hS => ?_)
    have h := Option.some.inj h
    exact mw_iret X hr hlocks hP hS (congrArg Prod.fst h) (congrArg Prod.snd h) dX8_calls_118
  have h := br_0 h c1
  by_cases c4 : a1 = (99 : Int32)
  · have h := br_1 h c4
    refine lv_tableIn (tgt := 175) hx hb dX8_calls_1 (by rw [c4] <;> decide) (by rw [c4] <;> decide) (by rw [c4] <;> rfl) (by decide) ?_
    refine lv_aload_n hx hb dX8_calls_175 rfl (lv_at hl 0 rfl) ?_
    obtain ⟨v5, M6, hv5, h⟩ := bP_e h
    refine mw_callVi X (c_X8_checkpoint l E hA hv5) pk_X8_checkpoint pv_X8_checkpoint wm_803 ⟨Nat.le_of_ble_eq_true rfl, Nat.le_of_ble_eq_true rfl⟩ ⟨rfl, rfl⟩ hP hS ix_28 rfl rfl rfl rfl hl.1 (Nat.le_of_ble_eq_true rfl) ⟨Nat.zero_le _, Nat.zero_le _⟩ rfl dX8_calls_176 (fun H locs hP hS => ?_)
    have h := Option.some.inj h
    exact mw_iret X hr hlocks hP hS (congrArg Prod.fst h) (congrArg Prod.snd h) dX8_calls_179
  have h := br_0 h c4
  by_cases c7 : a1 = (100 : Int32)
  · have h := br_1 h c7
    refine lv_tableIn (tgt := 186) hx hb dX8_calls_1 (by rw [c7] <;> decide) (by rw [c7] <;> decide) (by rw [c7] <;> rfl) (by decide) ?_
    exact w_L186 _ _ _ _ h hP hS (lv_sub hl [0] rfl)
  have h := br_0 h c7
  by_cases c10 : a1 = (101 : Int32)
  · have h := br_1 h c10
    refine lv_tableIn (tgt := 186) hx hb dX8_calls_1 (by rw [c10] <;> decide) (by rw [c10] <;> decide) (by rw [c10] <;> rfl) (by decide) ?_
    exact w_L186 _ _ _ _ h hP hS (lv_sub hl [0] rfl)
  have h := br_0 h c10
  by_cases c11 : a1 = (102 : Int32)
  · have h := br_1 h c11
    refine lv_tableIn (tgt := 186) hx hb dX8_calls_1 (by rw [c11] <;> decide) (by rw [c11] <;> decide) (by rw [c11] <;> rfl) (by decide) ?_
    exact w_L186 _ _ _ _ h hP hS (lv_sub hl [0] rfl)
  have h := br_0 h c11
  by_cases c12 : a1 = (103 : Int32)
  · have h := br_1 h c12
    refine lv_tableIn (tgt := 186) hx hb dX8_calls_1 (by rw [c12] <;> decide) (by rw [c12] <;> decide) (by rw [c12] <;> rfl) (by decide) ?_
    exact w_L186 _ _ _ _ h hP hS (lv_sub hl [0] rfl)
  have h := br_0 h c12
  by_cases c13 : a1 = (104 : Int32)
  · have h := br_1 h c13
    refine lv_tableIn (tgt := 186) hx hb dX8_calls_1 (by rw [c13] <;> decide) (by rw [c13] <;> decide) (by rw [c13] <;> rfl) (by decide) ?_
    exact w_L186 _ _ _ _ h hP hS (lv_sub hl [0] rfl)
  have h := br_0 h c13
  by_cases c14 : a1 = (105 : Int32)
  · have h := br_1 h c14
    refine lv_tableIn (tgt := 186) hx hb dX8_calls_1 (by rw [c14] <;> decide) (by rw [c14] <;> decide) (by rw [c14] <;> rfl) (by decide) ?_
    exact w_L186 _ _ _ _ h hP hS (lv_sub hl [0] rfl)
  have h := br_0 h c14
  by_cases c15 : a1 = (106 : Int32)
  · have h := br_1 h c15
    refine lv_tableIn (tgt := 186) hx hb dX8_calls_1 (by rw [c15] <;> decide) (by rw [c15] <;> decide) (by rw [c15] <;> rfl) (by decide) ?_
    exact w_L186 _ _ _ _ h hP hS (lv_sub hl [0] rfl)
  have h := br_0 h c15
  by_cases c16 : a1 = (107 : Int32)
  · have h := br_1 h c16
    refine lv_tableIn (tgt := 186) hx hb dX8_calls_1 (by rw [c16] <;> decide) (by rw [c16] <;> decide) (by rw [c16] <;> rfl) (by decide) ?_
    exact w_L186 _ _ _ _ h hP hS (lv_sub hl [0] rfl)
  have h := br_0 h c16
  by_cases c17 : a1 = (108 : Int32)
  · have h := br_1 h c17
    refine lv_tableIn (tgt := 186) hx hb dX8_calls_1 (by rw [c17] <;> decide) (by rw [c17] <;> decide) (by rw [c17] <;> rfl) (by decide) ?_
    exact w_L186 _ _ _ _ h hP hS (lv_sub hl [0] rfl)
  have h := br_0 h c17
  by_cases c18 : a1 = (109 : Int32)
  · have h := br_1 h c18
    refine lv_tableIn (tgt := 186) hx hb dX8_calls_1 (by rw [c18] <;> decide) (by rw [c18] <;> decide) (by rw [c18] <;> rfl) (by decide) ?_
    exact w_L186 _ _ _ _ h hP hS (lv_sub hl [0] rfl)
  have h := br_0 h c18
  by_cases c19 : a1 = (110 : Int32)
  · have h := br_1 h c19
    refine lv_tableIn (tgt := 186) hx hb dX8_calls_1 (by rw [c19] <;> decide) (by rw [c19] <;> decide) (by rw [c19] <;> rfl) (by decide) ?_
    exact w_L186 _ _ _ _ h hP hS (lv_sub hl [0] rfl)
  have h := br_0 h c19
  by_cases c20 : a1 = (111 : Int32)
  · have h := br_1 h c20
    refine lv_tableIn (tgt := 164) hx hb dX8_calls_1 (by rw [c20] <;> decide) (by rw [c20] <;> decide) (by rw [c20] <;> rfl) (by decide) ?_
    refine lv_aload_n hx hb dX8_calls_164 rfl (lv_at hl 0 rfl) ?_
    refine lv_aload_n hx hb dX8_calls_165 rfl (lv_at hl 0 rfl) ?_
    refine gt_8_15 X wm_96 hP ix_28 dX8_calls_166 ?_
    refine lv_iconst (v := 0) hx hb dX8_calls_169 (by decide) ?_
    refine mw_ld X hP ix_35 rfl (v := (M 11 35 0)) (inb_vp (by decide)) rfl dX8_calls_170 ?_
    obtain ⟨v21, M22, hv21, h⟩ := bP_e h
    refine mw_callVi X (c_X8_writeOut l E hA hv21) pk_X8_writeOut pv_X8_writeOut wm_802 ⟨Nat.le_of_ble_eq_true rfl, Nat.le_of_ble_eq_true rfl⟩ ⟨rfl, rfl⟩ hP hS ix_28 rfl rfl rfl rfl hl.1 (Nat.le_of_ble_eq_true rfl) ⟨Nat.zero_le _, Nat.zero_le _⟩ rfl dX8_calls_171 (fun H locs hP hS => ?_)
    have h := Option.some.inj h
    exact mw_iret X hr hlocks hP hS (congrArg Prod.fst h) (congrArg Prod.snd h) dX8_calls_174
  have h := br_0 h c20
  by_cases c23 : a1 = (112 : Int32)
  · have h := br_1 h c23
    refine lv_tableIn (tgt := 186) hx hb dX8_calls_1 (by rw [c23] <;> decide) (by rw [c23] <;> decide) (by rw [c23] <;> rfl) (by decide) ?_
    exact w_L186 _ _ _ _ h hP hS (lv_sub hl [0] rfl)
  have h := br_0 h c23
  by_cases c24 : a1 = (113 : Int32)
  · have h := br_1 h c24
    refine lv_tableIn (tgt := 186) hx hb dX8_calls_1 (by rw [c24] <;> decide) (by rw [c24] <;> decide) (by rw [c24] <;> rfl) (by decide) ?_
    exact w_L186 _ _ _ _ h hP hS (lv_sub hl [0] rfl)
  have h := br_0 h c24
  by_cases c25 : a1 = (114 : Int32)
  · have h := br_1 h c25
    refine lv_tableIn (tgt := 186) hx hb dX8_calls_1 (by rw [c25] <;> decide) (by rw [c25] <;> decide) (by rw [c25] <;> rfl) (by decide) ?_
    exact w_L186 _ _ _ _ h hP hS (lv_sub hl [0] rfl)
  have h := br_0 h c25
  by_cases c26 : a1 = (115 : Int32)
  · have h := br_1 h c26
    refine lv_tableIn (tgt := 142) hx hb dX8_calls_1 (by rw [c26] <;> decide) (by rw [c26] <;> decide) (by rw [c26] <;> rfl) (by decide) ?_
    refine lv_aload_n hx hb dX8_calls_142 rfl (lv_at hl 0 rfl) ?_
    refine lv_aload_n hx hb dX8_calls_143 rfl (lv_at hl 0 rfl) ?_
    refine gt_8_15 X wm_96 hP ix_28 dX8_calls_144 ?_
    refine lv_iconst (v := 0) hx hb dX8_calls_147 (by decide) ?_
    refine mw_ld X hP ix_35 rfl (v := (M 11 35 0)) (inb_vp (by decide)) rfl dX8_calls_148 ?_
    obtain ⟨v27, M28, hv27, h⟩ := bP_e h
    refine mw_callVi X (c_X8_settle l E hA hv27) pk_X8_settle pv_X8_settle wm_800 ⟨Nat.le_of_ble_eq_true rfl, Nat.le_of_ble_eq_true rfl⟩ ⟨rfl, rfl⟩ hP hS ix_28 rfl rfl rfl rfl hl.1 (Nat.le_of_ble_eq_true rfl) ⟨Nat.zero_le _, Nat.zero_le _⟩ rfl dX8_calls_149 (fun H locs hP hS => ?_)
    have h := Option.some.inj h
    exact mw_iret X hr hlocks hP hS (congrArg Prod.fst h) (congrArg Prod.snd h) dX8_calls_152
  have h := br_0 h c26
  by_cases c29 : a1 = (116 : Int32)
  · have h := br_1 h c29
    refine lv_tableIn (tgt := 153) hx hb dX8_calls_1 (by rw [c29] <;> decide) (by rw [c29] <;> decide) (by rw [c29] <;> rfl) (by decide) ?_
    refine lv_aload_n hx hb dX8_calls_153 rfl (lv_at hl 0 rfl) ?_
    refine lv_aload_n hx hb dX8_calls_154 rfl (lv_at hl 0 rfl) ?_
    refine gt_8_15 X wm_96 hP ix_28 dX8_calls_155 ?_
    refine lv_iconst (v := 0) hx hb dX8_calls_158 (by decide) ?_
    refine mw_ld X hP ix_35 rfl (v := (M 11 35 0)) (inb_vp (by decide)) rfl dX8_calls_159 ?_
    obtain ⟨v30, M31, hv30, h⟩ := bP_e h
    refine mw_callVi X (c_X8_takeBack l E hA hv30) pk_X8_takeBack pv_X8_takeBack wm_801 ⟨Nat.le_of_ble_eq_true rfl, Nat.le_of_ble_eq_true rfl⟩ ⟨rfl, rfl⟩ hP hS ix_28 rfl rfl rfl rfl hl.1 (Nat.le_of_ble_eq_true rfl) ⟨Nat.zero_le _, Nat.zero_le _⟩ rfl dX8_calls_160 (fun H locs hP hS => ?_)
    have h := Option.some.inj h
    exact mw_iret X hr hlocks hP hS (congrArg Prod.fst h) (congrArg Prod.snd h) dX8_calls_163
  have h := br_0 h c29
  by_cases c32 : a1 = (117 : Int32)
  · have h := br_1 h c32
    refine lv_tableIn (tgt := 186) hx hb dX8_calls_1 (by rw [c32] <;> decide) (by rw [c32] <;> decide) (by rw [c32] <;> rfl) (by decide) ?_
    exact w_L186 _ _ _ _ h hP hS (lv_sub hl [0] rfl)
  have h := br_0 h c32
  by_cases c33 : a1 = (118 : Int32)
  · have h := br_1 h c33
    refine lv_tableIn (tgt := 186) hx hb dX8_calls_1 (by rw [c33] <;> decide) (by rw [c33] <;> decide) (by rw [c33] <;> rfl) (by decide) ?_
    exact w_L186 _ _ _ _ h hP hS (lv_sub hl [0] rfl)
  have h := br_0 h c33
  by_cases c34 : a1 = (119 : Int32)
  · have h := br_1 h c34
    refine lv_tableIn (tgt := 119) hx hb dX8_calls_1 (by rw [c34] <;> decide) (by rw [c34] <;> decide) (by rw [c34] <;> rfl) (by decide) ?_
    refine lv_aload_n hx hb dX8_calls_119 rfl (lv_at hl 0 rfl) ?_
    refine lv_aload_n hx hb dX8_calls_120 rfl (lv_at hl 0 rfl) ?_
    refine gt_8_15 X wm_96 hP ix_28 dX8_calls_121 ?_
    refine lv_iconst (v := 0) hx hb dX8_calls_124 (by decide) ?_
    refine mw_ld X hP ix_35 rfl (v := (M 11 35 0)) (inb_vp (by decide)) rfl dX8_calls_125 ?_
    refine lv_aload_n hx hb dX8_calls_126 rfl (lv_at hl 0 rfl) ?_
    refine gt_8_15 X wm_96 hP ix_28 dX8_calls_127 ?_
    refine lv_iconst (v := 1) hx hb dX8_calls_130 (by decide) ?_
    refine mw_ld X hP ix_35 rfl (v := (M 11 35 1)) (inb_vp (by decide)) rfl dX8_calls_131 ?_
    refine lv_aload_n hx hb dX8_calls_132 rfl (lv_at hl 0 rfl) ?_
    refine gt_8_15 X wm_96 hP ix_28 dX8_calls_133 ?_
    refine lv_iconst (v := 2) hx hb dX8_calls_136 (by decide) ?_
    refine mw_ld X hP ix_35 rfl (v := (M 11 35 2)) (inb_vp (by decide)) rfl dX8_calls_137 ?_
    obtain ⟨v35, M36, hv35, h⟩ := bP_e h
    refine mw_callVi X (c_X8_write l E hA hv35) pk_X8_write pv_X8_write wm_799 ⟨Nat.le_of_ble_eq_true rfl, Nat.le_of_ble_eq_true rfl⟩ ⟨rfl, rfl⟩ hP hS ix_28 rfl rfl rfl rfl hl.1 (Nat.le_of_ble_eq_true rfl) ⟨Nat.zero_le _, Nat.zero_le _⟩ rfl dX8_calls_138 (fun H locs hP hS => ?_)
    have h := Option.some.inj h
    exact mw_iret X hr hlocks hP hS (congrArg Prod.fst h) (congrArg Prod.snd h) dX8_calls_141
  have h := br_0 h c34
  by_cases c37 : a1 = (120 : Int32)
  · have h := br_1 h c37
    refine lv_tableIn (tgt := 180) hx hb dX8_calls_1 (by rw [c37] <;> decide) (by rw [c37] <;> decide) (by rw [c37] <;> rfl) (by decide) ?_
    refine lv_aload_n hx hb dX8_calls_180 rfl (lv_at hl 0 rfl) ?_
    refine lv_iconst (v := 0) hx hb dX8_calls_181 (by decide) ?_
    obtain ⟨v38, M39, hv38, h⟩ := bP_e h
    refine mw_callVi X (c_X8_stop l E hA hv38) pk_X8_stop pv_X8_stop wm_804 ⟨Nat.le_of_ble_eq_true rfl, Nat.le_of_ble_eq_true rfl⟩ ⟨rfl, rfl⟩ hP hS ix_28 rfl rfl rfl rfl hl.1 (Nat.le_of_ble_eq_true rfl) ⟨Nat.zero_le _, Nat.zero_le _⟩ rfl dX8_calls_182 (fun H locs hP hS => ?_)
    have h := Option.some.inj h
    exact mw_iret X hr hlocks hP hS (congrArg Prod.fst h) (congrArg Prod.snd h) dX8_calls_185
  have h := br_0 h c37
  have qc1 := sw_ne c1 (v := 98) rfl
  have qc4 := sw_ne c4 (v := 99) rfl
  have qc7 := sw_ne c7 (v := 100) rfl
  have qc10 := sw_ne c10 (v := 101) rfl
  have qc11 := sw_ne c11 (v := 102) rfl
  have qc12 := sw_ne c12 (v := 103) rfl
  have qc13 := sw_ne c13 (v := 104) rfl
  have qc14 := sw_ne c14 (v := 105) rfl
  have qc15 := sw_ne c15 (v := 106) rfl
  have qc16 := sw_ne c16 (v := 107) rfl
  have qc17 := sw_ne c17 (v := 108) rfl
  have qc18 := sw_ne c18 (v := 109) rfl
  have qc19 := sw_ne c19 (v := 110) rfl
  have qc20 := sw_ne c20 (v := 111) rfl
  have qc23 := sw_ne c23 (v := 112) rfl
  have qc24 := sw_ne c24 (v := 113) rfl
  have qc25 := sw_ne c25 (v := 114) rfl
  have qc26 := sw_ne c26 (v := 115) rfl
  have qc29 := sw_ne c29 (v := 116) rfl
  have qc32 := sw_ne c32 (v := 117) rfl
  have qc33 := sw_ne c33 (v := 118) rfl
  have qc34 := sw_ne c34 (v := 119) rfl
  have qc37 := sw_ne c37 (v := 120) rfl
  refine lv_tableOut (tgt := 186) hx hb dX8_calls_1 (by omega) (by decide) ?_
  exact w_L186 _ _ _ _ h hP hS (lv_sub hl [0] rfl)
/-! SealedGroupsModel.plays -/
noncomputable def f_X8_plays_L132  (M : Mem) (y1 : Int32) : Option (Int32 × Mem) :=
bd (st M 11 28 5 (0 : Int32)) (fun M6 =>
(if (M6 11 28 12) = 0 then
some ((-1000004 : Int32), M6)
else
some (y1, M6)))
noncomputable def f_X8_plays_L116  (K22 : Mem → Int32 → Option (Int32 × Mem)) (M : Mem) (y1 z0 : Int32) : Option (Int32 × Mem) :=
bd (st M 11 28 12 z0) (fun M19 =>
bd (st M19 11 28 14 ((M19 11 28 14) + (1 : Int32))) (fun M20 =>
K22 M20 y1))
noncomputable def f_X8_plays_L84  (K22 : Mem → Int32 → Option (Int32 × Mem)) (M : Mem) (y1 y3 z0 : Int32) : Option (Int32 × Mem) :=
(if y3 = 0 then
f_X8_plays_L116 K22 M y1 (1 : Int32)
else
(if z0 < 0 then
(if z0 = (-1000001 : Int32) then
f_X8_plays_L116 K22 M y1 (2 : Int32)
else
f_X8_plays_L116 K22 M y1 (3 : Int32))
else
f_X8_plays_L116 K22 M y1 (0 : Int32)))
noncomputable def f_X8_plays_L22  (K22 : Mem → Int32 → Option (Int32 × Mem)) (M : Mem) (y1 : Int32) : Option (Int32 × Mem) :=
(if (M 11 28 7) ≤ (M 11 28 11) then
f_X8_plays_L132 M y1
else
(if (M 11 28 12) = 0 then
bd ((M 11 28 11)) (fun x9 =>
gd (inb (M 11 28 11) 80) (
bd ((M 11 33 ((M 11 28 11)).toNatClampNeg)) (fun x11 =>
bP (f_X8_isForm M x11) (fun v12 M13 =>
bd (st M13 11 28 13 ((M13 11 28 11) - x9)) (fun M14 =>
(if v12 = 0 then
f_X8_plays_L84 K22 M14 x9 v12 (0 : Int32)
else
bP (f_X8_calls M14 x11) (fun v21 M22 =>
f_X8_plays_L84 K22 M22 x9 v12 v21)))))))
else
f_X8_plays_L132 M y1))
noncomputable def f_X8_plays  (M : Mem) : Option (Int32 × Mem) :=
bd (st M 11 28 5 (1 : Int32)) (fun M1 =>
bd (st M1 11 28 11 (0 : Int32)) (fun M2 =>
bd (st M2 11 28 12 (0 : Int32)) (fun M3 =>
bd (st M3 11 28 14 (0 : Int32)) (fun M4 =>
itr (f_X8_plays_L22 ) (fun _ _ => none) FU M4 (0 : Int32)))))
theorem pk_X8_plays : Pk "SealedGroupsModel" yX8_plays cX8_plays 5 (some .int) 0 := ⟨wm_779, wm_5, rfl, by decide +kernel⟩
theorem pv_X8_plays : Cond.instanceMethod yX8_plays ∈ wsL_law ∧ Cond.selects "SealedGroupsModel" yX8_plays yX8_plays ∈ wsL_law := ⟨wm_777, wm_778⟩
set_option maxHeartbeats 4000000 in
set_option maxRecDepth 100000 in
theorem c_X8_plays (l : Launch) (E : En) (hA : AdOK E) {M : Mem} {r0 : Int32} {M0 : Mem}  (h : f_X8_plays M = some (r0, M0)) : Met l yX8_plays (Wm yX8_plays cX8_plays 5 (some .int)) ({ frames := 8, cells := 0, slots := 0, locals := 179 } : Room) (va_Pc [Value.ref (E.2.2 11 28)] (Wd E M)) (QI E r0 M0) 0 0 (AA E) := by
  refine Met.ofW (cc := cX8_plays) (maxL := 5) (ret := (some .int)) (by decide +kernel) rfl ?_
  intro p e s m args below meth c s₁ B hml hv
  obtain ⟨rfl, hP, hK⟩ := hv
  have X : Cx E (AA E) p s m c _ cX8_plays 5 RX8 := ⟨⟨B.exec, B.bytes, hml, findClass_of_methodNamed B.named, fun w hw => atoms_spec (ws := Wm yX8_plays cX8_plays 5 (some .int)) B.pre w (List.mem_cons_of_mem _ hw)⟩, hK, hA, fun _ h => h⟩
  have hx := B.exec
  have hb := B.bytes
  have hr := B.returns
  have hlocks := B.notSynchronized
  clear B hml
  have hS : va_S (AA E) s.heap s.heap [] := va_S.rf
  have hl := lv_entry ([Value.ref (E.2.2 11 28)]) (n := 5) (Nat.le_of_ble_eq_true rfl)
  rw [lg_entry_eq]
  generalize (lg_sl ([Value.ref (E.2.2 11 28)]) ++ List.replicate (5 - (lg_sl ([Value.ref (E.2.2 11 28)])).length) Slot.unset).toArray = ls at hl ⊢
  have hl : lv_has ls 5 [(0, .ref (E.2.2 11 28))] := hl
  have w_L132 : ∀ (M : Mem) (y1 : Int32) (H : Heap) (locs : List Loc) (ls : Array Slot), f_X8_plays_L132  M y1 = some (r0, M0) → va_P E.1 vwCl (wl E M) H → va_S (AA E) s.heap H locs → lv_has ls 5 [(0, .ref (E.2.2 11 28)), (1, .int y1)] → W p l e (headSpec (Wm yX8_plays cX8_plays 5 (some .int)) ({ frames := 8, cells := 0, slots := 0, locals := 179 } : Room)).room s m ([Value.ref (E.2.2 11 28)] : List Value).toArray below meth c H locs 0 0 (MQ below (QI E r0 M0) ([Value.ref (E.2.2 11 28)] : List Value).toArray s 0 0 (AA E)) (F0 m 132 ls []) := by
    intro M y1 H locs ls h hP hS hl
    unfold f_X8_plays_L132 at h
    refine lv_aload_n hx hb dX8_plays_132 rfl (lv_at hl 0 rfl) ?_
    refine lv_iconst (v := 0) hx hb dX8_plays_133 (by decide) ?_
    refine pt_8_5 X wm_202 (by decide) hP hS ix_28 dX8_plays_134 (fun H locs M6 eM6 hP hS => ?_)
    have h := bd_e h eM6
    refine lv_aload_n hx hb dX8_plays_137 rfl (lv_at hl 0 rfl) ?_
    refine gt_8_12 X wm_774 hP ix_28 dX8_plays_138 ?_
    refine lv_if_ne (tgt := 149) hx hb dX8_plays_141 (by decide) (fun c7 => ?_) (fun c7 => ?_)
    · have h := br_0 h c7
      refine lv_iload_n hx hb dX8_plays_149 rfl (lv_at hl 1 rfl) ?_
      have h := Option.some.inj h
      exact mw_iret X hr hlocks hP hS (congrArg Prod.fst h) (congrArg Prod.snd h) dX8_plays_150
    · have h := br_1 h c7
      refine lv_ldc hx hb X.1.2.2.2.1 (X.1.2.2.2.2 _ wm_182) dX8_plays_144 ?_
      refine lv_goto (tgt := 150) hx hb dX8_plays_146 (by decide) ?_
      have h := Option.some.inj h
      exact mw_iret X hr hlocks hP hS (congrArg Prod.fst h) (congrArg Prod.snd h) dX8_plays_150
  have w_L22 : ∀ (n22 : Nat) (M : Mem) (y1 : Int32) (H : Heap) (locs : List Loc) (ls : Array Slot), itr (f_X8_plays_L22 ) (fun _ _ => none) n22 M y1 = some (r0, M0) → va_P E.1 vwCl (wl E M) H → va_S (AA E) s.heap H locs → lv_has ls 5 [(0, .ref (E.2.2 11 28)), (1, .int y1)] → W p l e (headSpec (Wm yX8_plays cX8_plays 5 (some .int)) ({ frames := 8, cells := 0, slots := 0, locals := 179 } : Room)).room s m ([Value.ref (E.2.2 11 28)] : List Value).toArray below meth c H locs 0 0 (MQ below (QI E r0 M0) ([Value.ref (E.2.2 11 28)] : List Value).toArray s 0 0 (AA E)) (F0 m 22 ls []) := by
    intro n22
    induction n22 with
    | zero => intro M y1 H locs ls h; exact (nomatch (show (none : Option (Int32 × Mem)) = some _ from h))
    | succ n22 ih22 =>
      intro M y1 H locs ls h hP hS hl
      have h : f_X8_plays_L22 (itr (f_X8_plays_L22 ) (fun _ _ => none) n22) M y1 = some (r0, M0) := h
      have w_L116 : ∀ (M : Mem) (y1 z0 : Int32) (H : Heap) (locs : List Loc) (ls : Array Slot), f_X8_plays_L116 (itr (f_X8_plays_L22 ) (fun _ _ => none) n22) M y1 z0 = some (r0, M0) → va_P E.1 vwCl (wl E M) H → va_S (AA E) s.heap H locs → lv_has ls 5 [(0, .ref (E.2.2 11 28)), (1, .int y1)] → W p l e (headSpec (Wm yX8_plays cX8_plays 5 (some .int)) ({ frames := 8, cells := 0, slots := 0, locals := 179 } : Room)).room s m ([Value.ref (E.2.2 11 28)] : List Value).toArray below meth c H locs 0 0 (MQ below (QI E r0 M0) ([Value.ref (E.2.2 11 28)] : List Value).toArray s 0 0 (AA E)) (F0 m 116 ls [.int z0, .ref (E.2.2 11 28)]) := by
        intro M y1 z0 H locs ls h hP hS hl
        unfold f_X8_plays_L116 at h
        refine pt_8_12 X wm_774 hP hS ix_28 dX8_plays_116 (fun H locs M19 eM19 hP hS => ?_)
        have h := bd_e h eM19
        refine lv_aload_n hx hb dX8_plays_119 rfl (lv_at hl 0 rfl) ?_
        refine lv_dup hx hb dX8_plays_120 rfl ?_
        refine gt_8_14 X wm_781 hP ix_28 dX8_plays_121 ?_
        refine lv_iconst (v := 1) hx hb dX8_plays_124 (by decide) ?_
        refine lv_iadd hx hb dX8_plays_125 ?_
        refine pt_8_14 X wm_781 hP hS ix_28 dX8_plays_126 (fun H locs M20 eM20 hP hS => ?_)
        have h := bd_e h eM20
        refine lv_goto (tgt := 22) hx hb dX8_plays_129 (by decide) ?_
        exact ih22 _ _ _ _ _ h hP hS (lv_sub hl [0, 1] rfl)
      have w_L84 : ∀ (M : Mem) (y1 y3 z0 : Int32) (H : Heap) (locs : List Loc) (ls : Array Slot), f_X8_plays_L84 (itr (f_X8_plays_L22 ) (fun _ _ => none) n22) M y1 y3 z0 = some (r0, M0) → va_P E.1 vwCl (wl E M) H → va_S (AA E) s.heap H locs → lv_has ls 5 [(0, .ref (E.2.2 11 28)), (1, .int y1), (3, .int y3)] → W p l e (headSpec (Wm yX8_plays cX8_plays 5 (some .int)) ({ frames := 8, cells := 0, slots := 0, locals := 179 } : Room)).room s m ([Value.ref (E.2.2 11 28)] : List Value).toArray below meth c H locs 0 0 (MQ below (QI E r0 M0) ([Value.ref (E.2.2 11 28)] : List Value).toArray s 0 0 (AA E)) (F0 m 84 ls [.int z0]) := by
        intro M y1 y3 z0 H locs ls h hP hS hl
        unfold f_X8_plays_L84 at h
        refine lv_istore (lv' := [(4, .int z0), (0, .ref (E.2.2 11 28)), (1, .int y1), (3, .int y3)]) hx hb dX8_plays_84 hl (by decide) rfl (fun ls hl => ?_)
        refine lv_aload_n hx hb dX8_plays_86 rfl (lv_at hl 1 rfl) ?_
        refine lv_iload_n hx hb dX8_plays_87 rfl (lv_at hl 3 rfl) ?_
        refine lv_if_ne (tgt := 95) hx hb dX8_plays_88 (by decide) (fun c16 => ?_) (fun c16 => ?_)
        · have h := br_0 h c16
          refine lv_iload hx hb dX8_plays_95 (lv_at hl 0 rfl) ?_
          refine lv_if_lt (tgt := 104) hx hb dX8_plays_97 (by decide) (fun c17 => ?_) (fun c17 => ?_)
          · have h := br_1 h c17
            refine lv_iload hx hb dX8_plays_104 (lv_at hl 0 rfl) ?_
            refine lv_ldc hx hb X.1.2.2.2.1 (X.1.2.2.2.2 _ wm_179) dX8_plays_106 ?_
            refine lv_icmp_ne (tgt := 115) hx hb dX8_plays_108 (by decide) (fun c18 => ?_) (fun c18 => ?_)
            · have h := br_0 h c18
              refine lv_iconst (v := 3) hx hb dX8_plays_115 (by decide) ?_
              exact w_L116 _ _ _ _ _ _ h hP hS (lv_sub hl [1, 2] rfl)
            · have h := br_1 h c18
              refine lv_iconst (v := 2) hx hb dX8_plays_111 (by decide) ?_
              refine lv_goto (tgt := 116) hx hb dX8_plays_112 (by decide) ?_
              exact w_L116 _ _ _ _ _ _ h hP hS (lv_sub hl [1, 2] rfl)
          · have h := br_0 h c17
            refine lv_iconst (v := 0) hx hb dX8_plays_100 (by decide) ?_
            refine lv_goto (tgt := 116) hx hb dX8_plays_101 (by decide) ?_
            exact w_L116 _ _ _ _ _ _ h hP hS (lv_sub hl [1, 2] rfl)
        · have h := br_1 h c16
          refine lv_iconst (v := 1) hx hb dX8_plays_91 (by decide) ?_
          refine lv_goto (tgt := 116) hx hb dX8_plays_92 (by decide) ?_
          exact w_L116 _ _ _ _ _ _ h hP hS (lv_sub hl [1, 2] rfl)
      unfold f_X8_plays_L22 at h
      refine lv_aload_n hx hb dX8_plays_22 rfl (lv_at hl 0 rfl) ?_
      refine gt_8_11 X wm_780 hP ix_28 dX8_plays_23 ?_
      refine lv_aload_n hx hb dX8_plays_26 rfl (lv_at hl 0 rfl) ?_
      refine gt_8_7 X wm_677 hP ix_28 dX8_plays_27 ?_
      refine lv_icmp_ge (tgt := 132) hx hb dX8_plays_30 (by decide) (fun c5 => ?_) (fun c5 => ?_)
      · have h := br_1 h c5
        exact w_L132 _ _ _ _ _ h hP hS (lv_sub hl [0, 1] rfl)
      · have h := br_0 h c5
        refine lv_aload_n hx hb dX8_plays_33 rfl (lv_at hl 0 rfl) ?_
        refine gt_8_12 X wm_774 hP ix_28 dX8_plays_34 ?_
        refine lv_if_ne (tgt := 132) hx hb dX8_plays_37 (by decide) (fun c8 => ?_) (fun c8 => ?_)
        · have h := br_0 h c8
          exact w_L132 _ _ _ _ _ h hP hS (lv_sub hl [0, 1] rfl)
        · have h := br_1 h c8
          refine lv_aload_n hx hb dX8_plays_40 rfl (lv_at hl 0 rfl) ?_
          refine gt_8_11 X wm_780 hP ix_28 dX8_plays_41 ?_
          refine lv_topi (fun x9 ex9 => ?_)
          have h := bd_e h ex9
          refine lv_istore_n (lv' := [(1, .int x9), (0, .ref (E.2.2 11 28))]) hx hb dX8_plays_44 rfl hl (by decide) rfl (fun ls hl => ?_)
          refine lv_aload_n hx hb dX8_plays_45 rfl (lv_at hl 1 rfl) ?_
          refine gt_8_6 X wm_94 hP ix_28 dX8_plays_46 ?_
          refine lv_aload_n hx hb dX8_plays_49 rfl (lv_at hl 1 rfl) ?_
          refine gt_8_11 X wm_780 hP ix_28 dX8_plays_50 ?_
          obtain ⟨g10, h⟩ := gd_e h
          refine mw_ld X hP ix_33 rfl (inb_vp g10) rfl dX8_plays_53 ?_
          refine lv_topi (fun x11 ex11 => ?_)
          have h := bd_e h ex11
          refine lv_istore_n (lv' := [(2, .int x11), (1, .int x9), (0, .ref (E.2.2 11 28))]) hx hb dX8_plays_54 rfl hl (by decide) rfl (fun ls hl => ?_)
          refine lv_aload_n hx hb dX8_plays_55 rfl (lv_at hl 2 rfl) ?_
          refine lv_iload_n hx hb dX8_plays_56 rfl (lv_at hl 0 rfl) ?_
          obtain ⟨v12, M13, hv12, h⟩ := bP_e h
          refine mw_callVi X (c_X8_isForm l E hA hv12) pk_X8_isForm pv_X8_isForm wm_782 ⟨Nat.le_of_ble_eq_true rfl, Nat.le_of_ble_eq_true rfl⟩ ⟨rfl, rfl⟩ hP hS ix_28 rfl rfl rfl rfl hl.1 (Nat.le_of_ble_eq_true rfl) ⟨Nat.zero_le _, Nat.zero_le _⟩ rfl dX8_plays_57 (fun H locs hP hS => ?_)
          refine lv_istore_n (lv' := [(3, .int v12), (2, .int x11), (1, .int x9), (0, .ref (E.2.2 11 28))]) hx hb dX8_plays_60 rfl hl (by decide) rfl (fun ls hl => ?_)
          refine lv_aload_n hx hb dX8_plays_61 rfl (lv_at hl 3 rfl) ?_
          refine lv_aload_n hx hb dX8_plays_62 rfl (lv_at hl 3 rfl) ?_
          refine gt_8_11 X wm_780 hP ix_28 dX8_plays_63 ?_
          refine lv_iload_n hx hb dX8_plays_66 rfl (lv_at hl 2 rfl) ?_
          refine lv_isub hx hb dX8_plays_67 ?_
          refine pt_8_13 X wm_775 hP hS ix_28 dX8_plays_68 (fun H locs M14 eM14 hP hS => ?_)
          have h := bd_e h eM14
          refine lv_iload_n hx hb dX8_plays_71 rfl (lv_at hl 0 rfl) ?_
          refine lv_if_eq (tgt := 83) hx hb dX8_plays_72 (by decide) (fun c15 => ?_) (fun c15 => ?_)
          · have h := br_1 h c15
            refine lv_iconst (v := 0) hx hb dX8_plays_83 (by decide) ?_
            exact w_L84 _ _ _ _ _ _ _ h hP hS (lv_sub hl [3, 2, 0] rfl)
          · have h := br_0 h c15
            refine lv_aload_n hx hb dX8_plays_75 rfl (lv_at hl 3 rfl) ?_
            refine lv_iload_n hx hb dX8_plays_76 rfl (lv_at hl 1 rfl) ?_
            obtain ⟨v21, M22, hv21, h⟩ := bP_e h
            refine mw_callVi X (c_X8_calls l E hA hv21) pk_X8_calls pv_X8_calls wm_794 ⟨Nat.le_of_ble_eq_true rfl, Nat.le_of_ble_eq_true rfl⟩ ⟨rfl, rfl⟩ hP hS ix_28 rfl rfl rfl rfl hl.1 (Nat.le_of_ble_eq_true rfl) ⟨Nat.zero_le _, Nat.zero_le _⟩ rfl dX8_plays_77 (fun H locs hP hS => ?_)
            refine lv_goto (tgt := 84) hx hb dX8_plays_80 (by decide) ?_
            exact w_L84 _ _ _ _ _ _ _ h hP hS (lv_sub hl [3, 2, 0] rfl)
  unfold f_X8_plays at h
  refine lv_aload_n hx hb dX8_plays_0 rfl (lv_at hl 0 rfl) ?_
  refine lv_iconst (v := 1) hx hb dX8_plays_1 (by decide) ?_
  refine pt_8_5 X wm_202 (by decide) hP hS ix_28 dX8_plays_2 (fun H locs M1 eM1 hP hS => ?_)
  have h := bd_e h eM1
  refine lv_aload_n hx hb dX8_plays_5 rfl (lv_at hl 0 rfl) ?_
  refine lv_iconst (v := 0) hx hb dX8_plays_6 (by decide) ?_
  refine pt_8_11 X wm_780 hP hS ix_28 dX8_plays_7 (fun H locs M2 eM2 hP hS => ?_)
  have h := bd_e h eM2
  refine lv_aload_n hx hb dX8_plays_10 rfl (lv_at hl 0 rfl) ?_
  refine lv_iconst (v := 0) hx hb dX8_plays_11 (by decide) ?_
  refine pt_8_12 X wm_774 hP hS ix_28 dX8_plays_12 (fun H locs M3 eM3 hP hS => ?_)
  have h := bd_e h eM3
  refine lv_aload_n hx hb dX8_plays_15 rfl (lv_at hl 0 rfl) ?_
  refine lv_iconst (v := 0) hx hb dX8_plays_16 (by decide) ?_
  refine pt_8_14 X wm_781 hP hS ix_28 dX8_plays_17 (fun H locs M4 eM4 hP hS => ?_)
  have h := bd_e h eM4
  refine lv_iconst (v := 0) hx hb dX8_plays_20 (by decide) ?_
  refine lv_istore_n (lv' := [(1, .int (0 : Int32)), (0, .ref (E.2.2 11 28))]) hx hb dX8_plays_21 rfl hl (by decide) rfl (fun ls hl => ?_)
  exact w_L22 FU _ _ _ _ _ h hP hS (lv_sub hl [1, 0] rfl)
/-! SealedGroupsModel.fault -/
noncomputable def f_X8_fault  (M : Mem) (a1 : Int32) : Option (Int32 × Mem) :=
bO (f_X8_in M a1 (0 : Int32) (2 : Int32)) (fun v1 =>
(if v1 = 0 then
some ((-1000001 : Int32), M)
else
bO (f_X8_copies 29 31 M) (fun M4 =>
bP (f_X8_plays M4) (fun v5 M6 =>
bO (f_X8_copies 31 29 M6) (fun M8 =>
(if v5 = (-1000004 : Int32) then
some (v5, M8)
else
(if a1 = 0 then
some (v5, M8)
else
(if a1 = (1 : Int32) then
some ((M8 11 28 12), M8)
else
(if (M8 11 28 12) = (1 : Int32) then
some ((M8 11 28 13), M8)
else
some ((-1000004 : Int32), M8))))))))))
theorem pk_X8_fault : Pk "SealedGroupsModel" yX8_fault cX8_fault 3 (some .int) 1 := ⟨wm_773, wm_5, rfl, by decide +kernel⟩
theorem pv_X8_fault : Cond.instanceMethod yX8_fault ∈ wsL_law ∧ Cond.selects "SealedGroupsModel" yX8_fault yX8_fault ∈ wsL_law := ⟨wm_771, wm_772⟩
set_option maxHeartbeats 4000000 in
set_option maxRecDepth 100000 in
theorem c_X8_fault (l : Launch) (E : En) (hA : AdOK E) {M : Mem} {a1 : Int32} {r0 : Int32} {M0 : Mem}  (h : f_X8_fault M a1 = some (r0, M0)) : Met l yX8_fault (Wm yX8_fault cX8_fault 3 (some .int)) ({ frames := 9, cells := 0, slots := 0, locals := 203 } : Room) (va_Pc [Value.ref (E.2.2 11 28), Value.int a1] (Wd E M)) (QI E r0 M0) 0 0 (AA E) := by
  refine Met.ofW (cc := cX8_fault) (maxL := 3) (ret := (some .int)) (by decide +kernel) rfl ?_
  intro p e s m args below meth c s₁ B hml hv
  obtain ⟨rfl, hP, hK⟩ := hv
  have X : Cx E (AA E) p s m c _ cX8_fault 3 RX8 := ⟨⟨B.exec, B.bytes, hml, findClass_of_methodNamed B.named, fun w hw => atoms_spec (ws := Wm yX8_fault cX8_fault 3 (some .int)) B.pre w (List.mem_cons_of_mem _ hw)⟩, hK, hA, fun _ h => h⟩
  have hx := B.exec
  have hb := B.bytes
  have hr := B.returns
  have hlocks := B.notSynchronized
  clear B hml
  have hS : va_S (AA E) s.heap s.heap [] := va_S.rf
  have hl := lv_entry ([Value.ref (E.2.2 11 28), Value.int a1]) (n := 3) (Nat.le_of_ble_eq_true rfl)
  rw [lg_entry_eq]
  generalize (lg_sl ([Value.ref (E.2.2 11 28), Value.int a1]) ++ List.replicate (3 - (lg_sl ([Value.ref (E.2.2 11 28), Value.int a1])).length) Slot.unset).toArray = ls at hl ⊢
  have hl : lv_has ls 3 [(0, .ref (E.2.2 11 28)), (1, .int a1)] := hl
  unfold f_X8_fault at h
  refine lv_iload_n hx hb dX8_fault_0 rfl (lv_at hl 1 rfl) ?_
  refine lv_iconst (v := 0) hx hb dX8_fault_1 (by decide) ?_
  refine lv_iconst (v := 2) hx hb dX8_fault_2 (by decide) ?_
  obtain ⟨v1, hv1, h⟩ := bO_e h
  refine mw_callSi X (c_X8_in l E hA hv1) pk_X8_in wm_184 wm_183 ⟨Nat.le_of_ble_eq_true rfl, Nat.le_of_ble_eq_true rfl⟩ ⟨rfl, rfl⟩ hP hS rfl hl.1 (Nat.le_of_ble_eq_true rfl) ⟨Nat.zero_le _, Nat.zero_le _⟩ rfl dX8_fault_3 (fun H locs hP hS => ?_)
  refine lv_if_ne (tgt := 12) hx hb dX8_fault_6 (by decide) (fun c2 => ?_) (fun c2 => ?_)
  · have h := br_0 h c2
    refine lv_aload_n hx hb dX8_fault_12 rfl (lv_at hl 0 rfl) ?_
    refine gt_8_0 X wm_90 hP ix_28 dX8_fault_13 ?_
    refine lv_aload_n hx hb dX8_fault_16 rfl (lv_at hl 0 rfl) ?_
    refine gt_8_2 X wm_92 hP ix_28 dX8_fault_17 ?_
    obtain ⟨M4, hv3, h⟩ := bO_e h
    refine mw_callSv X (c_X8_copies l E hA (by decide) (by decide) hv3) pk_X8_copies wm_666 wm_665 ⟨Nat.le_of_ble_eq_true rfl, Nat.le_of_ble_eq_true rfl⟩ ⟨rfl, rfl⟩ hP hS rfl hl.1 (Nat.le_of_ble_eq_true rfl) ⟨Nat.zero_le _, Nat.zero_le _⟩ rfl dX8_fault_20 (fun H locs hP hS => ?_)
    refine lv_aload_n hx hb dX8_fault_23 rfl (lv_at hl 0 rfl) ?_
    obtain ⟨v5, M6, hv5, h⟩ := bP_e h
    refine mw_callVi X (c_X8_plays l E hA hv5) pk_X8_plays pv_X8_plays wm_776 ⟨Nat.le_of_ble_eq_true rfl, Nat.le_of_ble_eq_true rfl⟩ ⟨rfl, rfl⟩ hP hS ix_28 rfl rfl rfl rfl hl.1 (Nat.le_of_ble_eq_true rfl) ⟨Nat.zero_le _, Nat.zero_le _⟩ rfl dX8_fault_24 (fun H locs hP hS => ?_)
    refine lv_istore_n (lv' := [(2, .int v5), (0, .ref (E.2.2 11 28)), (1, .int a1)]) hx hb dX8_fault_27 rfl hl (by decide) rfl (fun ls hl => ?_)
    refine lv_aload_n hx hb dX8_fault_28 rfl (lv_at hl 1 rfl) ?_
    refine gt_8_2 X wm_92 hP ix_28 dX8_fault_29 ?_
    refine lv_aload_n hx hb dX8_fault_32 rfl (lv_at hl 1 rfl) ?_
    refine gt_8_0 X wm_90 hP ix_28 dX8_fault_33 ?_
    obtain ⟨M8, hv7, h⟩ := bO_e h
    refine mw_callSv X (c_X8_copies l E hA (by decide) (by decide) hv7) pk_X8_copies wm_666 wm_665 ⟨Nat.le_of_ble_eq_true rfl, Nat.le_of_ble_eq_true rfl⟩ ⟨rfl, rfl⟩ hP hS rfl hl.1 (Nat.le_of_ble_eq_true rfl) ⟨Nat.zero_le _, Nat.zero_le _⟩ rfl dX8_fault_36 (fun H locs hP hS => ?_)
    refine lv_iload_n hx hb dX8_fault_39 rfl (lv_at hl 0 rfl) ?_
    refine lv_ldc hx hb X.1.2.2.2.1 (X.1.2.2.2.2 _ wm_182) dX8_fault_40 ?_
    refine lv_icmp_eq (tgt := 49) hx hb dX8_fault_42 (by decide) (fun c9 => ?_) (fun c9 => ?_)
    · have h := br_1 h c9
      refine lv_iload_n hx hb dX8_fault_49 rfl (lv_at hl 0 rfl) ?_
      refine lv_goto (tgt := 82) hx hb dX8_fault_50 (by decide) ?_
      have h := Option.some.inj h
      exact mw_iret X hr hlocks hP hS (congrArg Prod.fst h) (congrArg Prod.snd h) dX8_fault_82
    · have h := br_0 h c9
      refine lv_iload_n hx hb dX8_fault_45 rfl (lv_at hl 2 rfl) ?_
      refine lv_if_ne (tgt := 53) hx hb dX8_fault_46 (by decide) (fun c10 => ?_) (fun c10 => ?_)
      · have h := br_0 h c10
        refine lv_iload_n hx hb dX8_fault_53 rfl (lv_at hl 2 rfl) ?_
        refine lv_iconst (v := 1) hx hb dX8_fault_54 (by decide) ?_
        refine lv_icmp_ne (tgt := 65) hx hb dX8_fault_55 (by decide) (fun c11 => ?_) (fun c11 => ?_)
        · have h := br_0 h c11
          refine lv_aload_n hx hb dX8_fault_65 rfl (lv_at hl 1 rfl) ?_
          refine gt_8_12 X wm_774 hP ix_28 dX8_fault_66 ?_
          refine lv_iconst (v := 1) hx hb dX8_fault_69 (by decide) ?_
          refine lv_icmp_ne (tgt := 80) hx hb dX8_fault_70 (by decide) (fun c12 => ?_) (fun c12 => ?_)
          · have h := br_0 h c12
            refine lv_ldc hx hb X.1.2.2.2.1 (X.1.2.2.2.2 _ wm_182) dX8_fault_80 ?_
            have h := Option.some.inj h
            exact mw_iret X hr hlocks hP hS (congrArg Prod.fst h) (congrArg Prod.snd h) dX8_fault_82
          · have h := br_1 h c12
            refine lv_aload_n hx hb dX8_fault_73 rfl (lv_at hl 1 rfl) ?_
            refine gt_8_13 X wm_775 hP ix_28 dX8_fault_74 ?_
            refine lv_goto (tgt := 82) hx hb dX8_fault_77 (by decide) ?_
            have h := Option.some.inj h
            exact mw_iret X hr hlocks hP hS (congrArg Prod.fst h) (congrArg Prod.snd h) dX8_fault_82
        · have h := br_1 h c11
          refine lv_aload_n hx hb dX8_fault_58 rfl (lv_at hl 1 rfl) ?_
          refine gt_8_12 X wm_774 hP ix_28 dX8_fault_59 ?_
          refine lv_goto (tgt := 82) hx hb dX8_fault_62 (by decide) ?_
          have h := Option.some.inj h
          exact mw_iret X hr hlocks hP hS (congrArg Prod.fst h) (congrArg Prod.snd h) dX8_fault_82
      · have h := br_1 h c10
        refine lv_iload_n hx hb dX8_fault_49 rfl (lv_at hl 0 rfl) ?_
        refine lv_goto (tgt := 82) hx hb dX8_fault_50 (by decide) ?_
        have h := Option.some.inj h
        exact mw_iret X hr hlocks hP hS (congrArg Prod.fst h) (congrArg Prod.snd h) dX8_fault_82
  · have h := br_1 h c2
    refine lv_ldc hx hb X.1.2.2.2.1 (X.1.2.2.2.2 _ wm_179) dX8_fault_9 ?_
    have h := Option.some.inj h
    exact mw_iret X hr hlocks hP hS (congrArg Prod.fst h) (congrArg Prod.snd h) dX8_fault_11
/-! SealedGroupsModel.play -/
noncomputable def f_X8_play  (M : Mem) : Option (Int32 × Mem) :=
bO (f_X8_copies 29 31 M) (fun M2 =>
bP (f_X8_plays M2) (fun v3 M4 =>
bO (f_X8_copies 31 29 M4) (fun M6 =>
(if v3 = (-1000004 : Int32) then
bO (f_X8_changes M6) (fun M9 =>
bP (f_X8_plays M9) (fun v10 M11 =>
(if v10 = (-1000004 : Int32) then
some ((M11 11 28 14), M11)
else
some ((-1000004 : Int32), M11))))
else
some ((-1000002 : Int32), M6)))))
theorem pk_X8_play : Pk "SealedGroupsModel" yX8_play cX8_play 2 (some .int) 0 := ⟨wm_813, wm_5, rfl, by decide +kernel⟩
theorem pv_X8_play : Cond.instanceMethod yX8_play ∈ wsL_law ∧ Cond.selects "SealedGroupsModel" yX8_play yX8_play ∈ wsL_law := ⟨wm_811, wm_812⟩
set_option maxHeartbeats 4000000 in
set_option maxRecDepth 100000 in
theorem c_X8_play (l : Launch) (E : En) (hA : AdOK E) {M : Mem} {r0 : Int32} {M0 : Mem}  (h : f_X8_play M = some (r0, M0)) : Met l yX8_play (Wm yX8_play cX8_play 2 (some .int)) ({ frames := 9, cells := 0, slots := 0, locals := 203 } : Room) (va_Pc [Value.ref (E.2.2 11 28)] (Wd E M)) (QI E r0 M0) 0 0 (AA E) := by
  refine Met.ofW (cc := cX8_play) (maxL := 2) (ret := (some .int)) (by decide +kernel) rfl ?_
  intro p e s m args below meth c s₁ B hml hv
  obtain ⟨rfl, hP, hK⟩ := hv
  have X : Cx E (AA E) p s m c _ cX8_play 2 RX8 := ⟨⟨B.exec, B.bytes, hml, findClass_of_methodNamed B.named, fun w hw => atoms_spec (ws := Wm yX8_play cX8_play 2 (some .int)) B.pre w (List.mem_cons_of_mem _ hw)⟩, hK, hA, fun _ h => h⟩
  have hx := B.exec
  have hb := B.bytes
  have hr := B.returns
  have hlocks := B.notSynchronized
  clear B hml
  have hS : va_S (AA E) s.heap s.heap [] := va_S.rf
  have hl := lv_entry ([Value.ref (E.2.2 11 28)]) (n := 2) (Nat.le_of_ble_eq_true rfl)
  rw [lg_entry_eq]
  generalize (lg_sl ([Value.ref (E.2.2 11 28)]) ++ List.replicate (2 - (lg_sl ([Value.ref (E.2.2 11 28)])).length) Slot.unset).toArray = ls at hl ⊢
  have hl : lv_has ls 2 [(0, .ref (E.2.2 11 28))] := hl
  unfold f_X8_play at h
  refine lv_aload_n hx hb dX8_play_0 rfl (lv_at hl 0 rfl) ?_
  refine gt_8_0 X wm_90 hP ix_28 dX8_play_1 ?_
  refine lv_aload_n hx hb dX8_play_4 rfl (lv_at hl 0 rfl) ?_
  refine gt_8_2 X wm_92 hP ix_28 dX8_play_5 ?_
  obtain ⟨M2, hv1, h⟩ := bO_e h
  refine mw_callSv X (c_X8_copies l E hA (by decide) (by decide) hv1) pk_X8_copies wm_666 wm_665 ⟨Nat.le_of_ble_eq_true rfl, Nat.le_of_ble_eq_true rfl⟩ ⟨rfl, rfl⟩ hP hS rfl hl.1 (Nat.le_of_ble_eq_true rfl) ⟨Nat.zero_le _, Nat.zero_le _⟩ rfl dX8_play_8 (fun H locs hP hS => ?_)
  refine lv_aload_n hx hb dX8_play_11 rfl (lv_at hl 0 rfl) ?_
  obtain ⟨v3, M4, hv3, h⟩ := bP_e h
  refine mw_callVi X (c_X8_plays l E hA hv3) pk_X8_plays pv_X8_plays wm_776 ⟨Nat.le_of_ble_eq_true rfl, Nat.le_of_ble_eq_true rfl⟩ ⟨rfl, rfl⟩ hP hS ix_28 rfl rfl rfl rfl hl.1 (Nat.le_of_ble_eq_true rfl) ⟨Nat.zero_le _, Nat.zero_le _⟩ rfl dX8_play_12 (fun H locs hP hS => ?_)
  refine lv_istore_n (lv' := [(1, .int v3), (0, .ref (E.2.2 11 28))]) hx hb dX8_play_15 rfl hl (by decide) rfl (fun ls hl => ?_)
  refine lv_aload_n hx hb dX8_play_16 rfl (lv_at hl 1 rfl) ?_
  refine gt_8_2 X wm_92 hP ix_28 dX8_play_17 ?_
  refine lv_aload_n hx hb dX8_play_20 rfl (lv_at hl 1 rfl) ?_
  refine gt_8_0 X wm_90 hP ix_28 dX8_play_21 ?_
  obtain ⟨M6, hv5, h⟩ := bO_e h
  refine mw_callSv X (c_X8_copies l E hA (by decide) (by decide) hv5) pk_X8_copies wm_666 wm_665 ⟨Nat.le_of_ble_eq_true rfl, Nat.le_of_ble_eq_true rfl⟩ ⟨rfl, rfl⟩ hP hS rfl hl.1 (Nat.le_of_ble_eq_true rfl) ⟨Nat.zero_le _, Nat.zero_le _⟩ rfl dX8_play_24 (fun H locs hP hS => ?_)
  refine lv_iload_n hx hb dX8_play_27 rfl (lv_at hl 0 rfl) ?_
  refine lv_ldc hx hb X.1.2.2.2.1 (X.1.2.2.2.2 _ wm_182) dX8_play_28 ?_
  refine lv_icmp_eq (tgt := 36) hx hb dX8_play_30 (by decide) (fun c7 => ?_) (fun c7 => ?_)
  · have h := br_1 h c7
    refine lv_aload_n hx hb dX8_play_36 rfl (lv_at hl 1 rfl) ?_
    obtain ⟨M9, hv8, h⟩ := bO_e h
    refine mw_callVv X (c_X8_changes l E hA hv8) pk_X8_changes pv_X8_changes wm_198 ⟨Nat.le_of_ble_eq_true rfl, Nat.le_of_ble_eq_true rfl⟩ ⟨rfl, rfl⟩ hP hS ix_28 rfl rfl rfl rfl hl.1 (Nat.le_of_ble_eq_true rfl) ⟨Nat.zero_le _, Nat.zero_le _⟩ rfl dX8_play_37 (fun H locs hP hS => ?_)
    refine lv_aload_n hx hb dX8_play_40 rfl (lv_at hl 1 rfl) ?_
    obtain ⟨v10, M11, hv10, h⟩ := bP_e h
    refine mw_callVi X (c_X8_plays l E hA hv10) pk_X8_plays pv_X8_plays wm_776 ⟨Nat.le_of_ble_eq_true rfl, Nat.le_of_ble_eq_true rfl⟩ ⟨rfl, rfl⟩ hP hS ix_28 rfl rfl rfl rfl hl.1 (Nat.le_of_ble_eq_true rfl) ⟨Nat.zero_le _, Nat.zero_le _⟩ rfl dX8_play_41 (fun H locs hP hS => ?_)
    refine lv_ldc hx hb X.1.2.2.2.1 (X.1.2.2.2.2 _ wm_182) dX8_play_44 ?_
    refine lv_icmp_ne (tgt := 56) hx hb dX8_play_46 (by decide) (fun c12 => ?_) (fun c12 => ?_)
    · have h := br_0 h c12
      refine lv_ldc hx hb X.1.2.2.2.1 (X.1.2.2.2.2 _ wm_182) dX8_play_56 ?_
      have h := Option.some.inj h
      exact mw_iret X hr hlocks hP hS (congrArg Prod.fst h) (congrArg Prod.snd h) dX8_play_58
    · have h := br_1 h c12
      refine lv_aload_n hx hb dX8_play_49 rfl (lv_at hl 1 rfl) ?_
      refine gt_8_14 X wm_781 hP ix_28 dX8_play_50 ?_
      refine lv_goto (tgt := 58) hx hb dX8_play_53 (by decide) ?_
      have h := Option.some.inj h
      exact mw_iret X hr hlocks hP hS (congrArg Prod.fst h) (congrArg Prod.snd h) dX8_play_58
  · have h := br_0 h c7
    refine lv_ldc hx hb X.1.2.2.2.1 (X.1.2.2.2.2 _ wm_180) dX8_play_33 ?_
    have h := Option.some.inj h
    exact mw_iret X hr hlocks hP hS (congrArg Prod.fst h) (congrArg Prod.snd h) dX8_play_35
