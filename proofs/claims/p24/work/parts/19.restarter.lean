/-! SealedGroups$Restarter.lookAt -/
noncomputable def f_X5_lookAt_L114 (j : Nat) (M : Mem) (y2 y4 : Int32) : Option Mem :=
(if y4 < 0 then
some M
else
(if (8 : Int32) ≤ y4 then
some M
else
gd (inb y4 8) (
(if (M 7 21 (y4).toNatClampNeg) = 0 then
gd (inb y4 8) (
bd (st M 7 21 (y4).toNatClampNeg y2) (fun M12 =>
some M12))
else
some M))))
noncomputable def f_X5_lookAt_L98 (j : Nat) (M : Mem) (y5 : Int32) : Option Mem :=
bd (st M 7 20 3 ((M 7 20 3) &&& (y5 ^^^ (-1 : Int32)))) (fun M15 =>
some M15)
noncomputable def f_X5_lookAt_L37 (j : Nat) (M : Mem) (y2 y4 z0 : Int32) : Option Mem :=
bO (f_X2_at j 12 M y2) (fun v4 =>
(if v4 = (0 : Int32) then
bd (st M 7 20 3 ((M 7 20 3) ||| z0)) (fun M6 =>
some M6)
else if v4 = (1 : Int32) then
f_X5_lookAt_L114 j M y2 y4
else if v4 = (2 : Int32) then
f_X5_lookAt_L98 j M z0
else if v4 = (3 : Int32) then
f_X5_lookAt_L114 j M y2 y4
else if v4 = (4 : Int32) then
f_X5_lookAt_L98 j M z0
else 
some M))
noncomputable def f_X5_lookAt_L36 (j : Nat) (M : Mem) (y2 y4 : Int32) : Option Mem :=
f_X5_lookAt_L37 j M y2 y4 (0 : Int32)
noncomputable def f_X5_lookAt (j : Nat) (M : Mem) (a1 : Int32) : Option Mem :=
bO (f_X2_at j 13 M a1) (fun v1 =>
bO (f_X2_at j 14 M a1) (fun v2 =>
(if v1 < 0 then
f_X5_lookAt_L36 j M a1 v2
else
(if (4 : Int32) ≤ v1 then
f_X5_lookAt_L36 j M a1 v2
else
f_X5_lookAt_L37 j M a1 v2 ((1 : Int32) <<< (v1 &&& 31))))))
theorem pk_X5_lookAt : Pk "SealedGroups$Restarter" yX5_lookAt cX5_lookAt 6 none 2 := ⟨wm_290, wm_21, rfl, by decide +kernel⟩
theorem pv_X5_lookAt : Cond.instanceMethod yX5_lookAt ∈ wsL_law ∧ Cond.selects "SealedGroups$Restarter" yX5_lookAt yX5_lookAt ∈ wsL_law := ⟨wm_288, wm_289⟩
set_option maxHeartbeats 4000000 in
set_option maxRecDepth 100000 in
theorem c_X5_lookAt (l : Launch) (E : En) (hA : AdOK E) {j : Nat} {M : Mem} {a1 : Int32} {M0 : Mem} (hj : j < 7) (h : f_X5_lookAt j M a1 = some M0) : Met l yX5_lookAt (Wm yX5_lookAt cX5_lookAt 6 none) ({ frames := 1, cells := 0, slots := 0, locals := 23 } : Room) (va_Pc [Value.ref (E.2.2 7 20), Value.ref (E.2.2 j 11), Value.int a1] (Wd E M)) (QV E M0) 0 0 (AA E) := by
  refine Met.ofW (cc := cX5_lookAt) (maxL := 6) (ret := none) (by decide +kernel) rfl ?_
  intro p e s m args below meth c s₁ B hml hv
  obtain ⟨rfl, hP, hK⟩ := hv
  have X : Cx E (AA E) p s m c _ cX5_lookAt 6 RX5 := ⟨⟨B.exec, B.bytes, hml, findClass_of_methodNamed B.named, fun w hw => atoms_spec (ws := Wm yX5_lookAt cX5_lookAt 6 none) B.pre w (List.mem_cons_of_mem _ hw)⟩, hK, hA, fun _ h => h⟩
  have hx := B.exec
  have hb := B.bytes
  have hr := B.returns
  have hlocks := B.notSynchronized
  clear B hml
  have hS : va_S (AA E) s.heap s.heap [] := va_S.rf
  have hl := lv_entry ([Value.ref (E.2.2 7 20), Value.ref (E.2.2 j 11), Value.int a1]) (n := 6) (Nat.le_of_ble_eq_true rfl)
  rw [lg_entry_eq]
  generalize (lg_sl ([Value.ref (E.2.2 7 20), Value.ref (E.2.2 j 11), Value.int a1]) ++ List.replicate (6 - (lg_sl ([Value.ref (E.2.2 7 20), Value.ref (E.2.2 j 11), Value.int a1])).length) Slot.unset).toArray = ls at hl ⊢
  have hl : lv_has ls 6 [(0, .ref (E.2.2 7 20)), (1, .ref (E.2.2 j 11)), (2, .int a1)] := hl
  have w_L114 : ∀ (M : Mem) (y2 y4 : Int32) (H : Heap) (locs : List Loc) (ls : Array Slot), f_X5_lookAt_L114 j M y2 y4 = some M0 → va_P E.1 vwCl (wl E M) H → va_S (AA E) s.heap H locs → lv_has ls 6 [(0, .ref (E.2.2 7 20)), (2, .int y2), (4, .int y4)] → W p l e (headSpec (Wm yX5_lookAt cX5_lookAt 6 none) ({ frames := 1, cells := 0, slots := 0, locals := 23 } : Room)).room s m ([Value.ref (E.2.2 7 20), Value.ref (E.2.2 j 11), Value.int a1] : List Value).toArray below meth c H locs 0 0 (MQ below (QV E M0) ([Value.ref (E.2.2 7 20), Value.ref (E.2.2 j 11), Value.int a1] : List Value).toArray s 0 0 (AA E)) (F0 m 114 ls []) := by
    intro M y2 y4 H locs ls h hP hS hl
    unfold f_X5_lookAt_L114 at h
    refine lv_iload hx hb dX5_lookAt_114 (lv_at hl 2 rfl) ?_
    refine lv_if_lt (tgt := 147) hx hb dX5_lookAt_116 (by decide) (fun c8 => ?_) (fun c8 => ?_)
    · have h := br_1 h c8
      exact mw_vret X hr hlocks hP hS (Option.some.inj h) dX5_lookAt_147
    · have h := br_0 h c8
      refine lv_iload hx hb dX5_lookAt_119 (lv_at hl 2 rfl) ?_
      refine lv_bipush (v := 8) hx hb dX5_lookAt_121 (by decide) ?_
      refine lv_icmp_ge (tgt := 147) hx hb dX5_lookAt_123 (by decide) (fun c9 => ?_) (fun c9 => ?_)
      · have h := br_1 h c9
        exact mw_vret X hr hlocks hP hS (Option.some.inj h) dX5_lookAt_147
      · have h := br_0 h c9
        refine lv_aload_n hx hb dX5_lookAt_126 rfl (lv_at hl 0 rfl) ?_
        refine gt_5_0 X wm_74 hP ix_20 dX5_lookAt_127 ?_
        refine lv_iload hx hb dX5_lookAt_130 (lv_at hl 2 rfl) ?_
        obtain ⟨g10, h⟩ := gd_e h
        refine mw_ld X hP ix_21 rfl (inb_vp g10) rfl dX5_lookAt_132 ?_
        refine lv_if_ne (tgt := 147) hx hb dX5_lookAt_133 (by decide) (fun c11 => ?_) (fun c11 => ?_)
        · have h := br_0 h c11
          exact mw_vret X hr hlocks hP hS (Option.some.inj h) dX5_lookAt_147
        · have h := br_1 h c11
          refine lv_aload_n hx hb dX5_lookAt_136 rfl (lv_at hl 0 rfl) ?_
          refine gt_5_0 X wm_74 hP ix_20 dX5_lookAt_137 ?_
          refine lv_iload hx hb dX5_lookAt_140 (lv_at hl 2 rfl) ?_
          refine lv_iload_n hx hb dX5_lookAt_142 rfl (lv_at hl 1 rfl) ?_
          obtain ⟨g13, h⟩ := gd_e h
          refine mw_st X hP hS ix_21 (fun _ => rfl) (inb_vp g13) rfl dX5_lookAt_143 (fun H locs M12 eM12 hP hS => ?_)
          have h := bd_e h eM12
          refine lv_goto (tgt := 147) hx hb dX5_lookAt_144 (by decide) ?_
          exact mw_vret X hr hlocks hP hS (Option.some.inj h) dX5_lookAt_147
  have w_L98 : ∀ (M : Mem) (y5 : Int32) (H : Heap) (locs : List Loc) (ls : Array Slot), f_X5_lookAt_L98 j M y5 = some M0 → va_P E.1 vwCl (wl E M) H → va_S (AA E) s.heap H locs → lv_has ls 6 [(0, .ref (E.2.2 7 20)), (5, .int y5)] → W p l e (headSpec (Wm yX5_lookAt cX5_lookAt 6 none) ({ frames := 1, cells := 0, slots := 0, locals := 23 } : Room)).room s m ([Value.ref (E.2.2 7 20), Value.ref (E.2.2 j 11), Value.int a1] : List Value).toArray below meth c H locs 0 0 (MQ below (QV E M0) ([Value.ref (E.2.2 7 20), Value.ref (E.2.2 j 11), Value.int a1] : List Value).toArray s 0 0 (AA E)) (F0 m 98 ls []) := by
    intro M y5 H locs ls h hP hS hl
    unfold f_X5_lookAt_L98 at h
    refine lv_aload_n hx hb dX5_lookAt_98 rfl (lv_at hl 0 rfl) ?_
    refine lv_dup hx hb dX5_lookAt_99 rfl ?_
    refine gt_5_3 X wm_282 hP ix_20 dX5_lookAt_100 ?_
    refine lv_iload hx hb dX5_lookAt_103 (lv_at hl 1 rfl) ?_
    refine lv_iconst (v := -1) hx hb dX5_lookAt_105 (by decide) ?_
    refine lv_ixor hx hb dX5_lookAt_106 ?_
    refine lv_iand hx hb dX5_lookAt_107 ?_
    refine pt_5_3 X wm_282 hP hS ix_20 dX5_lookAt_108 (fun H locs M15 eM15 hP hS => ?_)
    have h := bd_e h eM15
    refine lv_goto (tgt := 147) hx hb dX5_lookAt_111 (by decide) ?_
    exact mw_vret X hr hlocks hP hS (Option.some.inj h) dX5_lookAt_147
  have w_L37 : ∀ (M : Mem) (y2 y4 z0 : Int32) (H : Heap) (locs : List Loc) (ls : Array Slot), f_X5_lookAt_L37 j M y2 y4 z0 = some M0 → va_P E.1 vwCl (wl E M) H → va_S (AA E) s.heap H locs → lv_has ls 6 [(0, .ref (E.2.2 7 20)), (1, .ref (E.2.2 j 11)), (2, .int y2), (4, .int y4)] → W p l e (headSpec (Wm yX5_lookAt cX5_lookAt 6 none) ({ frames := 1, cells := 0, slots := 0, locals := 23 } : Room)).room s m ([Value.ref (E.2.2 7 20), Value.ref (E.2.2 j 11), Value.int a1] : List Value).toArray below meth c H locs 0 0 (MQ below (QV E M0) ([Value.ref (E.2.2 7 20), Value.ref (E.2.2 j 11), Value.int a1] : List Value).toArray s 0 0 (AA E)) (F0 m 37 ls [.int z0]) := by
    intro M y2 y4 z0 H locs ls h hP hS hl
    unfold f_X5_lookAt_L37 at h
    refine lv_istore (lv' := [(5, .int z0), (0, .ref (E.2.2 7 20)), (1, .ref (E.2.2 j 11)), (2, .int y2), (4, .int y4)]) hx hb dX5_lookAt_37 hl (by decide) rfl (fun ls hl => ?_)
    refine lv_aload_n hx hb dX5_lookAt_39 rfl (lv_at hl 2 rfl) ?_
    refine lv_aload_n hx hb dX5_lookAt_40 rfl (lv_at hl 2 rfl) ?_
    refine gn_2_0 X nf_10 hP (ms hj 11) dX5_lookAt_41 ?_
    refine lv_iload_n hx hb dX5_lookAt_44 rfl (lv_at hl 3 rfl) ?_
    obtain ⟨v4, hv4, h⟩ := bO_e h
    refine mw_callVi X (c_X2_at l E hA hj (by decide) hv4) pk_X2_at pv_X2_at wm_284 ⟨Nat.le_of_ble_eq_true rfl, Nat.le_of_ble_eq_true rfl⟩ ⟨rfl, rfl⟩ hP hS (ms hj 11) rfl rfl rfl rfl hl.1 (Nat.le_of_ble_eq_true rfl) ⟨Nat.zero_le _, Nat.zero_le _⟩ rfl dX5_lookAt_45 (fun H locs hP hS => ?_)
    by_cases c5 : v4 = (0 : Int32)
    · have h := br_1 h c5
      refine lv_tableIn (tgt := 84) hx hb dX5_lookAt_48 (by rw [c5] <;> decide) (by rw [c5] <;> decide) (by rw [c5] <;> rfl) (by decide) ?_
      refine lv_aload_n hx hb dX5_lookAt_84 rfl (lv_at hl 1 rfl) ?_
      refine lv_dup hx hb dX5_lookAt_85 rfl ?_
      refine gt_5_3 X wm_282 hP ix_20 dX5_lookAt_86 ?_
      refine lv_iload hx hb dX5_lookAt_89 (lv_at hl 0 rfl) ?_
      refine lv_ior hx hb dX5_lookAt_91 ?_
      refine pt_5_3 X wm_282 hP hS ix_20 dX5_lookAt_92 (fun H locs M6 eM6 hP hS => ?_)
      have h := bd_e h eM6
      refine lv_goto (tgt := 147) hx hb dX5_lookAt_95 (by decide) ?_
      exact mw_vret X hr hlocks hP hS (Option.some.inj h) dX5_lookAt_147
    have h := br_0 h c5
    by_cases c7 : v4 = (1 : Int32)
    · have h := br_1 h c7
      refine lv_tableIn (tgt := 114) hx hb dX5_lookAt_48 (by rw [c7] <;> decide) (by rw [c7] <;> decide) (by rw [c7] <;> rfl) (by decide) ?_
      exact w_L114 _ _ _ _ _ _ h hP hS (lv_sub hl [1, 3, 4] rfl)
    have h := br_0 h c7
    by_cases c14 : v4 = (2 : Int32)
    · have h := br_1 h c14
      refine lv_tableIn (tgt := 98) hx hb dX5_lookAt_48 (by rw [c14] <;> decide) (by rw [c14] <;> decide) (by rw [c14] <;> rfl) (by decide) ?_
      exact w_L98 _ _ _ _ _ h hP hS (lv_sub hl [1, 0] rfl)
    have h := br_0 h c14
    by_cases c16 : v4 = (3 : Int32)
    · have h := br_1 h c16
      refine lv_tableIn (tgt := 114) hx hb dX5_lookAt_48 (by rw [c16] <;> decide) (by rw [c16] <;> decide) (by rw [c16] <;> rfl) (by decide) ?_
      exact w_L114 _ _ _ _ _ _ h hP hS (lv_sub hl [1, 3, 4] rfl)
    have h := br_0 h c16
    by_cases c17 : v4 = (4 : Int32)
    · have h := br_1 h c17
      refine lv_tableIn (tgt := 98) hx hb dX5_lookAt_48 (by rw [c17] <;> decide) (by rw [c17] <;> decide) (by rw [c17] <;> rfl) (by decide) ?_
      exact w_L98 _ _ _ _ _ h hP hS (lv_sub hl [1, 0] rfl)
    have h := br_0 h c17
    have qc5 := sw_ne c5 (v := 0) rfl
    have qc7 := sw_ne c7 (v := 1) rfl
    have qc14 := sw_ne c14 (v := 2) rfl
    have qc16 := sw_ne c16 (v := 3) rfl
    have qc17 := sw_ne c17 (v := 4) rfl
    refine lv_tableOut (tgt := 147) hx hb dX5_lookAt_48 (by omega) (by decide) ?_
    exact mw_vret X hr hlocks hP hS (Option.some.inj h) dX5_lookAt_147
  have w_L36 : ∀ (M : Mem) (y2 y4 : Int32) (H : Heap) (locs : List Loc) (ls : Array Slot), f_X5_lookAt_L36 j M y2 y4 = some M0 → va_P E.1 vwCl (wl E M) H → va_S (AA E) s.heap H locs → lv_has ls 6 [(0, .ref (E.2.2 7 20)), (1, .ref (E.2.2 j 11)), (2, .int y2), (4, .int y4)] → W p l e (headSpec (Wm yX5_lookAt cX5_lookAt 6 none) ({ frames := 1, cells := 0, slots := 0, locals := 23 } : Room)).room s m ([Value.ref (E.2.2 7 20), Value.ref (E.2.2 j 11), Value.int a1] : List Value).toArray below meth c H locs 0 0 (MQ below (QV E M0) ([Value.ref (E.2.2 7 20), Value.ref (E.2.2 j 11), Value.int a1] : List Value).toArray s 0 0 (AA E)) (F0 m 36 ls []) := by
    intro M y2 y4 H locs ls h hP hS hl
    unfold f_X5_lookAt_L36 at h
    refine lv_iconst (v := 0) hx hb dX5_lookAt_36 (by decide) ?_
    exact w_L37 _ _ _ _ _ _ _ h hP hS (lv_sub hl [0, 1, 2, 3] rfl)
  unfold f_X5_lookAt at h
  refine lv_aload_n hx hb dX5_lookAt_0 rfl (lv_at hl 1 rfl) ?_
  refine lv_aload_n hx hb dX5_lookAt_1 rfl (lv_at hl 1 rfl) ?_
  refine gn_2_1 X nf_12 hP (ms hj 11) dX5_lookAt_2 ?_
  refine lv_iload_n hx hb dX5_lookAt_5 rfl (lv_at hl 2 rfl) ?_
  obtain ⟨v1, hv1, h⟩ := bO_e h
  refine mw_callVi X (c_X2_at l E hA hj (by decide) hv1) pk_X2_at pv_X2_at wm_284 ⟨Nat.le_of_ble_eq_true rfl, Nat.le_of_ble_eq_true rfl⟩ ⟨rfl, rfl⟩ hP hS (ms hj 11) rfl rfl rfl rfl hl.1 (Nat.le_of_ble_eq_true rfl) ⟨Nat.zero_le _, Nat.zero_le _⟩ rfl dX5_lookAt_6 (fun H locs hP hS => ?_)
  refine lv_istore_n (lv' := [(3, .int v1), (0, .ref (E.2.2 7 20)), (1, .ref (E.2.2 j 11)), (2, .int a1)]) hx hb dX5_lookAt_9 rfl hl (by decide) rfl (fun ls hl => ?_)
  refine lv_aload_n hx hb dX5_lookAt_10 rfl (lv_at hl 2 rfl) ?_
  refine lv_aload_n hx hb dX5_lookAt_11 rfl (lv_at hl 2 rfl) ?_
  refine gn_2_2 X nf_14 hP (ms hj 11) dX5_lookAt_12 ?_
  refine lv_iload_n hx hb dX5_lookAt_15 rfl (lv_at hl 3 rfl) ?_
  obtain ⟨v2, hv2, h⟩ := bO_e h
  refine mw_callVi X (c_X2_at l E hA hj (by decide) hv2) pk_X2_at pv_X2_at wm_284 ⟨Nat.le_of_ble_eq_true rfl, Nat.le_of_ble_eq_true rfl⟩ ⟨rfl, rfl⟩ hP hS (ms hj 11) rfl rfl rfl rfl hl.1 (Nat.le_of_ble_eq_true rfl) ⟨Nat.zero_le _, Nat.zero_le _⟩ rfl dX5_lookAt_16 (fun H locs hP hS => ?_)
  refine lv_istore (lv' := [(4, .int v2), (3, .int v1), (0, .ref (E.2.2 7 20)), (1, .ref (E.2.2 j 11)), (2, .int a1)]) hx hb dX5_lookAt_19 hl (by decide) rfl (fun ls hl => ?_)
  refine lv_iload_n hx hb dX5_lookAt_21 rfl (lv_at hl 1 rfl) ?_
  refine lv_if_lt (tgt := 36) hx hb dX5_lookAt_22 (by decide) (fun c3 => ?_) (fun c3 => ?_)
  · have h := br_1 h c3
    exact w_L36 _ _ _ _ _ _ h hP hS (lv_sub hl [2, 3, 4, 0] rfl)
  · have h := br_0 h c3
    refine lv_iload_n hx hb dX5_lookAt_25 rfl (lv_at hl 1 rfl) ?_
    refine lv_iconst (v := 4) hx hb dX5_lookAt_26 (by decide) ?_
    refine lv_icmp_ge (tgt := 36) hx hb dX5_lookAt_27 (by decide) (fun c18 => ?_) (fun c18 => ?_)
    · have h := br_1 h c18
      exact w_L36 _ _ _ _ _ _ h hP hS (lv_sub hl [2, 3, 4, 0] rfl)
    · have h := br_0 h c18
      refine lv_iconst (v := 1) hx hb dX5_lookAt_30 (by decide) ?_
      refine lv_iload_n hx hb dX5_lookAt_31 rfl (lv_at hl 1 rfl) ?_
      refine lv_ishl hx hb dX5_lookAt_32 ?_
      refine lv_goto (tgt := 37) hx hb dX5_lookAt_33 (by decide) ?_
      exact w_L37 _ _ _ _ _ _ _ h hP hS (lv_sub hl [2, 3, 4, 0] rfl)
/-! SealedGroups$Restarter.look -/
noncomputable def f_X5_look_L114 (j : Nat) (K114 : Mem → Int32 → Int32 → Option Mem) (M : Mem) (y4 y5 : Int32) : Option Mem :=
(if y4 < y5 then
some M
else
bO (f_X5_lookAt j M y5) (fun M13 =>
bd (y5 + (1 : Int32)) (fun x14 =>
K114 M13 y4 x14)))
noncomputable def f_X5_look_L88 (j : Nat) (K60 : Mem → Int32 → Int32 → Option Mem) (M : Mem) (y3 y4 z0 z1 : Int32) : Option Mem :=
gd (inb z1 8) (
bd (st M 7 21 (z1).toNatClampNeg z0) (fun M16 =>
bd (y4 + (1 : Int32)) (fun x18 =>
K60 M16 y3 x18)))
noncomputable def f_X5_look_L60 (j : Nat) (K60 : Mem → Int32 → Int32 → Option Mem) (M : Mem) (y3 y4 : Int32) : Option Mem :=
(if (8 : Int32) ≤ y4 then
bO (f_X2_last j M) (fun v9 =>
bd ((if (M j 11 7) < (M 7 20 2) then (M 7 20 2) else (M j 11 7))) (fun x10 =>
itr (f_X5_look_L114 j) (fun _ _ _ => none) FU M v9 x10))
else
(if y3 = 0 then
f_X5_look_L88 j K60 M y3 y4 (0 : Int32) y4
else
gd (inb y4 8) (
f_X5_look_L88 j K60 M y3 y4 (M j 18 (y4).toNatClampNeg) y4)))
noncomputable def f_X5_look_L54 (j : Nat) (M : Mem) (y3 z0 : Int32) : Option Mem :=
bd (st M 7 20 2 z0) (fun M7 =>
itr (f_X5_look_L60 j) (fun _ _ _ => none) FU M7 y3 (0 : Int32))
noncomputable def f_X5_look_L37 (j : Nat) (M : Mem) (y2 y3 z0 : Int32) : Option Mem :=
bd (st M 7 20 3 z0) (fun M4 =>
(if y3 = 0 then
bO (f_X2_tellNumber j M4 (1 : Int32)) (fun v6 =>
f_X5_look_L54 j M4 y3 v6)
else
f_X5_look_L54 j M4 y3 y2))
noncomputable def f_X5_look_L14 (j : Nat) (M : Mem) (y2 z0 : Int32) : Option Mem :=
(if z0 = 0 then
f_X5_look_L37 j M y2 z0 (0 : Int32)
else
bO (f_X2_at j 15 M y2) (fun v20 =>
f_X5_look_L37 j M y2 z0 (if (0 : Int32) < v20 then v20 else (0 : Int32))))
noncomputable def f_X5_look (j : Nat) (M : Mem) : Option Mem :=
bd ((M j 11 10)) (fun x1 =>
(if x1 = 0 then
f_X5_look_L14 j M x1 (0 : Int32)
else
f_X5_look_L14 j M x1 (1 : Int32)))
theorem pk_X5_look : Pk "SealedGroups$Restarter" yX5_look cX5_look 6 none 1 := ⟨wm_280, wm_21, rfl, by decide +kernel⟩
theorem pv_X5_look : Cond.instanceMethod yX5_look ∈ wsL_law ∧ Cond.selects "SealedGroups$Restarter" yX5_look yX5_look ∈ wsL_law := ⟨wm_278, wm_279⟩
set_option maxHeartbeats 4000000 in
set_option maxRecDepth 100000 in
theorem c_X5_look (l : Launch) (E : En) (hA : AdOK E) {j : Nat} {M : Mem} {M0 : Mem} (hj : j < 7) (h : f_X5_look j M = some M0) : Met l yX5_look (Wm yX5_look cX5_look 6 none) ({ frames := 3, cells := 0, slots := 0, locals := 62 } : Room) (va_Pc [Value.ref (E.2.2 7 20), Value.ref (E.2.2 j 11)] (Wd E M)) (QV E M0) 0 0 (AA E) := by
  refine Met.ofW (cc := cX5_look) (maxL := 6) (ret := none) (by decide +kernel) rfl ?_
  intro p e s m args below meth c s₁ B hml hv
  obtain ⟨rfl, hP, hK⟩ := hv
  have X : Cx E (AA E) p s m c _ cX5_look 6 RX5 := ⟨⟨B.exec, B.bytes, hml, findClass_of_methodNamed B.named, fun w hw => atoms_spec (ws := Wm yX5_look cX5_look 6 none) B.pre w (List.mem_cons_of_mem _ hw)⟩, hK, hA, fun _ h => h⟩
  have hx := B.exec
  have hb := B.bytes
  have hr := B.returns
  have hlocks := B.notSynchronized
  clear B hml
  have hS : va_S (AA E) s.heap s.heap [] := va_S.rf
  have hl := lv_entry ([Value.ref (E.2.2 7 20), Value.ref (E.2.2 j 11)]) (n := 6) (Nat.le_of_ble_eq_true rfl)
  rw [lg_entry_eq]
  generalize (lg_sl ([Value.ref (E.2.2 7 20), Value.ref (E.2.2 j 11)]) ++ List.replicate (6 - (lg_sl ([Value.ref (E.2.2 7 20), Value.ref (E.2.2 j 11)])).length) Slot.unset).toArray = ls at hl ⊢
  have hl : lv_has ls 6 [(0, .ref (E.2.2 7 20)), (1, .ref (E.2.2 j 11))] := hl
  have w_L114 : ∀ (n114 : Nat) (M : Mem) (y4 y5 : Int32) (H : Heap) (locs : List Loc) (ls : Array Slot), itr (f_X5_look_L114 j) (fun _ _ _ => none) n114 M y4 y5 = some M0 → va_P E.1 vwCl (wl E M) H → va_S (AA E) s.heap H locs → lv_has ls 6 [(0, .ref (E.2.2 7 20)), (1, .ref (E.2.2 j 11)), (4, .int y4), (5, .int y5)] → W p l e (headSpec (Wm yX5_look cX5_look 6 none) ({ frames := 3, cells := 0, slots := 0, locals := 62 } : Room)).room s m ([Value.ref (E.2.2 7 20), Value.ref (E.2.2 j 11)] : List Value).toArray below meth c H locs 0 0 (MQ below (QV E M0) ([Value.ref (E.2.2 7 20), Value.ref (E.2.2 j 11)] : List Value).toArray s 0 0 (AA E)) (F0 m 114 ls []) := by
    intro n114
    induction n114 with
    | zero => intro M y4 y5 H locs ls h; exact (nomatch (show (none : Option Mem) = some _ from h))
    | succ n114 ih114 =>
      intro M y4 y5 H locs ls h hP hS hl
      have h : f_X5_look_L114 j (itr (f_X5_look_L114 j) (fun _ _ _ => none) n114) M y4 y5 = some M0 := h
      unfold f_X5_look_L114 at h
      refine lv_iload hx hb dX5_look_114 (lv_at hl 3 rfl) ?_
      refine lv_iload hx hb dX5_look_116 (lv_at hl 2 rfl) ?_
      refine lv_icmp_gt (tgt := 134) hx hb dX5_look_118 (by decide) (fun c11 => ?_) (fun c11 => ?_)
      · have h := br_1 h c11
        exact mw_vret X hr hlocks hP hS (Option.some.inj h) dX5_look_134
      · have h := br_0 h c11
        refine lv_aload_n hx hb dX5_look_121 rfl (lv_at hl 0 rfl) ?_
        refine lv_aload_n hx hb dX5_look_122 rfl (lv_at hl 1 rfl) ?_
        refine lv_iload hx hb dX5_look_123 (lv_at hl 3 rfl) ?_
        obtain ⟨M13, hv12, h⟩ := bO_e h
        refine mw_callVv X (c_X5_lookAt l E hA hj hv12) pk_X5_lookAt pv_X5_lookAt wm_287 ⟨Nat.le_of_ble_eq_true rfl, Nat.le_of_ble_eq_true rfl⟩ ⟨rfl, rfl⟩ hP hS ix_20 rfl rfl rfl rfl hl.1 (Nat.le_of_ble_eq_true rfl) ⟨Nat.zero_le _, Nat.zero_le _⟩ rfl dX5_look_125 (fun H locs hP hS => ?_)
        obtain ⟨x14, ex14⟩ : ∃ y : Int32, y = y5 + (1 : Int32) := ⟨_, rfl⟩
        have h := bd_e h ex14
        refine lv_iinc (v := x14) (lv' := [(5, .int x14), (0, .ref (E.2.2 7 20)), (1, .ref (E.2.2 j 11)), (4, .int y4)]) hx hb dX5_look_128 hl (k := 3) rfl (by rw [ex14]; rfl) (by decide) rfl (fun ls hl => ?_)
        refine lv_goto (tgt := 114) hx hb dX5_look_131 (by decide) ?_
        exact ih114 _ _ _ _ _ _ h hP hS (lv_sub hl [1, 2, 3, 0] rfl)
  have w_L60 : ∀ (n60 : Nat) (M : Mem) (y3 y4 : Int32) (H : Heap) (locs : List Loc) (ls : Array Slot), itr (f_X5_look_L60 j) (fun _ _ _ => none) n60 M y3 y4 = some M0 → va_P E.1 vwCl (wl E M) H → va_S (AA E) s.heap H locs → lv_has ls 6 [(0, .ref (E.2.2 7 20)), (1, .ref (E.2.2 j 11)), (3, .int y3), (4, .int y4)] → W p l e (headSpec (Wm yX5_look cX5_look 6 none) ({ frames := 3, cells := 0, slots := 0, locals := 62 } : Room)).room s m ([Value.ref (E.2.2 7 20), Value.ref (E.2.2 j 11)] : List Value).toArray below meth c H locs 0 0 (MQ below (QV E M0) ([Value.ref (E.2.2 7 20), Value.ref (E.2.2 j 11)] : List Value).toArray s 0 0 (AA E)) (F0 m 60 ls []) := by
    intro n60
    induction n60 with
    | zero => intro M y3 y4 H locs ls h; exact (nomatch (show (none : Option Mem) = some _ from h))
    | succ n60 ih60 =>
      intro M y3 y4 H locs ls h hP hS hl
      have h : f_X5_look_L60 j (itr (f_X5_look_L60 j) (fun _ _ _ => none) n60) M y3 y4 = some M0 := h
      have w_L88 : ∀ (M : Mem) (y3 y4 z0 z1 : Int32) (H : Heap) (locs : List Loc) (ls : Array Slot), f_X5_look_L88 j (itr (f_X5_look_L60 j) (fun _ _ _ => none) n60) M y3 y4 z0 z1 = some M0 → va_P E.1 vwCl (wl E M) H → va_S (AA E) s.heap H locs → lv_has ls 6 [(0, .ref (E.2.2 7 20)), (1, .ref (E.2.2 j 11)), (3, .int y3), (4, .int y4)] → W p l e (headSpec (Wm yX5_look cX5_look 6 none) ({ frames := 3, cells := 0, slots := 0, locals := 62 } : Room)).room s m ([Value.ref (E.2.2 7 20), Value.ref (E.2.2 j 11)] : List Value).toArray below meth c H locs 0 0 (MQ below (QV E M0) ([Value.ref (E.2.2 7 20), Value.ref (E.2.2 j 11)] : List Value).toArray s 0 0 (AA E)) (F0 m 88 ls [.int z0, .int z1, .ref (E.2.2 7 21)]) := by
        intro M y3 y4 z0 z1 H locs ls h hP hS hl
        unfold f_X5_look_L88 at h
        obtain ⟨g17, h⟩ := gd_e h
        refine mw_st X hP hS ix_21 (fun _ => rfl) (inb_vp g17) rfl dX5_look_88 (fun H locs M16 eM16 hP hS => ?_)
        have h := bd_e h eM16
        obtain ⟨x18, ex18⟩ : ∃ y : Int32, y = y4 + (1 : Int32) := ⟨_, rfl⟩
        have h := bd_e h ex18
        refine lv_iinc (v := x18) (lv' := [(4, .int x18), (0, .ref (E.2.2 7 20)), (1, .ref (E.2.2 j 11)), (3, .int y3)]) hx hb dX5_look_89 hl (k := 3) rfl (by rw [ex18]; rfl) (by decide) rfl (fun ls hl => ?_)
        refine lv_goto (tgt := 60) hx hb dX5_look_92 (by decide) ?_
        exact ih60 _ _ _ _ _ _ h hP hS (lv_sub hl [1, 2, 3, 0] rfl)
      unfold f_X5_look_L60 at h
      refine lv_iload hx hb dX5_look_60 (lv_at hl 3 rfl) ?_
      refine lv_bipush (v := 8) hx hb dX5_look_62 (by decide) ?_
      refine lv_icmp_ge (tgt := 95) hx hb dX5_look_64 (by decide) (fun c8 => ?_) (fun c8 => ?_)
      · have h := br_1 h c8
        refine lv_aload_n hx hb dX5_look_95 rfl (lv_at hl 1 rfl) ?_
        obtain ⟨v9, hv9, h⟩ := bO_e h
        refine mw_callVi X (c_X2_last l E hA hj hv9) pk_X2_last pv_X2_last wm_286 ⟨Nat.le_of_ble_eq_true rfl, Nat.le_of_ble_eq_true rfl⟩ ⟨rfl, rfl⟩ hP hS (ms hj 11) rfl rfl rfl rfl hl.1 (Nat.le_of_ble_eq_true rfl) ⟨Nat.zero_le _, Nat.zero_le _⟩ rfl dX5_look_96 (fun H locs hP hS => ?_)
        refine lv_istore (lv' := [(4, .int v9), (0, .ref (E.2.2 7 20)), (1, .ref (E.2.2 j 11)), (3, .int y3)]) hx hb dX5_look_99 hl (by decide) rfl (fun ls hl => ?_)
        refine lv_aload_n hx hb dX5_look_101 rfl (lv_at hl 2 rfl) ?_
        refine gn_2_7 X nf_21 hP (ms hj 11) dX5_look_102 ?_
        refine lv_aload_n hx hb dX5_look_105 rfl (lv_at hl 1 rfl) ?_
        refine gt_5_2 X wm_283 hP ix_20 dX5_look_106 ?_
        refine mw_max X hl.1 ⟨Nat.le_of_ble_eq_true rfl, Nat.le_of_ble_eq_true rfl⟩ ⟨Nat.zero_le _, Nat.zero_le _⟩ (Nat.le_of_ble_eq_true rfl) wm_281 wm_smax wm_iMath wm_cmax dX5_look_109 ?_
        refine lv_topi (fun x10 ex10 => ?_)
        have h := bd_e h ex10
        refine lv_istore (lv' := [(5, .int x10), (4, .int v9), (0, .ref (E.2.2 7 20)), (1, .ref (E.2.2 j 11)), (3, .int y3)]) hx hb dX5_look_112 hl (by decide) rfl (fun ls hl => ?_)
        exact w_L114 FU _ _ _ _ _ _ h hP hS (lv_sub hl [2, 3, 1, 0] rfl)
      · have h := br_0 h c8
        refine lv_aload_n hx hb dX5_look_67 rfl (lv_at hl 0 rfl) ?_
        refine gt_5_0 X wm_74 hP ix_20 dX5_look_68 ?_
        refine lv_iload hx hb dX5_look_71 (lv_at hl 3 rfl) ?_
        refine lv_iload_n hx hb dX5_look_73 rfl (lv_at hl 2 rfl) ?_
        refine lv_if_eq (tgt := 87) hx hb dX5_look_74 (by decide) (fun c15 => ?_) (fun c15 => ?_)
        · have h := br_1 h c15
          refine lv_iconst (v := 0) hx hb dX5_look_87 (by decide) ?_
          exact w_L88 _ _ _ _ _ _ _ _ h hP hS (lv_sub hl [0, 1, 2, 3] rfl)
        · have h := br_0 h c15
          refine lv_aload_n hx hb dX5_look_77 rfl (lv_at hl 1 rfl) ?_
          refine gn_2_6 X nf_20 hP (ms hj 11) dX5_look_78 ?_
          refine lv_iload hx hb dX5_look_81 (lv_at hl 3 rfl) ?_
          obtain ⟨g19, h⟩ := gd_e h
          refine mw_ld X hP (ms hj 18) rfl (inb_vp g19) rfl dX5_look_83 ?_
          refine lv_goto (tgt := 88) hx hb dX5_look_84 (by decide) ?_
          exact w_L88 _ _ _ _ _ _ _ _ h hP hS (lv_sub hl [0, 1, 2, 3] rfl)
  have w_L54 : ∀ (M : Mem) (y3 z0 : Int32) (H : Heap) (locs : List Loc) (ls : Array Slot), f_X5_look_L54 j M y3 z0 = some M0 → va_P E.1 vwCl (wl E M) H → va_S (AA E) s.heap H locs → lv_has ls 6 [(0, .ref (E.2.2 7 20)), (1, .ref (E.2.2 j 11)), (3, .int y3)] → W p l e (headSpec (Wm yX5_look cX5_look 6 none) ({ frames := 3, cells := 0, slots := 0, locals := 62 } : Room)).room s m ([Value.ref (E.2.2 7 20), Value.ref (E.2.2 j 11)] : List Value).toArray below meth c H locs 0 0 (MQ below (QV E M0) ([Value.ref (E.2.2 7 20), Value.ref (E.2.2 j 11)] : List Value).toArray s 0 0 (AA E)) (F0 m 54 ls [.int z0, .ref (E.2.2 7 20)]) := by
    intro M y3 z0 H locs ls h hP hS hl
    unfold f_X5_look_L54 at h
    refine pt_5_2 X wm_283 hP hS ix_20 dX5_look_54 (fun H locs M7 eM7 hP hS => ?_)
    have h := bd_e h eM7
    refine lv_iconst (v := 0) hx hb dX5_look_57 (by decide) ?_
    refine lv_istore (lv' := [(4, .int (0 : Int32)), (0, .ref (E.2.2 7 20)), (1, .ref (E.2.2 j 11)), (3, .int y3)]) hx hb dX5_look_58 hl (by decide) rfl (fun ls hl => ?_)
    exact w_L60 FU _ _ _ _ _ _ h hP hS (lv_sub hl [1, 2, 3, 0] rfl)
  have w_L37 : ∀ (M : Mem) (y2 y3 z0 : Int32) (H : Heap) (locs : List Loc) (ls : Array Slot), f_X5_look_L37 j M y2 y3 z0 = some M0 → va_P E.1 vwCl (wl E M) H → va_S (AA E) s.heap H locs → lv_has ls 6 [(0, .ref (E.2.2 7 20)), (1, .ref (E.2.2 j 11)), (2, .int y2), (3, .int y3)] → W p l e (headSpec (Wm yX5_look cX5_look 6 none) ({ frames := 3, cells := 0, slots := 0, locals := 62 } : Room)).room s m ([Value.ref (E.2.2 7 20), Value.ref (E.2.2 j 11)] : List Value).toArray below meth c H locs 0 0 (MQ below (QV E M0) ([Value.ref (E.2.2 7 20), Value.ref (E.2.2 j 11)] : List Value).toArray s 0 0 (AA E)) (F0 m 37 ls [.int z0, .ref (E.2.2 7 20)]) := by
    intro M y2 y3 z0 H locs ls h hP hS hl
    unfold f_X5_look_L37 at h
    refine pt_5_3 X wm_282 hP hS ix_20 dX5_look_37 (fun H locs M4 eM4 hP hS => ?_)
    have h := bd_e h eM4
    refine lv_aload_n hx hb dX5_look_40 rfl (lv_at hl 0 rfl) ?_
    refine lv_iload_n hx hb dX5_look_41 rfl (lv_at hl 3 rfl) ?_
    refine lv_if_eq (tgt := 49) hx hb dX5_look_42 (by decide) (fun c5 => ?_) (fun c5 => ?_)
    · have h := br_1 h c5
      refine lv_aload_n hx hb dX5_look_49 rfl (lv_at hl 1 rfl) ?_
      refine lv_iconst (v := 1) hx hb dX5_look_50 (by decide) ?_
      obtain ⟨v6, hv6, h⟩ := bO_e h
      refine mw_callVi X (c_X2_tellNumber l E hA hj hv6) pk_X2_tellNumber pv_X2_tellNumber wm_285 ⟨Nat.le_of_ble_eq_true rfl, Nat.le_of_ble_eq_true rfl⟩ ⟨rfl, rfl⟩ hP hS (ms hj 11) rfl rfl rfl rfl hl.1 (Nat.le_of_ble_eq_true rfl) ⟨Nat.zero_le _, Nat.zero_le _⟩ rfl dX5_look_51 (fun H locs hP hS => ?_)
      exact w_L54 _ _ _ _ _ _ h hP hS (lv_sub hl [0, 1, 3] rfl)
    · have h := br_0 h c5
      refine lv_iload_n hx hb dX5_look_45 rfl (lv_at hl 2 rfl) ?_
      refine lv_goto (tgt := 54) hx hb dX5_look_46 (by decide) ?_
      exact w_L54 _ _ _ _ _ _ h hP hS (lv_sub hl [0, 1, 3] rfl)
  have w_L14 : ∀ (M : Mem) (y2 z0 : Int32) (H : Heap) (locs : List Loc) (ls : Array Slot), f_X5_look_L14 j M y2 z0 = some M0 → va_P E.1 vwCl (wl E M) H → va_S (AA E) s.heap H locs → lv_has ls 6 [(0, .ref (E.2.2 7 20)), (1, .ref (E.2.2 j 11)), (2, .int y2)] → W p l e (headSpec (Wm yX5_look cX5_look 6 none) ({ frames := 3, cells := 0, slots := 0, locals := 62 } : Room)).room s m ([Value.ref (E.2.2 7 20), Value.ref (E.2.2 j 11)] : List Value).toArray below meth c H locs 0 0 (MQ below (QV E M0) ([Value.ref (E.2.2 7 20), Value.ref (E.2.2 j 11)] : List Value).toArray s 0 0 (AA E)) (F0 m 14 ls [.int z0]) := by
    intro M y2 z0 H locs ls h hP hS hl
    unfold f_X5_look_L14 at h
    refine lv_istore_n (lv' := [(3, .int z0), (0, .ref (E.2.2 7 20)), (1, .ref (E.2.2 j 11)), (2, .int y2)]) hx hb dX5_look_14 rfl hl (by decide) rfl (fun ls hl => ?_)
    refine lv_aload_n hx hb dX5_look_15 rfl (lv_at hl 1 rfl) ?_
    refine lv_iload_n hx hb dX5_look_16 rfl (lv_at hl 0 rfl) ?_
    refine lv_if_eq (tgt := 36) hx hb dX5_look_17 (by decide) (fun c3 => ?_) (fun c3 => ?_)
    · have h := br_1 h c3
      refine lv_iconst (v := 0) hx hb dX5_look_36 (by decide) ?_
      exact w_L37 _ _ _ _ _ _ _ h hP hS (lv_sub hl [1, 2, 3, 0] rfl)
    · have h := br_0 h c3
      refine lv_iconst (v := 0) hx hb dX5_look_20 (by decide) ?_
      refine lv_aload_n hx hb dX5_look_21 rfl (lv_at hl 2 rfl) ?_
      refine lv_aload_n hx hb dX5_look_22 rfl (lv_at hl 2 rfl) ?_
      refine gn_2_3 X nf_16 hP (ms hj 11) dX5_look_23 ?_
      refine lv_iload_n hx hb dX5_look_26 rfl (lv_at hl 3 rfl) ?_
      obtain ⟨v20, hv20, h⟩ := bO_e h
      refine mw_callVi X (c_X2_at l E hA hj (by decide) hv20) pk_X2_at pv_X2_at wm_284 ⟨Nat.le_of_ble_eq_true rfl, Nat.le_of_ble_eq_true rfl⟩ ⟨rfl, rfl⟩ hP hS (ms hj 11) rfl rfl rfl rfl hl.1 (Nat.le_of_ble_eq_true rfl) ⟨Nat.zero_le _, Nat.zero_le _⟩ rfl dX5_look_27 (fun H locs hP hS => ?_)
      refine mw_max X hl.1 ⟨Nat.le_of_ble_eq_true rfl, Nat.le_of_ble_eq_true rfl⟩ ⟨Nat.zero_le _, Nat.zero_le _⟩ (Nat.le_of_ble_eq_true rfl) wm_281 wm_smax wm_iMath wm_cmax dX5_look_30 ?_
      refine lv_goto (tgt := 37) hx hb dX5_look_33 (by decide) ?_
      exact w_L37 _ _ _ _ _ _ _ h hP hS (lv_sub hl [1, 2, 3, 0] rfl)
  unfold f_X5_look at h
  refine lv_aload_n hx hb dX5_look_0 rfl (lv_at hl 1 rfl) ?_
  refine gn_2_10 X nf_23 hP (ms hj 11) dX5_look_1 ?_
  refine lv_topi (fun x1 ex1 => ?_)
  have h := bd_e h ex1
  refine lv_istore_n (lv' := [(2, .int x1), (0, .ref (E.2.2 7 20)), (1, .ref (E.2.2 j 11))]) hx hb dX5_look_4 rfl hl (by decide) rfl (fun ls hl => ?_)
  refine lv_iload_n hx hb dX5_look_5 rfl (lv_at hl 0 rfl) ?_
  refine lv_if_eq (tgt := 13) hx hb dX5_look_6 (by decide) (fun c2 => ?_) (fun c2 => ?_)
  · have h := br_1 h c2
    refine lv_iconst (v := 0) hx hb dX5_look_13 (by decide) ?_
    exact w_L14 _ _ _ _ _ _ h hP hS (lv_sub hl [1, 2, 0] rfl)
  · have h := br_0 h c2
    refine lv_iconst (v := 1) hx hb dX5_look_9 (by decide) ?_
    refine lv_goto (tgt := 14) hx hb dX5_look_10 (by decide) ?_
    exact w_L14 _ _ _ _ _ _ h hP hS (lv_sub hl [1, 2, 0] rfl)
/-! SealedGroups$Restarter.leastStart -/
noncomputable def f_X5_leastStart_L40  (M : Mem) (K4 : Int32 → Int32 → Option Int32) (y1 y2 : Int32) : Option Int32 :=
bd (y2 + (1 : Int32)) (fun x4 =>
K4 y1 x4)
noncomputable def f_X5_leastStart_L33  (M : Mem) (K4 : Int32 → Int32 → Option Int32) (y2 : Int32) : Option Int32 :=
gd (inb y2 8) (
bd ((M 7 21 (y2).toNatClampNeg)) (fun x7 =>
f_X5_leastStart_L40 M K4 x7 y2))
noncomputable def f_X5_leastStart_L4  (M : Mem) (K4 : Int32 → Int32 → Option Int32) (y1 y2 : Int32) : Option Int32 :=
(if (8 : Int32) ≤ y2 then
some y1
else
gd (inb y2 8) (
(if (M 7 21 (y2).toNatClampNeg) = 0 then
f_X5_leastStart_L40 M K4 y1 y2
else
(if y1 = 0 then
f_X5_leastStart_L33 M K4 y2
else
gd (inb y2 8) (
(if y1 ≤ (M 7 21 (y2).toNatClampNeg) then
f_X5_leastStart_L40 M K4 y1 y2
else
f_X5_leastStart_L33 M K4 y2))))))
noncomputable def f_X5_leastStart  (M : Mem) : Option Int32 :=
itr (f_X5_leastStart_L4 M) (fun _ _ => none) FU (0 : Int32) (0 : Int32)
theorem pk_X5_leastStart : Pk "SealedGroups$Restarter" yX5_leastStart cX5_leastStart 3 (some .int) 0 := ⟨wm_298, wm_21, rfl, by decide +kernel⟩
theorem pv_X5_leastStart : Cond.instanceMethod yX5_leastStart ∈ wsL_law ∧ Cond.selects "SealedGroups$Restarter" yX5_leastStart yX5_leastStart ∈ wsL_law := ⟨wm_296, wm_297⟩
set_option maxHeartbeats 4000000 in
set_option maxRecDepth 100000 in
theorem c_X5_leastStart (l : Launch) (E : En) (hA : AdOK E) {M : Mem} {r0 : Int32}  (h : f_X5_leastStart M = some r0) : Met l yX5_leastStart (Wm yX5_leastStart cX5_leastStart 3 (some .int)) ({ frames := 0, cells := 0, slots := 0, locals := 0 } : Room) (va_Pc [Value.ref (E.2.2 7 20)] (Wd E M)) (QI E r0 M) 0 0 (AA E) := by
  refine Met.ofW (cc := cX5_leastStart) (maxL := 3) (ret := (some .int)) (by decide +kernel) rfl ?_
  intro p e s m args below meth c s₁ B hml hv
  obtain ⟨rfl, hP, hK⟩ := hv
  have X : Cx E (AA E) p s m c _ cX5_leastStart 3 RX5 := ⟨⟨B.exec, B.bytes, hml, findClass_of_methodNamed B.named, fun w hw => atoms_spec (ws := Wm yX5_leastStart cX5_leastStart 3 (some .int)) B.pre w (List.mem_cons_of_mem _ hw)⟩, hK, hA, fun _ h => h⟩
  have hx := B.exec
  have hb := B.bytes
  have hr := B.returns
  have hlocks := B.notSynchronized
  clear B hml
  have hS : va_S (AA E) s.heap s.heap [] := va_S.rf
  have hl := lv_entry ([Value.ref (E.2.2 7 20)]) (n := 3) (Nat.le_of_ble_eq_true rfl)
  rw [lg_entry_eq]
  generalize (lg_sl ([Value.ref (E.2.2 7 20)]) ++ List.replicate (3 - (lg_sl ([Value.ref (E.2.2 7 20)])).length) Slot.unset).toArray = ls at hl ⊢
  have hl : lv_has ls 3 [(0, .ref (E.2.2 7 20))] := hl
  have w_L4 : ∀ (n4 : Nat)  (y1 y2 : Int32) (H : Heap) (locs : List Loc) (ls : Array Slot), itr (f_X5_leastStart_L4 M) (fun _ _ => none) n4 y1 y2 = some r0 → va_P E.1 vwCl (wl E M) H → va_S (AA E) s.heap H locs → lv_has ls 3 [(0, .ref (E.2.2 7 20)), (1, .int y1), (2, .int y2)] → W p l e (headSpec (Wm yX5_leastStart cX5_leastStart 3 (some .int)) ({ frames := 0, cells := 0, slots := 0, locals := 0 } : Room)).room s m ([Value.ref (E.2.2 7 20)] : List Value).toArray below meth c H locs 0 0 (MQ below (QI E r0 M) ([Value.ref (E.2.2 7 20)] : List Value).toArray s 0 0 (AA E)) (F0 m 4 ls []) := by
    intro n4
    induction n4 with
    | zero => intro y1 y2 H locs ls h; exact (nomatch (show (none : Option Int32) = some _ from h))
    | succ n4 ih4 =>
      intro y1 y2 H locs ls h hP hS hl
      have h : f_X5_leastStart_L4 M (itr (f_X5_leastStart_L4 M) (fun _ _ => none) n4) y1 y2 = some r0 := h
      have w_L40 : ∀  (y1 y2 : Int32) (H : Heap) (locs : List Loc) (ls : Array Slot), f_X5_leastStart_L40 M (itr (f_X5_leastStart_L4 M) (fun _ _ => none) n4) y1 y2 = some r0 → va_P E.1 vwCl (wl E M) H → va_S (AA E) s.heap H locs → lv_has ls 3 [(0, .ref (E.2.2 7 20)), (1, .int y1), (2, .int y2)] → W p l e (headSpec (Wm yX5_leastStart cX5_leastStart 3 (some .int)) ({ frames := 0, cells := 0, slots := 0, locals := 0 } : Room)).room s m ([Value.ref (E.2.2 7 20)] : List Value).toArray below meth c H locs 0 0 (MQ below (QI E r0 M) ([Value.ref (E.2.2 7 20)] : List Value).toArray s 0 0 (AA E)) (F0 m 40 ls []) := by
        intro y1 y2 H locs ls h hP hS hl
        unfold f_X5_leastStart_L40 at h
        obtain ⟨x4, ex4⟩ : ∃ y : Int32, y = y2 + (1 : Int32) := ⟨_, rfl⟩
        have h := bd_e h ex4
        refine lv_iinc (v := x4) (lv' := [(2, .int x4), (0, .ref (E.2.2 7 20)), (1, .int y1)]) hx hb dX5_leastStart_40 hl (k := 2) rfl (by rw [ex4]; rfl) (by decide) rfl (fun ls hl => ?_)
        refine lv_goto (tgt := 4) hx hb dX5_leastStart_43 (by decide) ?_
        exact ih4 _ _ _ _ _ h hP hS (lv_sub hl [1, 2, 0] rfl)
      have w_L33 : ∀  (y2 : Int32) (H : Heap) (locs : List Loc) (ls : Array Slot), f_X5_leastStart_L33 M (itr (f_X5_leastStart_L4 M) (fun _ _ => none) n4) y2 = some r0 → va_P E.1 vwCl (wl E M) H → va_S (AA E) s.heap H locs → lv_has ls 3 [(0, .ref (E.2.2 7 20)), (2, .int y2)] → W p l e (headSpec (Wm yX5_leastStart cX5_leastStart 3 (some .int)) ({ frames := 0, cells := 0, slots := 0, locals := 0 } : Room)).room s m ([Value.ref (E.2.2 7 20)] : List Value).toArray below meth c H locs 0 0 (MQ below (QI E r0 M) ([Value.ref (E.2.2 7 20)] : List Value).toArray s 0 0 (AA E)) (F0 m 33 ls []) := by
        intro y2 H locs ls h hP hS hl
        unfold f_X5_leastStart_L33 at h
        refine lv_aload_n hx hb dX5_leastStart_33 rfl (lv_at hl 0 rfl) ?_
        refine gt_5_0 X wm_74 hP ix_20 dX5_leastStart_34 ?_
        refine lv_iload_n hx hb dX5_leastStart_37 rfl (lv_at hl 1 rfl) ?_
        obtain ⟨g6, h⟩ := gd_e h
        refine mw_ld X hP ix_21 rfl (inb_vp g6) rfl dX5_leastStart_38 ?_
        refine lv_topi (fun x7 ex7 => ?_)
        have h := bd_e h ex7
        refine lv_istore_n (lv' := [(1, .int x7), (0, .ref (E.2.2 7 20)), (2, .int y2)]) hx hb dX5_leastStart_39 rfl hl (by decide) rfl (fun ls hl => ?_)
        exact w_L40 _ _ _ _ _ h hP hS (lv_sub hl [1, 0, 2] rfl)
      unfold f_X5_leastStart_L4 at h
      refine lv_iload_n hx hb dX5_leastStart_4 rfl (lv_at hl 2 rfl) ?_
      refine lv_bipush (v := 8) hx hb dX5_leastStart_5 (by decide) ?_
      refine lv_icmp_ge (tgt := 46) hx hb dX5_leastStart_7 (by decide) (fun c1 => ?_) (fun c1 => ?_)
      · have h := br_1 h c1
        refine lv_iload_n hx hb dX5_leastStart_46 rfl (lv_at hl 1 rfl) ?_
        exact mw_iret X hr hlocks hP hS (Option.some.inj h) rfl dX5_leastStart_47
      · have h := br_0 h c1
        refine lv_aload_n hx hb dX5_leastStart_10 rfl (lv_at hl 0 rfl) ?_
        refine gt_5_0 X wm_74 hP ix_20 dX5_leastStart_11 ?_
        refine lv_iload_n hx hb dX5_leastStart_14 rfl (lv_at hl 2 rfl) ?_
        obtain ⟨g2, h⟩ := gd_e h
        refine mw_ld X hP ix_21 rfl (inb_vp g2) rfl dX5_leastStart_15 ?_
        refine lv_if_eq (tgt := 40) hx hb dX5_leastStart_16 (by decide) (fun c3 => ?_) (fun c3 => ?_)
        · have h := br_1 h c3
          exact w_L40 _ _ _ _ _ h hP hS (lv_sub hl [0, 1, 2] rfl)
        · have h := br_0 h c3
          refine lv_iload_n hx hb dX5_leastStart_19 rfl (lv_at hl 1 rfl) ?_
          refine lv_if_eq (tgt := 33) hx hb dX5_leastStart_20 (by decide) (fun c5 => ?_) (fun c5 => ?_)
          · have h := br_1 h c5
            exact w_L33 _ _ _ _ h hP hS (lv_sub hl [0, 2] rfl)
          · have h := br_0 h c5
            refine lv_aload_n hx hb dX5_leastStart_23 rfl (lv_at hl 0 rfl) ?_
            refine gt_5_0 X wm_74 hP ix_20 dX5_leastStart_24 ?_
            refine lv_iload_n hx hb dX5_leastStart_27 rfl (lv_at hl 2 rfl) ?_
            obtain ⟨g8, h⟩ := gd_e h
            refine mw_ld X hP ix_21 rfl (inb_vp g8) rfl dX5_leastStart_28 ?_
            refine lv_iload_n hx hb dX5_leastStart_29 rfl (lv_at hl 1 rfl) ?_
            refine lv_icmp_ge (tgt := 40) hx hb dX5_leastStart_30 (by decide) (fun c9 => ?_) (fun c9 => ?_)
            · have h := br_1 h c9
              exact w_L40 _ _ _ _ _ h hP hS (lv_sub hl [0, 1, 2] rfl)
            · have h := br_0 h c9
              exact w_L33 _ _ _ _ h hP hS (lv_sub hl [0, 2] rfl)
  unfold f_X5_leastStart at h
  refine lv_iconst (v := 0) hx hb dX5_leastStart_0 (by decide) ?_
  refine lv_istore_n (lv' := [(1, .int (0 : Int32)), (0, .ref (E.2.2 7 20))]) hx hb dX5_leastStart_1 rfl hl (by decide) rfl (fun ls hl => ?_)
  refine lv_iconst (v := 0) hx hb dX5_leastStart_2 (by decide) ?_
  refine lv_istore_n (lv' := [(2, .int (0 : Int32)), (1, .int (0 : Int32)), (0, .ref (E.2.2 7 20))]) hx hb dX5_leastStart_3 rfl hl (by decide) rfl (fun ls hl => ?_)
  exact w_L4 FU _ _ _ _ _ h hP hS (lv_sub hl [2, 1, 0] rfl)
/-! SealedGroups$Restarter.isAfterStart -/
noncomputable def f_X5_isAfterStart  (M : Mem) (a1 a2 : Int32) : Option Int32 :=
(if a1 < 0 then
some (0 : Int32)
else
(if (8 : Int32) ≤ a1 then
some (0 : Int32)
else
gd (inb a1 8) (
(if (M 7 21 (a1).toNatClampNeg) = 0 then
some (0 : Int32)
else
gd (inb a1 8) (
(if a2 < (M 7 21 (a1).toNatClampNeg) then
some (0 : Int32)
else
some (1 : Int32)))))))
theorem pk_X5_isAfterStart : Pk "SealedGroups$Restarter" yX5_isAfterStart cX5_isAfterStart 3 (some .boolean) 2 := ⟨wm_302, wm_21, rfl, by decide +kernel⟩
theorem pv_X5_isAfterStart : Cond.instanceMethod yX5_isAfterStart ∈ wsL_law ∧ Cond.selects "SealedGroups$Restarter" yX5_isAfterStart yX5_isAfterStart ∈ wsL_law := ⟨wm_300, wm_301⟩
set_option maxHeartbeats 4000000 in
set_option maxRecDepth 100000 in
theorem c_X5_isAfterStart (l : Launch) (E : En) (hA : AdOK E) {M : Mem} {a1 a2 : Int32} {r0 : Int32}  (h : f_X5_isAfterStart M a1 a2 = some r0) : Met l yX5_isAfterStart (Wm yX5_isAfterStart cX5_isAfterStart 3 (some .boolean)) ({ frames := 0, cells := 0, slots := 0, locals := 0 } : Room) (va_Pc [Value.ref (E.2.2 7 20), Value.int a1, Value.int a2] (Wd E M)) (QI E r0 M) 0 0 (AA E) := by
  refine Met.ofW (cc := cX5_isAfterStart) (maxL := 3) (ret := (some .boolean)) (by decide +kernel) rfl ?_
  intro p e s m args below meth c s₁ B hml hv
  obtain ⟨rfl, hP, hK⟩ := hv
  have X : Cx E (AA E) p s m c _ cX5_isAfterStart 3 RX5 := ⟨⟨B.exec, B.bytes, hml, findClass_of_methodNamed B.named, fun w hw => atoms_spec (ws := Wm yX5_isAfterStart cX5_isAfterStart 3 (some .boolean)) B.pre w (List.mem_cons_of_mem _ hw)⟩, hK, hA, fun _ h => h⟩
  have hx := B.exec
  have hb := B.bytes
  have hr := B.returns
  have hlocks := B.notSynchronized
  clear B hml
  have hS : va_S (AA E) s.heap s.heap [] := va_S.rf
  have hl := lv_entry ([Value.ref (E.2.2 7 20), Value.int a1, Value.int a2]) (n := 3) (Nat.le_of_ble_eq_true rfl)
  rw [lg_entry_eq]
  generalize (lg_sl ([Value.ref (E.2.2 7 20), Value.int a1, Value.int a2]) ++ List.replicate (3 - (lg_sl ([Value.ref (E.2.2 7 20), Value.int a1, Value.int a2])).length) Slot.unset).toArray = ls at hl ⊢
  have hl : lv_has ls 3 [(0, .ref (E.2.2 7 20)), (1, .int a1), (2, .int a2)] := hl
  unfold f_X5_isAfterStart at h
  refine lv_iload_n hx hb dX5_isAfterStart_0 rfl (lv_at hl 1 rfl) ?_
  refine lv_if_lt (tgt := 33) hx hb dX5_isAfterStart_1 (by decide) (fun c1 => ?_) (fun c1 => ?_)
  · have h := br_1 h c1
    refine lv_iconst (v := 0) hx hb dX5_isAfterStart_33 (by decide) ?_
    exact mw_zret X hr hlocks hP hS (by decide) (Option.some.inj h) rfl dX5_isAfterStart_34
  · have h := br_0 h c1
    refine lv_iload_n hx hb dX5_isAfterStart_4 rfl (lv_at hl 1 rfl) ?_
    refine lv_bipush (v := 8) hx hb dX5_isAfterStart_5 (by decide) ?_
    refine lv_icmp_ge (tgt := 33) hx hb dX5_isAfterStart_7 (by decide) (fun c2 => ?_) (fun c2 => ?_)
    · have h := br_1 h c2
      refine lv_iconst (v := 0) hx hb dX5_isAfterStart_33 (by decide) ?_
      exact mw_zret X hr hlocks hP hS (by decide) (Option.some.inj h) rfl dX5_isAfterStart_34
    · have h := br_0 h c2
      refine lv_aload_n hx hb dX5_isAfterStart_10 rfl (lv_at hl 0 rfl) ?_
      refine gt_5_0 X wm_74 hP ix_20 dX5_isAfterStart_11 ?_
      refine lv_iload_n hx hb dX5_isAfterStart_14 rfl (lv_at hl 1 rfl) ?_
      obtain ⟨g3, h⟩ := gd_e h
      refine mw_ld X hP ix_21 rfl (inb_vp g3) rfl dX5_isAfterStart_15 ?_
      refine lv_if_eq (tgt := 33) hx hb dX5_isAfterStart_16 (by decide) (fun c4 => ?_) (fun c4 => ?_)
      · have h := br_1 h c4
        refine lv_iconst (v := 0) hx hb dX5_isAfterStart_33 (by decide) ?_
        exact mw_zret X hr hlocks hP hS (by decide) (Option.some.inj h) rfl dX5_isAfterStart_34
      · have h := br_0 h c4
        refine lv_aload_n hx hb dX5_isAfterStart_19 rfl (lv_at hl 0 rfl) ?_
        refine gt_5_0 X wm_74 hP ix_20 dX5_isAfterStart_20 ?_
        refine lv_iload_n hx hb dX5_isAfterStart_23 rfl (lv_at hl 1 rfl) ?_
        obtain ⟨g5, h⟩ := gd_e h
        refine mw_ld X hP ix_21 rfl (inb_vp g5) rfl dX5_isAfterStart_24 ?_
        refine lv_iload_n hx hb dX5_isAfterStart_25 rfl (lv_at hl 2 rfl) ?_
        refine lv_icmp_gt (tgt := 33) hx hb dX5_isAfterStart_26 (by decide) (fun c6 => ?_) (fun c6 => ?_)
        · have h := br_1 h c6
          refine lv_iconst (v := 0) hx hb dX5_isAfterStart_33 (by decide) ?_
          exact mw_zret X hr hlocks hP hS (by decide) (Option.some.inj h) rfl dX5_isAfterStart_34
        · have h := br_0 h c6
          refine lv_iconst (v := 1) hx hb dX5_isAfterStart_29 (by decide) ?_
          refine lv_goto (tgt := 34) hx hb dX5_isAfterStart_30 (by decide) ?_
          exact mw_zret X hr hlocks hP hS (by decide) (Option.some.inj h) rfl dX5_isAfterStart_34
/-! SealedGroups$Restarter.doAgain -/
noncomputable def f_X5_doAgain_L129 (j : Nat) (K24 : Mem → Int32 → Int32 → Option Mem) (M : Mem) (y4 y5 : Int32) : Option Mem :=
bd (y5 + (1 : Int32)) (fun x10 =>
K24 M y4 x10)
noncomputable def f_X5_doAgain_L72 (j : Nat) (K24 : Mem → Int32 → Int32 → Option Mem) (M : Mem) (y4 y5 y7 z0 : Int32) : Option Mem :=
(if z0 = 0 then
f_X5_doAgain_L129 j K24 M y4 y5
else
bO (f_X5_isAfterStart M y7 y5) (fun v11 =>
(if v11 = 0 then
f_X5_doAgain_L129 j K24 M y4 y5
else
bO (f_X4_markOf j M y7) (fun v13 =>
(if y5 ≤ v13 then
f_X5_doAgain_L129 j K24 M y4 y5
else
bO (f_X2_at j 16 M y5) (fun v15 =>
bO (f_X4_put j M y7 v15 y5) (fun M17 =>
bd (st M17 7 20 4 ((M17 7 20 4) + (1 : Int32))) (fun M18 =>
f_X5_doAgain_L129 j K24 M18 y4 y5))))))))
noncomputable def f_X5_doAgain_L67 (j : Nat) (K24 : Mem → Int32 → Int32 → Option Mem) (M : Mem) (y4 y5 y7 : Int32) : Option Mem :=
f_X5_doAgain_L72 j K24 M y4 y5 y7 (1 : Int32)
noncomputable def f_X5_doAgain_L24 (j : Nat) (K24 : Mem → Int32 → Int32 → Option Mem) (M : Mem) (y4 y5 : Int32) : Option Mem :=
(if y4 < y5 then
some M
else
bO (f_X2_at j 12 M y5) (fun v6 =>
bO (f_X2_at j 14 M y5) (fun v7 =>
(if v6 = (1 : Int32) then
f_X5_doAgain_L67 j K24 M y4 y5 v7
else
(if v6 = (3 : Int32) then
f_X5_doAgain_L67 j K24 M y4 y5 v7
else
f_X5_doAgain_L72 j K24 M y4 y5 v7 (0 : Int32))))))
noncomputable def f_X5_doAgain (j : Nat) (M : Mem) : Option Mem :=
bd (st M 7 20 4 (0 : Int32)) (fun M1 =>
bO (f_X5_leastStart M1) (fun v2 =>
(if v2 = 0 then
some M1
else
bO (f_X2_last j M1) (fun v4 =>
itr (f_X5_doAgain_L24 j) (fun _ _ _ => none) FU M1 v4 v2))))
theorem pk_X5_doAgain : Pk "SealedGroups$Restarter" yX5_doAgain cX5_doAgain 9 none 2 := ⟨wm_294, wm_21, rfl, by decide +kernel⟩
theorem pv_X5_doAgain : Cond.instanceMethod yX5_doAgain ∈ wsL_law ∧ Cond.selects "SealedGroups$Restarter" yX5_doAgain yX5_doAgain ∈ wsL_law := ⟨wm_292, wm_293⟩
set_option maxHeartbeats 4000000 in
set_option maxRecDepth 100000 in
theorem c_X5_doAgain (l : Launch) (E : En) (hA : AdOK E) {j : Nat} {M : Mem} {M0 : Mem} (hj : j < 7) (h : f_X5_doAgain j M = some M0) : Met l yX5_doAgain (Wm yX5_doAgain cX5_doAgain 9 none) ({ frames := 1, cells := 0, slots := 0, locals := 24 } : Room) (va_Pc [Value.ref (E.2.2 7 20), Value.ref (E.2.2 j 11), Value.ref (E.2.2 j 1)] (Wd E M)) (QV E M0) 0 0 (AA E) := by
  refine Met.ofW (cc := cX5_doAgain) (maxL := 9) (ret := none) (by decide +kernel) rfl ?_
  intro p e s m args below meth c s₁ B hml hv
  obtain ⟨rfl, hP, hK⟩ := hv
  have X : Cx E (AA E) p s m c _ cX5_doAgain 9 RX5 := ⟨⟨B.exec, B.bytes, hml, findClass_of_methodNamed B.named, fun w hw => atoms_spec (ws := Wm yX5_doAgain cX5_doAgain 9 none) B.pre w (List.mem_cons_of_mem _ hw)⟩, hK, hA, fun _ h => h⟩
  have hx := B.exec
  have hb := B.bytes
  have hr := B.returns
  have hlocks := B.notSynchronized
  clear B hml
  have hS : va_S (AA E) s.heap s.heap [] := va_S.rf
  have hl := lv_entry ([Value.ref (E.2.2 7 20), Value.ref (E.2.2 j 11), Value.ref (E.2.2 j 1)]) (n := 9) (Nat.le_of_ble_eq_true rfl)
  rw [lg_entry_eq]
  generalize (lg_sl ([Value.ref (E.2.2 7 20), Value.ref (E.2.2 j 11), Value.ref (E.2.2 j 1)]) ++ List.replicate (9 - (lg_sl ([Value.ref (E.2.2 7 20), Value.ref (E.2.2 j 11), Value.ref (E.2.2 j 1)])).length) Slot.unset).toArray = ls at hl ⊢
  have hl : lv_has ls 9 [(0, .ref (E.2.2 7 20)), (1, .ref (E.2.2 j 11)), (2, .ref (E.2.2 j 1))] := hl
  have w_L24 : ∀ (n24 : Nat) (M : Mem) (y4 y5 : Int32) (H : Heap) (locs : List Loc) (ls : Array Slot), itr (f_X5_doAgain_L24 j) (fun _ _ _ => none) n24 M y4 y5 = some M0 → va_P E.1 vwCl (wl E M) H → va_S (AA E) s.heap H locs → lv_has ls 9 [(0, .ref (E.2.2 7 20)), (1, .ref (E.2.2 j 11)), (2, .ref (E.2.2 j 1)), (4, .int y4), (5, .int y5)] → W p l e (headSpec (Wm yX5_doAgain cX5_doAgain 9 none) ({ frames := 1, cells := 0, slots := 0, locals := 24 } : Room)).room s m ([Value.ref (E.2.2 7 20), Value.ref (E.2.2 j 11), Value.ref (E.2.2 j 1)] : List Value).toArray below meth c H locs 0 0 (MQ below (QV E M0) ([Value.ref (E.2.2 7 20), Value.ref (E.2.2 j 11), Value.ref (E.2.2 j 1)] : List Value).toArray s 0 0 (AA E)) (F0 m 24 ls []) := by
    intro n24
    induction n24 with
    | zero => intro M y4 y5 H locs ls h; exact (nomatch (show (none : Option Mem) = some _ from h))
    | succ n24 ih24 =>
      intro M y4 y5 H locs ls h hP hS hl
      have h : f_X5_doAgain_L24 j (itr (f_X5_doAgain_L24 j) (fun _ _ _ => none) n24) M y4 y5 = some M0 := h
      have w_L129 : ∀ (M : Mem) (y4 y5 : Int32) (H : Heap) (locs : List Loc) (ls : Array Slot), f_X5_doAgain_L129 j (itr (f_X5_doAgain_L24 j) (fun _ _ _ => none) n24) M y4 y5 = some M0 → va_P E.1 vwCl (wl E M) H → va_S (AA E) s.heap H locs → lv_has ls 9 [(0, .ref (E.2.2 7 20)), (1, .ref (E.2.2 j 11)), (2, .ref (E.2.2 j 1)), (4, .int y4), (5, .int y5)] → W p l e (headSpec (Wm yX5_doAgain cX5_doAgain 9 none) ({ frames := 1, cells := 0, slots := 0, locals := 24 } : Room)).room s m ([Value.ref (E.2.2 7 20), Value.ref (E.2.2 j 11), Value.ref (E.2.2 j 1)] : List Value).toArray below meth c H locs 0 0 (MQ below (QV E M0) ([Value.ref (E.2.2 7 20), Value.ref (E.2.2 j 11), Value.ref (E.2.2 j 1)] : List Value).toArray s 0 0 (AA E)) (F0 m 129 ls []) := by
        intro M y4 y5 H locs ls h hP hS hl
        unfold f_X5_doAgain_L129 at h
        obtain ⟨x10, ex10⟩ : ∃ y : Int32, y = y5 + (1 : Int32) := ⟨_, rfl⟩
        have h := bd_e h ex10
        refine lv_iinc (v := x10) (lv' := [(5, .int x10), (0, .ref (E.2.2 7 20)), (1, .ref (E.2.2 j 11)), (2, .ref (E.2.2 j 1)), (4, .int y4)]) hx hb dX5_doAgain_129 hl (k := 4) rfl (by rw [ex10]; rfl) (by decide) rfl (fun ls hl => ?_)
        refine lv_goto (tgt := 24) hx hb dX5_doAgain_132 (by decide) ?_
        exact ih24 _ _ _ _ _ _ h hP hS (lv_sub hl [1, 2, 3, 4, 0] rfl)
      have w_L72 : ∀ (M : Mem) (y4 y5 y7 z0 : Int32) (H : Heap) (locs : List Loc) (ls : Array Slot), f_X5_doAgain_L72 j (itr (f_X5_doAgain_L24 j) (fun _ _ _ => none) n24) M y4 y5 y7 z0 = some M0 → va_P E.1 vwCl (wl E M) H → va_S (AA E) s.heap H locs → lv_has ls 9 [(0, .ref (E.2.2 7 20)), (1, .ref (E.2.2 j 11)), (2, .ref (E.2.2 j 1)), (4, .int y4), (5, .int y5), (7, .int y7)] → W p l e (headSpec (Wm yX5_doAgain cX5_doAgain 9 none) ({ frames := 1, cells := 0, slots := 0, locals := 24 } : Room)).room s m ([Value.ref (E.2.2 7 20), Value.ref (E.2.2 j 11), Value.ref (E.2.2 j 1)] : List Value).toArray below meth c H locs 0 0 (MQ below (QV E M0) ([Value.ref (E.2.2 7 20), Value.ref (E.2.2 j 11), Value.ref (E.2.2 j 1)] : List Value).toArray s 0 0 (AA E)) (F0 m 72 ls [.int z0]) := by
        intro M y4 y5 y7 z0 H locs ls h hP hS hl
        unfold f_X5_doAgain_L72 at h
        refine lv_istore (lv' := [(8, .int z0), (0, .ref (E.2.2 7 20)), (1, .ref (E.2.2 j 11)), (2, .ref (E.2.2 j 1)), (4, .int y4), (5, .int y5), (7, .int y7)]) hx hb dX5_doAgain_72 hl (by decide) rfl (fun ls hl => ?_)
        refine lv_iload hx hb dX5_doAgain_74 (lv_at hl 0 rfl) ?_
        refine lv_if_eq (tgt := 129) hx hb dX5_doAgain_76 (by decide) (fun c9 => ?_) (fun c9 => ?_)
        · have h := br_1 h c9
          exact w_L129 _ _ _ _ _ _ h hP hS (lv_sub hl [1, 2, 3, 4, 5] rfl)
        · have h := br_0 h c9
          refine lv_aload_n hx hb dX5_doAgain_79 rfl (lv_at hl 1 rfl) ?_
          refine lv_iload hx hb dX5_doAgain_80 (lv_at hl 6 rfl) ?_
          refine lv_iload hx hb dX5_doAgain_82 (lv_at hl 5 rfl) ?_
          obtain ⟨v11, hv11, h⟩ := bO_e h
          refine mw_callVi X (c_X5_isAfterStart l E hA hv11) pk_X5_isAfterStart pv_X5_isAfterStart wm_299 ⟨Nat.le_of_ble_eq_true rfl, Nat.le_of_ble_eq_true rfl⟩ ⟨rfl, rfl⟩ hP hS ix_20 rfl rfl rfl rfl hl.1 (Nat.le_of_ble_eq_true rfl) ⟨Nat.zero_le _, Nat.zero_le _⟩ rfl dX5_doAgain_84 (fun H locs hP hS => ?_)
          refine lv_if_eq (tgt := 129) hx hb dX5_doAgain_87 (by decide) (fun c12 => ?_) (fun c12 => ?_)
          · have h := br_1 h c12
            exact w_L129 _ _ _ _ _ _ h hP hS (lv_sub hl [1, 2, 3, 4, 5] rfl)
          · have h := br_0 h c12
            refine lv_aload_n hx hb dX5_doAgain_90 rfl (lv_at hl 3 rfl) ?_
            refine lv_iload hx hb dX5_doAgain_91 (lv_at hl 6 rfl) ?_
            obtain ⟨v13, hv13, h⟩ := bO_e h
            refine mw_callVi X (c_X4_markOf l E hA hj hv13) pk_X4_markOf pv_X4_markOf wm_303 ⟨Nat.le_of_ble_eq_true rfl, Nat.le_of_ble_eq_true rfl⟩ ⟨rfl, rfl⟩ hP hS (ms hj 1) rfl rfl rfl rfl hl.1 (Nat.le_of_ble_eq_true rfl) ⟨Nat.zero_le _, Nat.zero_le _⟩ rfl dX5_doAgain_93 (fun H locs hP hS => ?_)
            refine lv_iload hx hb dX5_doAgain_96 (lv_at hl 5 rfl) ?_
            refine lv_icmp_ge (tgt := 129) hx hb dX5_doAgain_98 (by decide) (fun c14 => ?_) (fun c14 => ?_)
            · have h := br_1 h c14
              exact w_L129 _ _ _ _ _ _ h hP hS (lv_sub hl [1, 2, 3, 4, 5] rfl)
            · have h := br_0 h c14
              refine lv_aload_n hx hb dX5_doAgain_101 rfl (lv_at hl 3 rfl) ?_
              refine lv_iload hx hb dX5_doAgain_102 (lv_at hl 6 rfl) ?_
              refine lv_aload_n hx hb dX5_doAgain_104 rfl (lv_at hl 2 rfl) ?_
              refine lv_aload_n hx hb dX5_doAgain_105 rfl (lv_at hl 2 rfl) ?_
              refine gn_2_4 X nf_18 hP (ms hj 11) dX5_doAgain_106 ?_
              refine lv_iload hx hb dX5_doAgain_109 (lv_at hl 5 rfl) ?_
              obtain ⟨v15, hv15, h⟩ := bO_e h
              refine mw_callVi X (c_X2_at l E hA hj (by decide) hv15) pk_X2_at pv_X2_at wm_284 ⟨Nat.le_of_ble_eq_true rfl, Nat.le_of_ble_eq_true rfl⟩ ⟨rfl, rfl⟩ hP hS (ms hj 11) rfl rfl rfl rfl hl.1 (Nat.le_of_ble_eq_true rfl) ⟨Nat.zero_le _, Nat.zero_le _⟩ rfl dX5_doAgain_111 (fun H locs hP hS => ?_)
              refine lv_iload hx hb dX5_doAgain_114 (lv_at hl 5 rfl) ?_
              obtain ⟨M17, hv16, h⟩ := bO_e h
              refine mw_callVv X (c_X4_put l E hA hj hv16) pk_X4_put pv_X4_put wm_304 ⟨Nat.le_of_ble_eq_true rfl, Nat.le_of_ble_eq_true rfl⟩ ⟨rfl, rfl⟩ hP hS (ms hj 1) rfl rfl rfl rfl hl.1 (Nat.le_of_ble_eq_true rfl) ⟨Nat.zero_le _, Nat.zero_le _⟩ rfl dX5_doAgain_116 (fun H locs hP hS => ?_)
              refine lv_aload_n hx hb dX5_doAgain_119 rfl (lv_at hl 1 rfl) ?_
              refine lv_dup hx hb dX5_doAgain_120 rfl ?_
              refine gt_5_4 X wm_276 hP ix_20 dX5_doAgain_121 ?_
              refine lv_iconst (v := 1) hx hb dX5_doAgain_124 (by decide) ?_
              refine lv_iadd hx hb dX5_doAgain_125 ?_
              refine pt_5_4 X wm_276 hP hS ix_20 dX5_doAgain_126 (fun H locs M18 eM18 hP hS => ?_)
              have h := bd_e h eM18
              exact w_L129 _ _ _ _ _ _ h hP hS (lv_sub hl [1, 2, 3, 4, 5] rfl)
      have w_L67 : ∀ (M : Mem) (y4 y5 y7 : Int32) (H : Heap) (locs : List Loc) (ls : Array Slot), f_X5_doAgain_L67 j (itr (f_X5_doAgain_L24 j) (fun _ _ _ => none) n24) M y4 y5 y7 = some M0 → va_P E.1 vwCl (wl E M) H → va_S (AA E) s.heap H locs → lv_has ls 9 [(0, .ref (E.2.2 7 20)), (1, .ref (E.2.2 j 11)), (2, .ref (E.2.2 j 1)), (4, .int y4), (5, .int y5), (7, .int y7)] → W p l e (headSpec (Wm yX5_doAgain cX5_doAgain 9 none) ({ frames := 1, cells := 0, slots := 0, locals := 24 } : Room)).room s m ([Value.ref (E.2.2 7 20), Value.ref (E.2.2 j 11), Value.ref (E.2.2 j 1)] : List Value).toArray below meth c H locs 0 0 (MQ below (QV E M0) ([Value.ref (E.2.2 7 20), Value.ref (E.2.2 j 11), Value.ref (E.2.2 j 1)] : List Value).toArray s 0 0 (AA E)) (F0 m 67 ls []) := by
        intro M y4 y5 y7 H locs ls h hP hS hl
        unfold f_X5_doAgain_L67 at h
        refine lv_iconst (v := 1) hx hb dX5_doAgain_67 (by decide) ?_
        refine lv_goto (tgt := 72) hx hb dX5_doAgain_68 (by decide) ?_
        exact w_L72 _ _ _ _ _ _ _ _ h hP hS (lv_sub hl [0, 1, 2, 3, 4, 5] rfl)
      unfold f_X5_doAgain_L24 at h
      refine lv_iload hx hb dX5_doAgain_24 (lv_at hl 4 rfl) ?_
      refine lv_iload hx hb dX5_doAgain_26 (lv_at hl 3 rfl) ?_
      refine lv_icmp_gt (tgt := 135) hx hb dX5_doAgain_28 (by decide) (fun c5 => ?_) (fun c5 => ?_)
      · have h := br_1 h c5
        exact mw_vret X hr hlocks hP hS (Option.some.inj h) dX5_doAgain_135
      · have h := br_0 h c5
        refine lv_aload_n hx hb dX5_doAgain_31 rfl (lv_at hl 1 rfl) ?_
        refine lv_aload_n hx hb dX5_doAgain_32 rfl (lv_at hl 1 rfl) ?_
        refine gn_2_0 X nf_10 hP (ms hj 11) dX5_doAgain_33 ?_
        refine lv_iload hx hb dX5_doAgain_36 (lv_at hl 4 rfl) ?_
        obtain ⟨v6, hv6, h⟩ := bO_e h
        refine mw_callVi X (c_X2_at l E hA hj (by decide) hv6) pk_X2_at pv_X2_at wm_284 ⟨Nat.le_of_ble_eq_true rfl, Nat.le_of_ble_eq_true rfl⟩ ⟨rfl, rfl⟩ hP hS (ms hj 11) rfl rfl rfl rfl hl.1 (Nat.le_of_ble_eq_true rfl) ⟨Nat.zero_le _, Nat.zero_le _⟩ rfl dX5_doAgain_38 (fun H locs hP hS => ?_)
        refine lv_istore (lv' := [(6, .int v6), (0, .ref (E.2.2 7 20)), (1, .ref (E.2.2 j 11)), (2, .ref (E.2.2 j 1)), (4, .int y4), (5, .int y5)]) hx hb dX5_doAgain_41 hl (by decide) rfl (fun ls hl => ?_)
        refine lv_aload_n hx hb dX5_doAgain_43 rfl (lv_at hl 2 rfl) ?_
        refine lv_aload_n hx hb dX5_doAgain_44 rfl (lv_at hl 2 rfl) ?_
        refine gn_2_2 X nf_14 hP (ms hj 11) dX5_doAgain_45 ?_
        refine lv_iload hx hb dX5_doAgain_48 (lv_at hl 5 rfl) ?_
        obtain ⟨v7, hv7, h⟩ := bO_e h
        refine mw_callVi X (c_X2_at l E hA hj (by decide) hv7) pk_X2_at pv_X2_at wm_284 ⟨Nat.le_of_ble_eq_true rfl, Nat.le_of_ble_eq_true rfl⟩ ⟨rfl, rfl⟩ hP hS (ms hj 11) rfl rfl rfl rfl hl.1 (Nat.le_of_ble_eq_true rfl) ⟨Nat.zero_le _, Nat.zero_le _⟩ rfl dX5_doAgain_50 (fun H locs hP hS => ?_)
        refine lv_istore (lv' := [(7, .int v7), (6, .int v6), (0, .ref (E.2.2 7 20)), (1, .ref (E.2.2 j 11)), (2, .ref (E.2.2 j 1)), (4, .int y4), (5, .int y5)]) hx hb dX5_doAgain_53 hl (by decide) rfl (fun ls hl => ?_)
        refine lv_iload hx hb dX5_doAgain_55 (lv_at hl 1 rfl) ?_
        refine lv_iconst (v := 1) hx hb dX5_doAgain_57 (by decide) ?_
        refine lv_icmp_eq (tgt := 67) hx hb dX5_doAgain_58 (by decide) (fun c8 => ?_) (fun c8 => ?_)
        · have h := br_1 h c8
          exact w_L67 _ _ _ _ _ _ _ h hP hS (lv_sub hl [2, 3, 4, 5, 6, 0] rfl)
        · have h := br_0 h c8
          refine lv_iload hx hb dX5_doAgain_61 (lv_at hl 1 rfl) ?_
          refine lv_iconst (v := 3) hx hb dX5_doAgain_63 (by decide) ?_
          refine lv_icmp_ne (tgt := 71) hx hb dX5_doAgain_64 (by decide) (fun c19 => ?_) (fun c19 => ?_)
          · have h := br_0 h c19
            refine lv_iconst (v := 0) hx hb dX5_doAgain_71 (by decide) ?_
            exact w_L72 _ _ _ _ _ _ _ _ h hP hS (lv_sub hl [2, 3, 4, 5, 6, 0] rfl)
          · have h := br_1 h c19
            exact w_L67 _ _ _ _ _ _ _ h hP hS (lv_sub hl [2, 3, 4, 5, 6, 0] rfl)
  unfold f_X5_doAgain at h
  refine lv_aload_n hx hb dX5_doAgain_0 rfl (lv_at hl 0 rfl) ?_
  refine lv_iconst (v := 0) hx hb dX5_doAgain_1 (by decide) ?_
  refine pt_5_4 X wm_276 hP hS ix_20 dX5_doAgain_2 (fun H locs M1 eM1 hP hS => ?_)
  have h := bd_e h eM1
  refine lv_aload_n hx hb dX5_doAgain_5 rfl (lv_at hl 0 rfl) ?_
  obtain ⟨v2, hv2, h⟩ := bO_e h
  refine mw_callVi X (c_X5_leastStart l E hA hv2) pk_X5_leastStart pv_X5_leastStart wm_295 ⟨Nat.le_of_ble_eq_true rfl, Nat.le_of_ble_eq_true rfl⟩ ⟨rfl, rfl⟩ hP hS ix_20 rfl rfl rfl rfl hl.1 (Nat.le_of_ble_eq_true rfl) ⟨Nat.zero_le _, Nat.zero_le _⟩ rfl dX5_doAgain_6 (fun H locs hP hS => ?_)
  refine lv_istore_n (lv' := [(3, .int v2), (0, .ref (E.2.2 7 20)), (1, .ref (E.2.2 j 11)), (2, .ref (E.2.2 j 1))]) hx hb dX5_doAgain_9 rfl hl (by decide) rfl (fun ls hl => ?_)
  refine lv_iload_n hx hb dX5_doAgain_10 rfl (lv_at hl 0 rfl) ?_
  refine lv_if_ne (tgt := 15) hx hb dX5_doAgain_11 (by decide) (fun c3 => ?_) (fun c3 => ?_)
  · have h := br_0 h c3
    refine lv_aload_n hx hb dX5_doAgain_15 rfl (lv_at hl 2 rfl) ?_
    obtain ⟨v4, hv4, h⟩ := bO_e h
    refine mw_callVi X (c_X2_last l E hA hj hv4) pk_X2_last pv_X2_last wm_286 ⟨Nat.le_of_ble_eq_true rfl, Nat.le_of_ble_eq_true rfl⟩ ⟨rfl, rfl⟩ hP hS (ms hj 11) rfl rfl rfl rfl hl.1 (Nat.le_of_ble_eq_true rfl) ⟨Nat.zero_le _, Nat.zero_le _⟩ rfl dX5_doAgain_16 (fun H locs hP hS => ?_)
    refine lv_istore (lv' := [(4, .int v4), (3, .int v2), (0, .ref (E.2.2 7 20)), (1, .ref (E.2.2 j 11)), (2, .ref (E.2.2 j 1))]) hx hb dX5_doAgain_19 hl (by decide) rfl (fun ls hl => ?_)
    refine lv_iload_n hx hb dX5_doAgain_21 rfl (lv_at hl 1 rfl) ?_
    refine lv_istore (lv' := [(5, .int v2), (4, .int v4), (3, .int v2), (0, .ref (E.2.2 7 20)), (1, .ref (E.2.2 j 11)), (2, .ref (E.2.2 j 1))]) hx hb dX5_doAgain_22 hl (by decide) rfl (fun ls hl => ?_)
    exact w_L24 FU _ _ _ _ _ _ h hP hS (lv_sub hl [3, 4, 5, 1, 0] rfl)
  · have h := br_1 h c3
    exact mw_vret X hr hlocks hP hS (Option.some.inj h) dX5_doAgain_14
/-! SealedGroups$Restarter.noteTakenBack -/
noncomputable def f_X5_noteTakenBack  (M : Mem) (a1 : Int32) : Option Mem :=
(if a1 < 0 then
some M
else
(if (128 : Int32) ≤ a1 then
some M
else
gd (inb a1 128) (
bd (st M 7 22 (a1).toNatClampNeg (1 : Int32)) (fun M3 =>
some M3))))
theorem pk_X5_noteTakenBack : Pk "SealedGroups$Restarter" yX5_noteTakenBack cX5_noteTakenBack 2 none 1 := ⟨wm_316, wm_21, rfl, by decide +kernel⟩
theorem pv_X5_noteTakenBack : Cond.instanceMethod yX5_noteTakenBack ∈ wsL_law ∧ Cond.selects "SealedGroups$Restarter" yX5_noteTakenBack yX5_noteTakenBack ∈ wsL_law := ⟨wm_314, wm_315⟩
set_option maxHeartbeats 4000000 in
set_option maxRecDepth 100000 in
theorem c_X5_noteTakenBack (l : Launch) (E : En) (hA : AdOK E) {M : Mem} {a1 : Int32} {M0 : Mem}  (h : f_X5_noteTakenBack M a1 = some M0) : Met l yX5_noteTakenBack (Wm yX5_noteTakenBack cX5_noteTakenBack 2 none) ({ frames := 0, cells := 0, slots := 0, locals := 0 } : Room) (va_Pc [Value.ref (E.2.2 7 20), Value.int a1] (Wd E M)) (QV E M0) 0 0 (AA E) := by
  refine Met.ofW (cc := cX5_noteTakenBack) (maxL := 2) (ret := none) (by decide +kernel) rfl ?_
  intro p e s m args below meth c s₁ B hml hv
  obtain ⟨rfl, hP, hK⟩ := hv
  have X : Cx E (AA E) p s m c _ cX5_noteTakenBack 2 RX5 := ⟨⟨B.exec, B.bytes, hml, findClass_of_methodNamed B.named, fun w hw => atoms_spec (ws := Wm yX5_noteTakenBack cX5_noteTakenBack 2 none) B.pre w (List.mem_cons_of_mem _ hw)⟩, hK, hA, fun _ h => h⟩
  have hx := B.exec
  have hb := B.bytes
  have hr := B.returns
  have hlocks := B.notSynchronized
  clear B hml
  have hS : va_S (AA E) s.heap s.heap [] := va_S.rf
  have hl := lv_entry ([Value.ref (E.2.2 7 20), Value.int a1]) (n := 2) (Nat.le_of_ble_eq_true rfl)
  rw [lg_entry_eq]
  generalize (lg_sl ([Value.ref (E.2.2 7 20), Value.int a1]) ++ List.replicate (2 - (lg_sl ([Value.ref (E.2.2 7 20), Value.int a1])).length) Slot.unset).toArray = ls at hl ⊢
  have hl : lv_has ls 2 [(0, .ref (E.2.2 7 20)), (1, .int a1)] := hl
  unfold f_X5_noteTakenBack at h
  refine lv_iload_n hx hb dX5_noteTakenBack_0 rfl (lv_at hl 1 rfl) ?_
  refine lv_if_lt (tgt := 18) hx hb dX5_noteTakenBack_1 (by decide) (fun c1 => ?_) (fun c1 => ?_)
  · have h := br_1 h c1
    exact mw_vret X hr hlocks hP hS (Option.some.inj h) dX5_noteTakenBack_18
  · have h := br_0 h c1
    refine lv_iload_n hx hb dX5_noteTakenBack_4 rfl (lv_at hl 1 rfl) ?_
    refine lv_sipush (v := 128) hx hb dX5_noteTakenBack_5 (by decide) ?_
    refine lv_icmp_ge (tgt := 18) hx hb dX5_noteTakenBack_8 (by decide) (fun c2 => ?_) (fun c2 => ?_)
    · have h := br_1 h c2
      exact mw_vret X hr hlocks hP hS (Option.some.inj h) dX5_noteTakenBack_18
    · have h := br_0 h c2
      refine lv_aload_n hx hb dX5_noteTakenBack_11 rfl (lv_at hl 0 rfl) ?_
      refine gt_5_1 X wm_75 hP ix_20 dX5_noteTakenBack_12 ?_
      refine lv_iload_n hx hb dX5_noteTakenBack_15 rfl (lv_at hl 1 rfl) ?_
      refine lv_iconst (v := 1) hx hb dX5_noteTakenBack_16 (by decide) ?_
      obtain ⟨g4, h⟩ := gd_e h
      refine mw_st X hP hS ix_22 (fun _ => rfl) (inb_vp g4) rfl dX5_noteTakenBack_17 (fun H locs M3 eM3 hP hS => ?_)
      have h := bd_e h eM3
      exact mw_vret X hr hlocks hP hS (Option.some.inj h) dX5_noteTakenBack_18
/-! SealedGroups$Restarter.isTakenBack -/
noncomputable def f_X5_isTakenBack  (M : Mem) (a1 : Int32) : Option Int32 :=
(if a1 < 0 then
some (0 : Int32)
else
(if (128 : Int32) ≤ a1 then
some (0 : Int32)
else
gd (inb a1 128) (
(if (M 7 22 (a1).toNatClampNeg) = (1 : Int32) then
some (1 : Int32)
else
some (0 : Int32)))))
theorem pk_X5_isTakenBack : Pk "SealedGroups$Restarter" yX5_isTakenBack cX5_isTakenBack 2 (some .boolean) 1 := ⟨wm_333, wm_21, rfl, by decide +kernel⟩
theorem pv_X5_isTakenBack : Cond.instanceMethod yX5_isTakenBack ∈ wsL_law ∧ Cond.selects "SealedGroups$Restarter" yX5_isTakenBack yX5_isTakenBack ∈ wsL_law := ⟨wm_331, wm_332⟩
set_option maxHeartbeats 4000000 in
set_option maxRecDepth 100000 in
theorem c_X5_isTakenBack (l : Launch) (E : En) (hA : AdOK E) {M : Mem} {a1 : Int32} {r0 : Int32}  (h : f_X5_isTakenBack M a1 = some r0) : Met l yX5_isTakenBack (Wm yX5_isTakenBack cX5_isTakenBack 2 (some .boolean)) ({ frames := 0, cells := 0, slots := 0, locals := 0 } : Room) (va_Pc [Value.ref (E.2.2 7 20), Value.int a1] (Wd E M)) (QI E r0 M) 0 0 (AA E) := by
  refine Met.ofW (cc := cX5_isTakenBack) (maxL := 2) (ret := (some .boolean)) (by decide +kernel) rfl ?_
  intro p e s m args below meth c s₁ B hml hv
  obtain ⟨rfl, hP, hK⟩ := hv
  have X : Cx E (AA E) p s m c _ cX5_isTakenBack 2 RX5 := ⟨⟨B.exec, B.bytes, hml, findClass_of_methodNamed B.named, fun w hw => atoms_spec (ws := Wm yX5_isTakenBack cX5_isTakenBack 2 (some .boolean)) B.pre w (List.mem_cons_of_mem _ hw)⟩, hK, hA, fun _ h => h⟩
  have hx := B.exec
  have hb := B.bytes
  have hr := B.returns
  have hlocks := B.notSynchronized
  clear B hml
  have hS : va_S (AA E) s.heap s.heap [] := va_S.rf
  have hl := lv_entry ([Value.ref (E.2.2 7 20), Value.int a1]) (n := 2) (Nat.le_of_ble_eq_true rfl)
  rw [lg_entry_eq]
  generalize (lg_sl ([Value.ref (E.2.2 7 20), Value.int a1]) ++ List.replicate (2 - (lg_sl ([Value.ref (E.2.2 7 20), Value.int a1])).length) Slot.unset).toArray = ls at hl ⊢
  have hl : lv_has ls 2 [(0, .ref (E.2.2 7 20)), (1, .int a1)] := hl
  unfold f_X5_isTakenBack at h
  refine lv_iload_n hx hb dX5_isTakenBack_0 rfl (lv_at hl 1 rfl) ?_
  refine lv_if_lt (tgt := 25) hx hb dX5_isTakenBack_1 (by decide) (fun c1 => ?_) (fun c1 => ?_)
  · have h := br_1 h c1
    refine lv_iconst (v := 0) hx hb dX5_isTakenBack_25 (by decide) ?_
    exact mw_zret X hr hlocks hP hS (by decide) (Option.some.inj h) rfl dX5_isTakenBack_26
  · have h := br_0 h c1
    refine lv_iload_n hx hb dX5_isTakenBack_4 rfl (lv_at hl 1 rfl) ?_
    refine lv_sipush (v := 128) hx hb dX5_isTakenBack_5 (by decide) ?_
    refine lv_icmp_ge (tgt := 25) hx hb dX5_isTakenBack_8 (by decide) (fun c2 => ?_) (fun c2 => ?_)
    · have h := br_1 h c2
      refine lv_iconst (v := 0) hx hb dX5_isTakenBack_25 (by decide) ?_
      exact mw_zret X hr hlocks hP hS (by decide) (Option.some.inj h) rfl dX5_isTakenBack_26
    · have h := br_0 h c2
      refine lv_aload_n hx hb dX5_isTakenBack_11 rfl (lv_at hl 0 rfl) ?_
      refine gt_5_1 X wm_75 hP ix_20 dX5_isTakenBack_12 ?_
      refine lv_iload_n hx hb dX5_isTakenBack_15 rfl (lv_at hl 1 rfl) ?_
      obtain ⟨g3, h⟩ := gd_e h
      refine mw_ld X hP ix_22 rfl (inb_vp g3) rfl dX5_isTakenBack_16 ?_
      refine lv_iconst (v := 1) hx hb dX5_isTakenBack_17 (by decide) ?_
      refine lv_icmp_ne (tgt := 25) hx hb dX5_isTakenBack_18 (by decide) (fun c4 => ?_) (fun c4 => ?_)
      · have h := br_0 h c4
        refine lv_iconst (v := 0) hx hb dX5_isTakenBack_25 (by decide) ?_
        exact mw_zret X hr hlocks hP hS (by decide) (Option.some.inj h) rfl dX5_isTakenBack_26
      · have h := br_1 h c4
        refine lv_iconst (v := 1) hx hb dX5_isTakenBack_21 (by decide) ?_
        refine lv_goto (tgt := 26) hx hb dX5_isTakenBack_22 (by decide) ?_
        exact mw_zret X hr hlocks hP hS (by decide) (Option.some.inj h) rfl dX5_isTakenBack_26
/-! SealedGroups$Restarter.takeLosersBack -/
noncomputable def f_X5_takeLosersBack_L205 (j : Nat) (K43 : Mem → Int32 → Int32 → Option Mem) (M : Mem) (y3 y4 : Int32) : Option Mem :=
bd (y4 + (-1 : Int32)) (fun x13 =>
K43 M y3 x13)
noncomputable def f_X5_takeLosersBack_L164 (j : Nat) (K43 : Mem → Int32 → Int32 → Option Mem) (M : Mem) (y3 y4 y5 y7 : Int32) : Option Mem :=
(if y7 = 0 then
f_X5_takeLosersBack_L205 j K43 M y3 y4
else
(if y5 = (1 : Int32) then
bO (f_X5_isTakenBack M (y4 - (M j 11 7))) (fun v15 =>
(if v15 = 0 then
bO (f_X6_takeWriteBack j M y4) (fun M18 =>
bd (st M18 7 20 5 ((M18 7 20 5) + (1 : Int32))) (fun M19 =>
f_X5_takeLosersBack_L205 j K43 M19 y3 y4))
else
f_X5_takeLosersBack_L205 j K43 M y3 y4))
else
f_X5_takeLosersBack_L205 j K43 M y3 y4))
noncomputable def f_X5_takeLosersBack_L106 (j : Nat) (K43 : Mem → Int32 → Int32 → Option Mem) (M : Mem) (y3 y4 y5 y6 z0 : Int32) : Option Mem :=
(if y5 = (3 : Int32) then
bO (f_X2_at j 17 M y4) (fun v24 =>
bO (f_X5_noteTakenBack M (v24 - (M j 11 7))) (fun M26 =>
f_X5_takeLosersBack_L205 j K43 M26 y3 y4))
else
(if z0 = 0 then
f_X5_takeLosersBack_L164 j K43 M y3 y4 y5 z0
else
(if y5 = 0 then
bO (f_X6_endGroup j M y6) (fun M22 =>
bd ((y3 &&& (((1 : Int32) <<< (y6 &&& 31)) ^^^ (-1 : Int32)))) (fun x23 =>
f_X5_takeLosersBack_L205 j K43 M22 x23 y4))
else
f_X5_takeLosersBack_L164 j K43 M y3 y4 y5 z0)))
noncomputable def f_X5_takeLosersBack_L105 (j : Nat) (K43 : Mem → Int32 → Int32 → Option Mem) (M : Mem) (y3 y4 y5 y6 : Int32) : Option Mem :=
f_X5_takeLosersBack_L106 j K43 M y3 y4 y5 y6 (0 : Int32)
noncomputable def f_X5_takeLosersBack_L43 (j : Nat) (K43 : Mem → Int32 → Int32 → Option Mem) (M : Mem) (y3 y4 : Int32) : Option Mem :=
(if y4 < (M j 11 7) then
some M
else
(if y3 = 0 then
some M
else
bO (f_X2_at j 12 M y4) (fun v7 =>
bO (f_X2_at j 13 M y4) (fun v8 =>
(if v8 < 0 then
f_X5_takeLosersBack_L105 j K43 M y3 y4 v7 v8
else
(if (4 : Int32) ≤ v8 then
f_X5_takeLosersBack_L105 j K43 M y3 y4 v7 v8
else
(if ((y3 >>> (v8 &&& 31)) &&& (1 : Int32)) = (1 : Int32) then
f_X5_takeLosersBack_L106 j K43 M y3 y4 v7 v8 (1 : Int32)
else
f_X5_takeLosersBack_L105 j K43 M y3 y4 v7 v8)))))))
noncomputable def f_X5_takeLosersBack_L12 (j : Nat) (K12 : Mem → Int32 → Option Mem) (M : Mem) (y3 : Int32) : Option Mem :=
(if (128 : Int32) ≤ y3 then
bd ((M 7 20 3)) (fun x3 =>
bO (f_X2_last j M) (fun v4 =>
itr (f_X5_takeLosersBack_L43 j) (fun _ _ _ => none) FU M x3 v4))
else
gd (inb y3 128) (
bd (st M 7 22 (y3).toNatClampNeg (0 : Int32)) (fun M29 =>
bd (y3 + (1 : Int32)) (fun x31 =>
K12 M29 x31))))
noncomputable def f_X5_takeLosersBack (j : Nat) (M : Mem) : Option Mem :=
bd (st M 7 20 5 (0 : Int32)) (fun M1 =>
itr (f_X5_takeLosersBack_L12 j) (fun _ _ => none) FU M1 (0 : Int32))
theorem pk_X5_takeLosersBack : Pk "SealedGroups$Restarter" yX5_takeLosersBack cX5_takeLosersBack 8 none 1 := ⟨wm_311, wm_21, rfl, by decide +kernel⟩
theorem pv_X5_takeLosersBack : Cond.instanceMethod yX5_takeLosersBack ∈ wsL_law ∧ Cond.selects "SealedGroups$Restarter" yX5_takeLosersBack yX5_takeLosersBack ∈ wsL_law := ⟨wm_309, wm_310⟩
set_option maxHeartbeats 4000000 in
set_option maxRecDepth 100000 in
theorem c_X5_takeLosersBack (l : Launch) (E : En) (hA : AdOK E) {j : Nat} {M : Mem} {M0 : Mem} (hj : j < 7) (h : f_X5_takeLosersBack j M = some M0) : Met l yX5_takeLosersBack (Wm yX5_takeLosersBack cX5_takeLosersBack 8 none) ({ frames := 2, cells := 0, slots := 0, locals := 51 } : Room) (va_Pc [Value.ref (E.2.2 7 20), Value.ref (E.2.2 j 0)] (Wd E M)) (QV E M0) 0 0 (AA E) := by
  refine Met.ofW (cc := cX5_takeLosersBack) (maxL := 8) (ret := none) (by decide +kernel) rfl ?_
  intro p e s m args below meth c s₁ B hml hv
  obtain ⟨rfl, hP, hK⟩ := hv
  have X : Cx E (AA E) p s m c _ cX5_takeLosersBack 8 RX5 := ⟨⟨B.exec, B.bytes, hml, findClass_of_methodNamed B.named, fun w hw => atoms_spec (ws := Wm yX5_takeLosersBack cX5_takeLosersBack 8 none) B.pre w (List.mem_cons_of_mem _ hw)⟩, hK, hA, fun _ h => h⟩
  have hx := B.exec
  have hb := B.bytes
  have hr := B.returns
  have hlocks := B.notSynchronized
  clear B hml
  have hS : va_S (AA E) s.heap s.heap [] := va_S.rf
  have hl := lv_entry ([Value.ref (E.2.2 7 20), Value.ref (E.2.2 j 0)]) (n := 8) (Nat.le_of_ble_eq_true rfl)
  rw [lg_entry_eq]
  generalize (lg_sl ([Value.ref (E.2.2 7 20), Value.ref (E.2.2 j 0)]) ++ List.replicate (8 - (lg_sl ([Value.ref (E.2.2 7 20), Value.ref (E.2.2 j 0)])).length) Slot.unset).toArray = ls at hl ⊢
  have hl : lv_has ls 8 [(0, .ref (E.2.2 7 20)), (1, .ref (E.2.2 j 0))] := hl
  have w_L43 : ∀ (n43 : Nat) (M : Mem) (y3 y4 : Int32) (H : Heap) (locs : List Loc) (ls : Array Slot), itr (f_X5_takeLosersBack_L43 j) (fun _ _ _ => none) n43 M y3 y4 = some M0 → va_P E.1 vwCl (wl E M) H → va_S (AA E) s.heap H locs → lv_has ls 8 [(0, .ref (E.2.2 7 20)), (1, .ref (E.2.2 j 0)), (2, .ref (E.2.2 j 11)), (3, .int y3), (4, .int y4)] → W p l e (headSpec (Wm yX5_takeLosersBack cX5_takeLosersBack 8 none) ({ frames := 2, cells := 0, slots := 0, locals := 51 } : Room)).room s m ([Value.ref (E.2.2 7 20), Value.ref (E.2.2 j 0)] : List Value).toArray below meth c H locs 0 0 (MQ below (QV E M0) ([Value.ref (E.2.2 7 20), Value.ref (E.2.2 j 0)] : List Value).toArray s 0 0 (AA E)) (F0 m 43 ls []) := by
    intro n43
    induction n43 with
    | zero => intro M y3 y4 H locs ls h; exact (nomatch (show (none : Option Mem) = some _ from h))
    | succ n43 ih43 =>
      intro M y3 y4 H locs ls h hP hS hl
      have h : f_X5_takeLosersBack_L43 j (itr (f_X5_takeLosersBack_L43 j) (fun _ _ _ => none) n43) M y3 y4 = some M0 := h
      have w_L205 : ∀ (M : Mem) (y3 y4 : Int32) (H : Heap) (locs : List Loc) (ls : Array Slot), f_X5_takeLosersBack_L205 j (itr (f_X5_takeLosersBack_L43 j) (fun _ _ _ => none) n43) M y3 y4 = some M0 → va_P E.1 vwCl (wl E M) H → va_S (AA E) s.heap H locs → lv_has ls 8 [(0, .ref (E.2.2 7 20)), (1, .ref (E.2.2 j 0)), (2, .ref (E.2.2 j 11)), (3, .int y3), (4, .int y4)] → W p l e (headSpec (Wm yX5_takeLosersBack cX5_takeLosersBack 8 none) ({ frames := 2, cells := 0, slots := 0, locals := 51 } : Room)).room s m ([Value.ref (E.2.2 7 20), Value.ref (E.2.2 j 0)] : List Value).toArray below meth c H locs 0 0 (MQ below (QV E M0) ([Value.ref (E.2.2 7 20), Value.ref (E.2.2 j 0)] : List Value).toArray s 0 0 (AA E)) (F0 m 205 ls []) := by
        intro M y3 y4 H locs ls h hP hS hl
        unfold f_X5_takeLosersBack_L205 at h
        obtain ⟨x13, ex13⟩ : ∃ y : Int32, y = y4 + (-1 : Int32) := ⟨_, rfl⟩
        have h := bd_e h ex13
        refine lv_iinc (v := x13) (lv' := [(4, .int x13), (0, .ref (E.2.2 7 20)), (1, .ref (E.2.2 j 0)), (2, .ref (E.2.2 j 11)), (3, .int y3)]) hx hb dX5_takeLosersBack_205 hl (k := 4) rfl (by rw [ex13]; rfl) (by decide) rfl (fun ls hl => ?_)
        refine lv_goto (tgt := 43) hx hb dX5_takeLosersBack_208 (by decide) ?_
        exact ih43 _ _ _ _ _ _ h hP hS (lv_sub hl [1, 2, 3, 4, 0] rfl)
      have w_L164 : ∀ (M : Mem) (y3 y4 y5 y7 : Int32) (H : Heap) (locs : List Loc) (ls : Array Slot), f_X5_takeLosersBack_L164 j (itr (f_X5_takeLosersBack_L43 j) (fun _ _ _ => none) n43) M y3 y4 y5 y7 = some M0 → va_P E.1 vwCl (wl E M) H → va_S (AA E) s.heap H locs → lv_has ls 8 [(0, .ref (E.2.2 7 20)), (1, .ref (E.2.2 j 0)), (2, .ref (E.2.2 j 11)), (3, .int y3), (4, .int y4), (5, .int y5), (7, .int y7)] → W p l e (headSpec (Wm yX5_takeLosersBack cX5_takeLosersBack 8 none) ({ frames := 2, cells := 0, slots := 0, locals := 51 } : Room)).room s m ([Value.ref (E.2.2 7 20), Value.ref (E.2.2 j 0)] : List Value).toArray below meth c H locs 0 0 (MQ below (QV E M0) ([Value.ref (E.2.2 7 20), Value.ref (E.2.2 j 0)] : List Value).toArray s 0 0 (AA E)) (F0 m 164 ls []) := by
        intro M y3 y4 y5 y7 H locs ls h hP hS hl
        unfold f_X5_takeLosersBack_L164 at h
        refine lv_iload hx hb dX5_takeLosersBack_164 (lv_at hl 6 rfl) ?_
        refine lv_if_eq (tgt := 205) hx hb dX5_takeLosersBack_166 (by decide) (fun c12 => ?_) (fun c12 => ?_)
        · have h := br_1 h c12
          exact w_L205 _ _ _ _ _ _ h hP hS (lv_sub hl [0, 1, 2, 3, 4] rfl)
        · have h := br_0 h c12
          refine lv_iload hx hb dX5_takeLosersBack_169 (lv_at hl 5 rfl) ?_
          refine lv_iconst (v := 1) hx hb dX5_takeLosersBack_171 (by decide) ?_
          refine lv_icmp_ne (tgt := 205) hx hb dX5_takeLosersBack_172 (by decide) (fun c14 => ?_) (fun c14 => ?_)
          · have h := br_0 h c14
            exact w_L205 _ _ _ _ _ _ h hP hS (lv_sub hl [0, 1, 2, 3, 4] rfl)
          · have h := br_1 h c14
            refine lv_aload_n hx hb dX5_takeLosersBack_175 rfl (lv_at hl 0 rfl) ?_
            refine lv_iload hx hb dX5_takeLosersBack_176 (lv_at hl 4 rfl) ?_
            refine lv_aload_n hx hb dX5_takeLosersBack_178 rfl (lv_at hl 2 rfl) ?_
            refine gn_2_7 X nf_21 hP (ms hj 11) dX5_takeLosersBack_179 ?_
            refine lv_isub hx hb dX5_takeLosersBack_182 ?_
            obtain ⟨v15, hv15, h⟩ := bO_e h
            refine mw_callVi X (c_X5_isTakenBack l E hA hv15) pk_X5_isTakenBack pv_X5_isTakenBack wm_330 ⟨Nat.le_of_ble_eq_true rfl, Nat.le_of_ble_eq_true rfl⟩ ⟨rfl, rfl⟩ hP hS ix_20 rfl rfl rfl rfl hl.1 (Nat.le_of_ble_eq_true rfl) ⟨Nat.zero_le _, Nat.zero_le _⟩ rfl dX5_takeLosersBack_183 (fun H locs hP hS => ?_)
            refine lv_if_ne (tgt := 205) hx hb dX5_takeLosersBack_186 (by decide) (fun c16 => ?_) (fun c16 => ?_)
            · have h := br_0 h c16
              exact w_L205 _ _ _ _ _ _ h hP hS (lv_sub hl [0, 1, 2, 3, 4] rfl)
            · have h := br_1 h c16
              refine lv_aload_n hx hb dX5_takeLosersBack_189 rfl (lv_at hl 1 rfl) ?_
              refine lv_iload hx hb dX5_takeLosersBack_190 (lv_at hl 4 rfl) ?_
              obtain ⟨M18, hv17, h⟩ := bO_e h
              refine mw_callVv X (c_X6_takeWriteBack l E hA hj hv17) pk_X6_takeWriteBack pv_X6_takeWriteBack wm_334 ⟨Nat.le_of_ble_eq_true rfl, Nat.le_of_ble_eq_true rfl⟩ ⟨rfl, rfl⟩ hP hS (ms hj 0) rfl rfl rfl rfl hl.1 (Nat.le_of_ble_eq_true rfl) ⟨Nat.zero_le _, Nat.zero_le _⟩ rfl dX5_takeLosersBack_192 (fun H locs hP hS => ?_)
              refine lv_aload_n hx hb dX5_takeLosersBack_195 rfl (lv_at hl 0 rfl) ?_
              refine lv_dup hx hb dX5_takeLosersBack_196 rfl ?_
              refine gt_5_5 X wm_312 hP ix_20 dX5_takeLosersBack_197 ?_
              refine lv_iconst (v := 1) hx hb dX5_takeLosersBack_200 (by decide) ?_
              refine lv_iadd hx hb dX5_takeLosersBack_201 ?_
              refine pt_5_5 X wm_312 hP hS ix_20 dX5_takeLosersBack_202 (fun H locs M19 eM19 hP hS => ?_)
              have h := bd_e h eM19
              exact w_L205 _ _ _ _ _ _ h hP hS (lv_sub hl [0, 1, 2, 3, 4] rfl)
      have w_L106 : ∀ (M : Mem) (y3 y4 y5 y6 z0 : Int32) (H : Heap) (locs : List Loc) (ls : Array Slot), f_X5_takeLosersBack_L106 j (itr (f_X5_takeLosersBack_L43 j) (fun _ _ _ => none) n43) M y3 y4 y5 y6 z0 = some M0 → va_P E.1 vwCl (wl E M) H → va_S (AA E) s.heap H locs → lv_has ls 8 [(0, .ref (E.2.2 7 20)), (1, .ref (E.2.2 j 0)), (2, .ref (E.2.2 j 11)), (3, .int y3), (4, .int y4), (5, .int y5), (6, .int y6)] → W p l e (headSpec (Wm yX5_takeLosersBack cX5_takeLosersBack 8 none) ({ frames := 2, cells := 0, slots := 0, locals := 51 } : Room)).room s m ([Value.ref (E.2.2 7 20), Value.ref (E.2.2 j 0)] : List Value).toArray below meth c H locs 0 0 (MQ below (QV E M0) ([Value.ref (E.2.2 7 20), Value.ref (E.2.2 j 0)] : List Value).toArray s 0 0 (AA E)) (F0 m 106 ls [.int z0]) := by
        intro M y3 y4 y5 y6 z0 H locs ls h hP hS hl
        unfold f_X5_takeLosersBack_L106 at h
        refine lv_istore (lv' := [(7, .int z0), (0, .ref (E.2.2 7 20)), (1, .ref (E.2.2 j 0)), (2, .ref (E.2.2 j 11)), (3, .int y3), (4, .int y4), (5, .int y5), (6, .int y6)]) hx hb dX5_takeLosersBack_106 hl (by decide) rfl (fun ls hl => ?_)
        refine lv_iload hx hb dX5_takeLosersBack_108 (lv_at hl 6 rfl) ?_
        refine lv_iconst (v := 3) hx hb dX5_takeLosersBack_110 (by decide) ?_
        refine lv_icmp_ne (tgt := 136) hx hb dX5_takeLosersBack_111 (by decide) (fun c10 => ?_) (fun c10 => ?_)
        · have h := br_0 h c10
          refine lv_iload hx hb dX5_takeLosersBack_136 (lv_at hl 0 rfl) ?_
          refine lv_if_eq (tgt := 164) hx hb dX5_takeLosersBack_138 (by decide) (fun c11 => ?_) (fun c11 => ?_)
          · have h := br_1 h c11
            exact w_L164 _ _ _ _ _ _ _ _ h hP hS (lv_sub hl [1, 2, 3, 4, 5, 6, 0] rfl)
          · have h := br_0 h c11
            refine lv_iload hx hb dX5_takeLosersBack_141 (lv_at hl 6 rfl) ?_
            refine lv_if_ne (tgt := 164) hx hb dX5_takeLosersBack_143 (by decide) (fun c20 => ?_) (fun c20 => ?_)
            · have h := br_0 h c20
              exact w_L164 _ _ _ _ _ _ _ _ h hP hS (lv_sub hl [1, 2, 3, 4, 5, 6, 0] rfl)
            · have h := br_1 h c20
              refine lv_aload_n hx hb dX5_takeLosersBack_146 rfl (lv_at hl 2 rfl) ?_
              refine lv_iload hx hb dX5_takeLosersBack_147 (lv_at hl 7 rfl) ?_
              obtain ⟨M22, hv21, h⟩ := bO_e h
              refine mw_callVv X (c_X6_endGroup l E hA hj hv21) pk_X6_endGroup pv_X6_endGroup wm_317 ⟨Nat.le_of_ble_eq_true rfl, Nat.le_of_ble_eq_true rfl⟩ ⟨rfl, rfl⟩ hP hS (ms hj 0) rfl rfl rfl rfl hl.1 (Nat.le_of_ble_eq_true rfl) ⟨Nat.zero_le _, Nat.zero_le _⟩ rfl dX5_takeLosersBack_149 (fun H locs hP hS => ?_)
              refine lv_iload_n hx hb dX5_takeLosersBack_152 rfl (lv_at hl 4 rfl) ?_
              refine lv_iconst (v := 1) hx hb dX5_takeLosersBack_153 (by decide) ?_
              refine lv_iload hx hb dX5_takeLosersBack_154 (lv_at hl 7 rfl) ?_
              refine lv_ishl hx hb dX5_takeLosersBack_156 ?_
              refine lv_iconst (v := -1) hx hb dX5_takeLosersBack_157 (by decide) ?_
              refine lv_ixor hx hb dX5_takeLosersBack_158 ?_
              refine lv_iand hx hb dX5_takeLosersBack_159 ?_
              refine lv_topi (fun x23 ex23 => ?_)
              have h := bd_e h ex23
              refine lv_istore_n (lv' := [(3, .int x23), (7, .int z0), (0, .ref (E.2.2 7 20)), (1, .ref (E.2.2 j 0)), (2, .ref (E.2.2 j 11)), (4, .int y4), (5, .int y5), (6, .int y6)]) hx hb dX5_takeLosersBack_160 rfl hl (by decide) rfl (fun ls hl => ?_)
              refine lv_goto (tgt := 205) hx hb dX5_takeLosersBack_161 (by decide) ?_
              exact w_L205 _ _ _ _ _ _ h hP hS (lv_sub hl [2, 3, 4, 0, 5] rfl)
        · have h := br_1 h c10
          refine lv_aload_n hx hb dX5_takeLosersBack_114 rfl (lv_at hl 1 rfl) ?_
          refine lv_aload_n hx hb dX5_takeLosersBack_115 rfl (lv_at hl 3 rfl) ?_
          refine lv_aload_n hx hb dX5_takeLosersBack_116 rfl (lv_at hl 3 rfl) ?_
          refine gn_2_5 X nf_19 hP (ms hj 11) dX5_takeLosersBack_117 ?_
          refine lv_iload hx hb dX5_takeLosersBack_120 (lv_at hl 5 rfl) ?_
          obtain ⟨v24, hv24, h⟩ := bO_e h
          refine mw_callVi X (c_X2_at l E hA hj (by decide) hv24) pk_X2_at pv_X2_at wm_284 ⟨Nat.le_of_ble_eq_true rfl, Nat.le_of_ble_eq_true rfl⟩ ⟨rfl, rfl⟩ hP hS (ms hj 11) rfl rfl rfl rfl hl.1 (Nat.le_of_ble_eq_true rfl) ⟨Nat.zero_le _, Nat.zero_le _⟩ rfl dX5_takeLosersBack_122 (fun H locs hP hS => ?_)
          refine lv_aload_n hx hb dX5_takeLosersBack_125 rfl (lv_at hl 3 rfl) ?_
          refine gn_2_7 X nf_21 hP (ms hj 11) dX5_takeLosersBack_126 ?_
          refine lv_isub hx hb dX5_takeLosersBack_129 ?_
          obtain ⟨M26, hv25, h⟩ := bO_e h
          refine mw_callVv X (c_X5_noteTakenBack l E hA hv25) pk_X5_noteTakenBack pv_X5_noteTakenBack wm_313 ⟨Nat.le_of_ble_eq_true rfl, Nat.le_of_ble_eq_true rfl⟩ ⟨rfl, rfl⟩ hP hS ix_20 rfl rfl rfl rfl hl.1 (Nat.le_of_ble_eq_true rfl) ⟨Nat.zero_le _, Nat.zero_le _⟩ rfl dX5_takeLosersBack_130 (fun H locs hP hS => ?_)
          refine lv_goto (tgt := 205) hx hb dX5_takeLosersBack_133 (by decide) ?_
          exact w_L205 _ _ _ _ _ _ h hP hS (lv_sub hl [1, 2, 3, 4, 5] rfl)
      have w_L105 : ∀ (M : Mem) (y3 y4 y5 y6 : Int32) (H : Heap) (locs : List Loc) (ls : Array Slot), f_X5_takeLosersBack_L105 j (itr (f_X5_takeLosersBack_L43 j) (fun _ _ _ => none) n43) M y3 y4 y5 y6 = some M0 → va_P E.1 vwCl (wl E M) H → va_S (AA E) s.heap H locs → lv_has ls 8 [(0, .ref (E.2.2 7 20)), (1, .ref (E.2.2 j 0)), (2, .ref (E.2.2 j 11)), (3, .int y3), (4, .int y4), (5, .int y5), (6, .int y6)] → W p l e (headSpec (Wm yX5_takeLosersBack cX5_takeLosersBack 8 none) ({ frames := 2, cells := 0, slots := 0, locals := 51 } : Room)).room s m ([Value.ref (E.2.2 7 20), Value.ref (E.2.2 j 0)] : List Value).toArray below meth c H locs 0 0 (MQ below (QV E M0) ([Value.ref (E.2.2 7 20), Value.ref (E.2.2 j 0)] : List Value).toArray s 0 0 (AA E)) (F0 m 105 ls []) := by
        intro M y3 y4 y5 y6 H locs ls h hP hS hl
        unfold f_X5_takeLosersBack_L105 at h
        refine lv_iconst (v := 0) hx hb dX5_takeLosersBack_105 (by decide) ?_
        exact w_L106 _ _ _ _ _ _ _ _ _ h hP hS (lv_sub hl [0, 1, 2, 3, 4, 5, 6] rfl)
      unfold f_X5_takeLosersBack_L43 at h
      refine lv_iload hx hb dX5_takeLosersBack_43 (lv_at hl 4 rfl) ?_
      refine lv_aload_n hx hb dX5_takeLosersBack_45 rfl (lv_at hl 2 rfl) ?_
      refine gn_2_7 X nf_21 hP (ms hj 11) dX5_takeLosersBack_46 ?_
      refine lv_icmp_lt (tgt := 211) hx hb dX5_takeLosersBack_49 (by decide) (fun c5 => ?_) (fun c5 => ?_)
      · have h := br_1 h c5
        exact mw_vret X hr hlocks hP hS (Option.some.inj h) dX5_takeLosersBack_211
      · have h := br_0 h c5
        refine lv_iload_n hx hb dX5_takeLosersBack_52 rfl (lv_at hl 3 rfl) ?_
        refine lv_if_eq (tgt := 211) hx hb dX5_takeLosersBack_53 (by decide) (fun c6 => ?_) (fun c6 => ?_)
        · have h := br_1 h c6
          exact mw_vret X hr hlocks hP hS (Option.some.inj h) dX5_takeLosersBack_211
        · have h := br_0 h c6
          refine lv_aload_n hx hb dX5_takeLosersBack_56 rfl (lv_at hl 2 rfl) ?_
          refine lv_aload_n hx hb dX5_takeLosersBack_57 rfl (lv_at hl 2 rfl) ?_
          refine gn_2_0 X nf_10 hP (ms hj 11) dX5_takeLosersBack_58 ?_
          refine lv_iload hx hb dX5_takeLosersBack_61 (lv_at hl 4 rfl) ?_
          obtain ⟨v7, hv7, h⟩ := bO_e h
          refine mw_callVi X (c_X2_at l E hA hj (by decide) hv7) pk_X2_at pv_X2_at wm_284 ⟨Nat.le_of_ble_eq_true rfl, Nat.le_of_ble_eq_true rfl⟩ ⟨rfl, rfl⟩ hP hS (ms hj 11) rfl rfl rfl rfl hl.1 (Nat.le_of_ble_eq_true rfl) ⟨Nat.zero_le _, Nat.zero_le _⟩ rfl dX5_takeLosersBack_63 (fun H locs hP hS => ?_)
          refine lv_istore (lv' := [(5, .int v7), (0, .ref (E.2.2 7 20)), (1, .ref (E.2.2 j 0)), (2, .ref (E.2.2 j 11)), (3, .int y3), (4, .int y4)]) hx hb dX5_takeLosersBack_66 hl (by decide) rfl (fun ls hl => ?_)
          refine lv_aload_n hx hb dX5_takeLosersBack_68 rfl (lv_at hl 3 rfl) ?_
          refine lv_aload_n hx hb dX5_takeLosersBack_69 rfl (lv_at hl 3 rfl) ?_
          refine gn_2_1 X nf_12 hP (ms hj 11) dX5_takeLosersBack_70 ?_
          refine lv_iload hx hb dX5_takeLosersBack_73 (lv_at hl 5 rfl) ?_
          obtain ⟨v8, hv8, h⟩ := bO_e h
          refine mw_callVi X (c_X2_at l E hA hj (by decide) hv8) pk_X2_at pv_X2_at wm_284 ⟨Nat.le_of_ble_eq_true rfl, Nat.le_of_ble_eq_true rfl⟩ ⟨rfl, rfl⟩ hP hS (ms hj 11) rfl rfl rfl rfl hl.1 (Nat.le_of_ble_eq_true rfl) ⟨Nat.zero_le _, Nat.zero_le _⟩ rfl dX5_takeLosersBack_75 (fun H locs hP hS => ?_)
          refine lv_istore (lv' := [(6, .int v8), (5, .int v7), (0, .ref (E.2.2 7 20)), (1, .ref (E.2.2 j 0)), (2, .ref (E.2.2 j 11)), (3, .int y3), (4, .int y4)]) hx hb dX5_takeLosersBack_78 hl (by decide) rfl (fun ls hl => ?_)
          refine lv_iload hx hb dX5_takeLosersBack_80 (lv_at hl 0 rfl) ?_
          refine lv_if_lt (tgt := 105) hx hb dX5_takeLosersBack_82 (by decide) (fun c9 => ?_) (fun c9 => ?_)
          · have h := br_1 h c9
            exact w_L105 _ _ _ _ _ _ _ _ h hP hS (lv_sub hl [2, 3, 4, 5, 6, 1, 0] rfl)
          · have h := br_0 h c9
            refine lv_iload hx hb dX5_takeLosersBack_85 (lv_at hl 0 rfl) ?_
            refine lv_iconst (v := 4) hx hb dX5_takeLosersBack_87 (by decide) ?_
            refine lv_icmp_ge (tgt := 105) hx hb dX5_takeLosersBack_88 (by decide) (fun c27 => ?_) (fun c27 => ?_)
            · have h := br_1 h c27
              exact w_L105 _ _ _ _ _ _ _ _ h hP hS (lv_sub hl [2, 3, 4, 5, 6, 1, 0] rfl)
            · have h := br_0 h c27
              refine lv_iload_n hx hb dX5_takeLosersBack_91 rfl (lv_at hl 5 rfl) ?_
              refine lv_iload hx hb dX5_takeLosersBack_92 (lv_at hl 0 rfl) ?_
              refine lv_ishr hx hb dX5_takeLosersBack_94 ?_
              refine lv_iconst (v := 1) hx hb dX5_takeLosersBack_95 (by decide) ?_
              refine lv_iand hx hb dX5_takeLosersBack_96 ?_
              refine lv_iconst (v := 1) hx hb dX5_takeLosersBack_97 (by decide) ?_
              refine lv_icmp_ne (tgt := 105) hx hb dX5_takeLosersBack_98 (by decide) (fun c28 => ?_) (fun c28 => ?_)
              · have h := br_0 h c28
                exact w_L105 _ _ _ _ _ _ _ _ h hP hS (lv_sub hl [2, 3, 4, 5, 6, 1, 0] rfl)
              · have h := br_1 h c28
                refine lv_iconst (v := 1) hx hb dX5_takeLosersBack_101 (by decide) ?_
                refine lv_goto (tgt := 106) hx hb dX5_takeLosersBack_102 (by decide) ?_
                exact w_L106 _ _ _ _ _ _ _ _ _ h hP hS (lv_sub hl [2, 3, 4, 5, 6, 1, 0] rfl)
  have w_L12 : ∀ (n12 : Nat) (M : Mem) (y3 : Int32) (H : Heap) (locs : List Loc) (ls : Array Slot), itr (f_X5_takeLosersBack_L12 j) (fun _ _ => none) n12 M y3 = some M0 → va_P E.1 vwCl (wl E M) H → va_S (AA E) s.heap H locs → lv_has ls 8 [(0, .ref (E.2.2 7 20)), (1, .ref (E.2.2 j 0)), (2, .ref (E.2.2 j 11)), (3, .int y3)] → W p l e (headSpec (Wm yX5_takeLosersBack cX5_takeLosersBack 8 none) ({ frames := 2, cells := 0, slots := 0, locals := 51 } : Room)).room s m ([Value.ref (E.2.2 7 20), Value.ref (E.2.2 j 0)] : List Value).toArray below meth c H locs 0 0 (MQ below (QV E M0) ([Value.ref (E.2.2 7 20), Value.ref (E.2.2 j 0)] : List Value).toArray s 0 0 (AA E)) (F0 m 12 ls []) := by
    intro n12
    induction n12 with
    | zero => intro M y3 H locs ls h; exact (nomatch (show (none : Option Mem) = some _ from h))
    | succ n12 ih12 =>
      intro M y3 H locs ls h hP hS hl
      have h : f_X5_takeLosersBack_L12 j (itr (f_X5_takeLosersBack_L12 j) (fun _ _ => none) n12) M y3 = some M0 := h
      unfold f_X5_takeLosersBack_L12 at h
      refine lv_iload_n hx hb dX5_takeLosersBack_12 rfl (lv_at hl 3 rfl) ?_
      refine lv_sipush (v := 128) hx hb dX5_takeLosersBack_13 (by decide) ?_
      refine lv_icmp_ge (tgt := 32) hx hb dX5_takeLosersBack_16 (by decide) (fun c2 => ?_) (fun c2 => ?_)
      · have h := br_1 h c2
        refine lv_aload_n hx hb dX5_takeLosersBack_32 rfl (lv_at hl 0 rfl) ?_
        refine gt_5_3 X wm_282 hP ix_20 dX5_takeLosersBack_33 ?_
        refine lv_topi (fun x3 ex3 => ?_)
        have h := bd_e h ex3
        refine lv_istore_n (lv' := [(3, .int x3), (0, .ref (E.2.2 7 20)), (1, .ref (E.2.2 j 0)), (2, .ref (E.2.2 j 11))]) hx hb dX5_takeLosersBack_36 rfl hl (by decide) rfl (fun ls hl => ?_)
        refine lv_aload_n hx hb dX5_takeLosersBack_37 rfl (lv_at hl 3 rfl) ?_
        obtain ⟨v4, hv4, h⟩ := bO_e h
        refine mw_callVi X (c_X2_last l E hA hj hv4) pk_X2_last pv_X2_last wm_286 ⟨Nat.le_of_ble_eq_true rfl, Nat.le_of_ble_eq_true rfl⟩ ⟨rfl, rfl⟩ hP hS (ms hj 11) rfl rfl rfl rfl hl.1 (Nat.le_of_ble_eq_true rfl) ⟨Nat.zero_le _, Nat.zero_le _⟩ rfl dX5_takeLosersBack_38 (fun H locs hP hS => ?_)
        refine lv_istore (lv' := [(4, .int v4), (3, .int x3), (0, .ref (E.2.2 7 20)), (1, .ref (E.2.2 j 0)), (2, .ref (E.2.2 j 11))]) hx hb dX5_takeLosersBack_41 hl (by decide) rfl (fun ls hl => ?_)
        exact w_L43 FU _ _ _ _ _ _ h hP hS (lv_sub hl [2, 3, 4, 1, 0] rfl)
      · have h := br_0 h c2
        refine lv_aload_n hx hb dX5_takeLosersBack_19 rfl (lv_at hl 0 rfl) ?_
        refine gt_5_1 X wm_75 hP ix_20 dX5_takeLosersBack_20 ?_
        refine lv_iload_n hx hb dX5_takeLosersBack_23 rfl (lv_at hl 3 rfl) ?_
        refine lv_iconst (v := 0) hx hb dX5_takeLosersBack_24 (by decide) ?_
        obtain ⟨g30, h⟩ := gd_e h
        refine mw_st X hP hS ix_22 (fun _ => rfl) (inb_vp g30) rfl dX5_takeLosersBack_25 (fun H locs M29 eM29 hP hS => ?_)
        have h := bd_e h eM29
        obtain ⟨x31, ex31⟩ : ∃ y : Int32, y = y3 + (1 : Int32) := ⟨_, rfl⟩
        have h := bd_e h ex31
        refine lv_iinc (v := x31) (lv' := [(3, .int x31), (0, .ref (E.2.2 7 20)), (1, .ref (E.2.2 j 0)), (2, .ref (E.2.2 j 11))]) hx hb dX5_takeLosersBack_26 hl (k := 3) rfl (by rw [ex31]; rfl) (by decide) rfl (fun ls hl => ?_)
        refine lv_goto (tgt := 12) hx hb dX5_takeLosersBack_29 (by decide) ?_
        exact ih12 _ _ _ _ _ h hP hS (lv_sub hl [1, 2, 3, 0] rfl)
  unfold f_X5_takeLosersBack at h
  refine lv_aload_n hx hb dX5_takeLosersBack_0 rfl (lv_at hl 1 rfl) ?_
  refine gn_6_2 X nf_28 hP (ms hj 0) dX5_takeLosersBack_1 ?_
  refine lv_astore_n (lv' := [(2, .ref (E.2.2 j 11)), (0, .ref (E.2.2 7 20)), (1, .ref (E.2.2 j 0))]) hx hb dX5_takeLosersBack_4 rfl hl (by decide) rfl (fun ls hl => ?_)
  refine lv_aload_n hx hb dX5_takeLosersBack_5 rfl (lv_at hl 1 rfl) ?_
  refine lv_iconst (v := 0) hx hb dX5_takeLosersBack_6 (by decide) ?_
  refine pt_5_5 X wm_312 hP hS ix_20 dX5_takeLosersBack_7 (fun H locs M1 eM1 hP hS => ?_)
  have h := bd_e h eM1
  refine lv_iconst (v := 0) hx hb dX5_takeLosersBack_10 (by decide) ?_
  refine lv_istore_n (lv' := [(3, .int (0 : Int32)), (2, .ref (E.2.2 j 11)), (0, .ref (E.2.2 7 20)), (1, .ref (E.2.2 j 0))]) hx hb dX5_takeLosersBack_11 rfl hl (by decide) rfl (fun ls hl => ?_)
  exact w_L12 FU _ _ _ _ _ h hP hS (lv_sub hl [2, 3, 1, 0] rfl)
/-! SealedGroups$Restarter.run -/
noncomputable def f_X5_run (j : Nat) (M : Mem) : Option (Int32 × Mem) :=
(if (M j 0 3) = 0 then
some ((-1000002 : Int32), M)
else
bO (f_X5_look j M) (fun M3 =>
bO (f_X5_doAgain j M3) (fun M5 =>
bO (f_X5_takeLosersBack j M5) (fun M7 =>
bO (f_X2_last j M7) (fun v8 =>
bP (f_X2_forceUpTo j M7 v8) (fun v9 M10 =>
bd (st M10 j 0 3 (0 : Int32)) (fun M11 =>
bd (st M11 j 0 4 ((M11 j 0 4) + (M11 7 20 4))) (fun M12 =>
some ((M12 7 20 4), M12)))))))))
theorem pk_X5_run : Pk "SealedGroups$Restarter" yX5_run cX5_run 2 (some .int) 1 := ⟨wm_274, wm_21, rfl, by decide +kernel⟩
theorem pv_X5_run : Cond.instanceMethod yX5_run ∈ wsL_law ∧ Cond.selects "SealedGroups$Restarter" yX5_run yX5_run ∈ wsL_law := ⟨wm_272, wm_273⟩
set_option maxHeartbeats 4000000 in
set_option maxRecDepth 100000 in
theorem c_X5_run (l : Launch) (E : En) (hA : AdOK E) {j : Nat} {M : Mem} {r0 : Int32} {M0 : Mem} (hj : j < 7) (h : f_X5_run j M = some (r0, M0)) : Met l yX5_run (Wm yX5_run cX5_run 2 (some .int)) ({ frames := 4, cells := 0, slots := 0, locals := 87 } : Room) (va_Pc [Value.ref (E.2.2 7 20), Value.ref (E.2.2 j 0)] (Wd E M)) (QI E r0 M0) 0 0 (AA E) := by
  refine Met.ofW (cc := cX5_run) (maxL := 2) (ret := (some .int)) (by decide +kernel) rfl ?_
  intro p e s m args below meth c s₁ B hml hv
  obtain ⟨rfl, hP, hK⟩ := hv
  have X : Cx E (AA E) p s m c _ cX5_run 2 RX5 := ⟨⟨B.exec, B.bytes, hml, findClass_of_methodNamed B.named, fun w hw => atoms_spec (ws := Wm yX5_run cX5_run 2 (some .int)) B.pre w (List.mem_cons_of_mem _ hw)⟩, hK, hA, fun _ h => h⟩
  have hx := B.exec
  have hb := B.bytes
  have hr := B.returns
  have hlocks := B.notSynchronized
  clear B hml
  have hS : va_S (AA E) s.heap s.heap [] := va_S.rf
  have hl := lv_entry ([Value.ref (E.2.2 7 20), Value.ref (E.2.2 j 0)]) (n := 2) (Nat.le_of_ble_eq_true rfl)
  rw [lg_entry_eq]
  generalize (lg_sl ([Value.ref (E.2.2 7 20), Value.ref (E.2.2 j 0)]) ++ List.replicate (2 - (lg_sl ([Value.ref (E.2.2 7 20), Value.ref (E.2.2 j 0)])).length) Slot.unset).toArray = ls at hl ⊢
  have hl : lv_has ls 2 [(0, .ref (E.2.2 7 20)), (1, .ref (E.2.2 j 0))] := hl
  unfold f_X5_run at h
  refine lv_aload_n hx hb dX5_run_0 rfl (lv_at hl 1 rfl) ?_
  refine gn_6_3 X nf_30 hP (ms hj 0) dX5_run_1 ?_
  refine lv_if_ne (tgt := 10) hx hb dX5_run_4 (by decide) (fun c1 => ?_) (fun c1 => ?_)
  · have h := br_0 h c1
    refine lv_aload_n hx hb dX5_run_10 rfl (lv_at hl 0 rfl) ?_
    refine lv_aload_n hx hb dX5_run_11 rfl (lv_at hl 1 rfl) ?_
    refine gn_6_2 X nf_28 hP (ms hj 0) dX5_run_12 ?_
    obtain ⟨M3, hv2, h⟩ := bO_e h
    refine mw_callVv X (c_X5_look l E hA hj hv2) pk_X5_look pv_X5_look wm_277 ⟨Nat.le_of_ble_eq_true rfl, Nat.le_of_ble_eq_true rfl⟩ ⟨rfl, rfl⟩ hP hS ix_20 rfl rfl rfl rfl hl.1 (Nat.le_of_ble_eq_true rfl) ⟨Nat.zero_le _, Nat.zero_le _⟩ rfl dX5_run_15 (fun H locs hP hS => ?_)
    refine lv_aload_n hx hb dX5_run_18 rfl (lv_at hl 0 rfl) ?_
    refine lv_aload_n hx hb dX5_run_19 rfl (lv_at hl 1 rfl) ?_
    refine gn_6_2 X nf_28 hP (ms hj 0) dX5_run_20 ?_
    refine lv_aload_n hx hb dX5_run_23 rfl (lv_at hl 1 rfl) ?_
    refine gn_6_0 X nf_25 hP (ms hj 0) dX5_run_24 ?_
    obtain ⟨M5, hv4, h⟩ := bO_e h
    refine mw_callVv X (c_X5_doAgain l E hA hj hv4) pk_X5_doAgain pv_X5_doAgain wm_291 ⟨Nat.le_of_ble_eq_true rfl, Nat.le_of_ble_eq_true rfl⟩ ⟨rfl, rfl⟩ hP hS ix_20 rfl rfl rfl rfl hl.1 (Nat.le_of_ble_eq_true rfl) ⟨Nat.zero_le _, Nat.zero_le _⟩ rfl dX5_run_27 (fun H locs hP hS => ?_)
    refine lv_aload_n hx hb dX5_run_30 rfl (lv_at hl 0 rfl) ?_
    refine lv_aload_n hx hb dX5_run_31 rfl (lv_at hl 1 rfl) ?_
    obtain ⟨M7, hv6, h⟩ := bO_e h
    refine mw_callVv X (c_X5_takeLosersBack l E hA hj hv6) pk_X5_takeLosersBack pv_X5_takeLosersBack wm_308 ⟨Nat.le_of_ble_eq_true rfl, Nat.le_of_ble_eq_true rfl⟩ ⟨rfl, rfl⟩ hP hS ix_20 rfl rfl rfl rfl hl.1 (Nat.le_of_ble_eq_true rfl) ⟨Nat.zero_le _, Nat.zero_le _⟩ rfl dX5_run_32 (fun H locs hP hS => ?_)
    refine lv_aload_n hx hb dX5_run_35 rfl (lv_at hl 1 rfl) ?_
    refine gn_6_2 X nf_28 hP (ms hj 0) dX5_run_36 ?_
    refine lv_aload_n hx hb dX5_run_39 rfl (lv_at hl 1 rfl) ?_
    refine gn_6_2 X nf_28 hP (ms hj 0) dX5_run_40 ?_
    obtain ⟨v8, hv8, h⟩ := bO_e h
    refine mw_callVi X (c_X2_last l E hA hj hv8) pk_X2_last pv_X2_last wm_286 ⟨Nat.le_of_ble_eq_true rfl, Nat.le_of_ble_eq_true rfl⟩ ⟨rfl, rfl⟩ hP hS (ms hj 11) rfl rfl rfl rfl hl.1 (Nat.le_of_ble_eq_true rfl) ⟨Nat.zero_le _, Nat.zero_le _⟩ rfl dX5_run_43 (fun H locs hP hS => ?_)
    obtain ⟨v9, M10, hv9, h⟩ := bP_e h
    refine mw_callVi X (c_X2_forceUpTo l E hA hj hv9) pk_X2_forceUpTo pv_X2_forceUpTo wm_341 ⟨Nat.le_of_ble_eq_true rfl, Nat.le_of_ble_eq_true rfl⟩ ⟨rfl, rfl⟩ hP hS (ms hj 11) rfl rfl rfl rfl hl.1 (Nat.le_of_ble_eq_true rfl) ⟨Nat.zero_le _, Nat.zero_le _⟩ rfl dX5_run_46 (fun H locs hP hS => ?_)
    refine lv_pop hx hb dX5_run_49 rfl ?_
    refine lv_aload_n hx hb dX5_run_50 rfl (lv_at hl 1 rfl) ?_
    refine lv_iconst (v := 0) hx hb dX5_run_51 (by decide) ?_
    refine pn_6_3 X nf_30 (by decide) hP hS (ms hj 0) dX5_run_52 (fun H locs M11 eM11 hP hS => ?_)
    have h := bd_e h eM11
    refine lv_aload_n hx hb dX5_run_55 rfl (lv_at hl 1 rfl) ?_
    refine lv_dup hx hb dX5_run_56 rfl ?_
    refine gn_6_4 X nf_32 hP (ms hj 0) dX5_run_57 ?_
    refine lv_aload_n hx hb dX5_run_60 rfl (lv_at hl 0 rfl) ?_
    refine gt_5_4 X wm_276 hP ix_20 dX5_run_61 ?_
    refine lv_iadd hx hb dX5_run_64 ?_
    refine pn_6_4 X nf_32 hP hS (ms hj 0) dX5_run_65 (fun H locs M12 eM12 hP hS => ?_)
    have h := bd_e h eM12
    refine lv_aload_n hx hb dX5_run_68 rfl (lv_at hl 0 rfl) ?_
    refine gt_5_4 X wm_276 hP ix_20 dX5_run_69 ?_
    have h := Option.some.inj h
    exact mw_iret X hr hlocks hP hS (congrArg Prod.fst h) (congrArg Prod.snd h) dX5_run_72
  · have h := br_1 h c1
    refine lv_ldc hx hb X.1.2.2.2.1 (X.1.2.2.2.2 _ wm_275) dX5_run_7 ?_
    have h := Option.some.inj h
    exact mw_iret X hr hlocks hP hS (congrArg Prod.fst h) (congrArg Prod.snd h) dX5_run_9
/-! SealedGroups$Restarter.tell -/
noncomputable def f_X5_tell  (M : Mem) (a1 : Int32) : Option Int32 :=
(if a1 = (1 : Int32) then
some (M 7 20 4)
else if a1 = (2 : Int32) then
some (M 7 20 5)
else if a1 = (3 : Int32) then
some (M 7 20 3)
else 
(if (M 7 20 2) = 0 then
some (-1000004 : Int32)
else
some (M 7 20 2)))
theorem pk_X5_tell : Pk "SealedGroups$Restarter" yX5_tell cX5_tell 2 (some .int) 1 := ⟨wm_513, wm_21, rfl, by decide +kernel⟩
theorem pv_X5_tell : Cond.instanceMethod yX5_tell ∈ wsL_law ∧ Cond.selects "SealedGroups$Restarter" yX5_tell yX5_tell ∈ wsL_law := ⟨wm_511, wm_512⟩
set_option maxHeartbeats 4000000 in
set_option maxRecDepth 100000 in
theorem c_X5_tell (l : Launch) (E : En) (hA : AdOK E) {M : Mem} {a1 : Int32} {r0 : Int32}  (h : f_X5_tell M a1 = some r0) : Met l yX5_tell (Wm yX5_tell cX5_tell 2 (some .int)) ({ frames := 0, cells := 0, slots := 0, locals := 0 } : Room) (va_Pc [Value.ref (E.2.2 7 20), Value.int a1] (Wd E M)) (QI E r0 M) 0 0 (AA E) := by
  refine Met.ofW (cc := cX5_tell) (maxL := 2) (ret := (some .int)) (by decide +kernel) rfl ?_
  intro p e s m args below meth c s₁ B hml hv
  obtain ⟨rfl, hP, hK⟩ := hv
  have X : Cx E (AA E) p s m c _ cX5_tell 2 RX5 := ⟨⟨B.exec, B.bytes, hml, findClass_of_methodNamed B.named, fun w hw => atoms_spec (ws := Wm yX5_tell cX5_tell 2 (some .int)) B.pre w (List.mem_cons_of_mem _ hw)⟩, hK, hA, fun _ h => h⟩
  have hx := B.exec
  have hb := B.bytes
  have hr := B.returns
  have hlocks := B.notSynchronized
  clear B hml
  have hS : va_S (AA E) s.heap s.heap [] := va_S.rf
  have hl := lv_entry ([Value.ref (E.2.2 7 20), Value.int a1]) (n := 2) (Nat.le_of_ble_eq_true rfl)
  rw [lg_entry_eq]
  generalize (lg_sl ([Value.ref (E.2.2 7 20), Value.int a1]) ++ List.replicate (2 - (lg_sl ([Value.ref (E.2.2 7 20), Value.int a1])).length) Slot.unset).toArray = ls at hl ⊢
  have hl : lv_has ls 2 [(0, .ref (E.2.2 7 20)), (1, .int a1)] := hl
  unfold f_X5_tell at h
  refine lv_iload_n hx hb dX5_tell_0 rfl (lv_at hl 1 rfl) ?_
  by_cases c1 : a1 = (1 : Int32)
  · have h := br_1 h c1
    refine lv_tableIn (tgt := 28) hx hb dX5_tell_1 (by rw [c1] <;> decide) (by rw [c1] <;> decide) (by rw [c1] <;> rfl) (by decide) ?_
    refine lv_aload_n hx hb dX5_tell_28 rfl (lv_at hl 0 rfl) ?_
    refine gt_5_4 X wm_276 hP ix_20 dX5_tell_29 ?_
    exact mw_iret X hr hlocks hP hS (Option.some.inj h) rfl dX5_tell_32
  have h := br_0 h c1
  by_cases c2 : a1 = (2 : Int32)
  · have h := br_1 h c2
    refine lv_tableIn (tgt := 33) hx hb dX5_tell_1 (by rw [c2] <;> decide) (by rw [c2] <;> decide) (by rw [c2] <;> rfl) (by decide) ?_
    refine lv_aload_n hx hb dX5_tell_33 rfl (lv_at hl 0 rfl) ?_
    refine gt_5_5 X wm_312 hP ix_20 dX5_tell_34 ?_
    exact mw_iret X hr hlocks hP hS (Option.some.inj h) rfl dX5_tell_37
  have h := br_0 h c2
  by_cases c3 : a1 = (3 : Int32)
  · have h := br_1 h c3
    refine lv_tableIn (tgt := 38) hx hb dX5_tell_1 (by rw [c3] <;> decide) (by rw [c3] <;> decide) (by rw [c3] <;> rfl) (by decide) ?_
    refine lv_aload_n hx hb dX5_tell_38 rfl (lv_at hl 0 rfl) ?_
    refine gt_5_3 X wm_282 hP ix_20 dX5_tell_39 ?_
    exact mw_iret X hr hlocks hP hS (Option.some.inj h) rfl dX5_tell_42
  have h := br_0 h c3
  have qc1 := sw_ne c1 (v := 1) rfl
  have qc2 := sw_ne c2 (v := 2) rfl
  have qc3 := sw_ne c3 (v := 3) rfl
  refine lv_tableOut (tgt := 43) hx hb dX5_tell_1 (by omega) (by decide) ?_
  refine lv_aload_n hx hb dX5_tell_43 rfl (lv_at hl 0 rfl) ?_
  refine gt_5_2 X wm_283 hP ix_20 dX5_tell_44 ?_
  refine lv_if_ne (tgt := 55) hx hb dX5_tell_47 (by decide) (fun c4 => ?_) (fun c4 => ?_)
  · have h := br_0 h c4
    refine lv_aload_n hx hb dX5_tell_55 rfl (lv_at hl 0 rfl) ?_
    refine gt_5_2 X wm_283 hP ix_20 dX5_tell_56 ?_
    exact mw_iret X hr hlocks hP hS (Option.some.inj h) rfl dX5_tell_59
  · have h := br_1 h c4
    refine lv_ldc hx hb X.1.2.2.2.1 (X.1.2.2.2.2 _ wm_514) dX5_tell_50 ?_
    refine lv_goto (tgt := 59) hx hb dX5_tell_52 (by decide) ?_
    exact mw_iret X hr hlocks hP hS (Option.some.inj h) rfl dX5_tell_59
