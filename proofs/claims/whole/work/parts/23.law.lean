noncomputable def f_L_law_L605 (xs : Nat → Int32) (L : Nat) (K18 : Mem → Int32 → Option Int32) (M : Mem) (y3 : Int32) : Option Int32 :=
bd (y3 + (4 : Int32)) (fun x11 =>
K18 M x11)
noncomputable def f_L_law_L18 (xs : Nat → Int32) (L : Nat) (K18 : Mem → Int32 → Option Int32) (M : Mem) (y3 : Int32) : Option Int32 :=
(if ((Int32.ofNat L) - (4 : Int32)) < y3 then
some (1 : Int32)
else
gd (inb y3 L) (
(if ((xs (y3).toNatClampNeg) &&& (31 : Int32)) = (0 : Int32) then
gd (inb (y3 + (1 : Int32)) L) (
bP (f_X7_begin M (xs ((y3 + (1 : Int32))).toNatClampNeg)) (fun v5 M6 =>
gd (inb (y3 + (1 : Int32)) L) (
bP (f_X8_begin M6 (xs ((y3 + (1 : Int32))).toNatClampNeg)) (fun v8 M9 =>
(if v5 = v8 then
f_L_law_L605 xs L K18 M9 y3
else
some (0 : Int32))))))
else if ((xs (y3).toNatClampNeg) &&& (31 : Int32)) = (1 : Int32) then
gd (inb (y3 + (1 : Int32)) L) (
gd (inb (y3 + (2 : Int32)) L) (
gd (inb (y3 + (3 : Int32)) L) (
bP (f_X7_write M (xs ((y3 + (1 : Int32))).toNatClampNeg) (xs ((y3 + (2 : Int32))).toNatClampNeg) (xs ((y3 + (3 : Int32))).toNatClampNeg)) (fun v16 M17 =>
gd (inb (y3 + (1 : Int32)) L) (
gd (inb (y3 + (2 : Int32)) L) (
gd (inb (y3 + (3 : Int32)) L) (
bP (f_X8_write M17 (xs ((y3 + (1 : Int32))).toNatClampNeg) (xs ((y3 + (2 : Int32))).toNatClampNeg) (xs ((y3 + (3 : Int32))).toNatClampNeg)) (fun v21 M22 =>
(if v16 = v21 then
f_L_law_L605 xs L K18 M22 y3
else
some (0 : Int32))))))))))
else if ((xs (y3).toNatClampNeg) &&& (31 : Int32)) = (2 : Int32) then
gd (inb (y3 + (1 : Int32)) L) (
bP (f_X7_settle M (xs ((y3 + (1 : Int32))).toNatClampNeg)) (fun v26 M27 =>
gd (inb (y3 + (1 : Int32)) L) (
bP (f_X8_settle M27 (xs ((y3 + (1 : Int32))).toNatClampNeg)) (fun v29 M30 =>
(if v26 = v29 then
f_L_law_L605 xs L K18 M30 y3
else
some (0 : Int32))))))
else if ((xs (y3).toNatClampNeg) &&& (31 : Int32)) = (3 : Int32) then
gd (inb (y3 + (1 : Int32)) L) (
bP (f_X7_takeBack M (xs ((y3 + (1 : Int32))).toNatClampNeg)) (fun v34 M35 =>
gd (inb (y3 + (1 : Int32)) L) (
bP (f_X8_takeBack M35 (xs ((y3 + (1 : Int32))).toNatClampNeg)) (fun v37 M38 =>
(if v34 = v37 then
f_L_law_L605 xs L K18 M38 y3
else
some (0 : Int32))))))
else if ((xs (y3).toNatClampNeg) &&& (31 : Int32)) = (4 : Int32) then
gd (inb (y3 + (1 : Int32)) L) (
bP (f_X7_writeOut M (xs ((y3 + (1 : Int32))).toNatClampNeg)) (fun v42 M43 =>
gd (inb (y3 + (1 : Int32)) L) (
bP (f_X8_writeOut M43 (xs ((y3 + (1 : Int32))).toNatClampNeg)) (fun v45 M46 =>
(if v42 = v45 then
f_L_law_L605 xs L K18 M46 y3
else
some (0 : Int32))))))
else if ((xs (y3).toNatClampNeg) &&& (31 : Int32)) = (5 : Int32) then
gd (inb (y3 + (1 : Int32)) L) (
bP (f_X7_dropOut M (xs ((y3 + (1 : Int32))).toNatClampNeg)) (fun v50 M51 =>
gd (inb (y3 + (1 : Int32)) L) (
bP (f_X8_dropOut M51 (xs ((y3 + (1 : Int32))).toNatClampNeg)) (fun v53 M54 =>
(if v50 = v53 then
f_L_law_L605 xs L K18 M54 y3
else
some (0 : Int32))))))
else if ((xs (y3).toNatClampNeg) &&& (31 : Int32)) = (6 : Int32) then
bP (f_X7_checkpoint M) (fun v57 M58 =>
bP (f_X8_checkpoint M58) (fun v59 M60 =>
(if v57 = v59 then
f_L_law_L605 xs L K18 M60 y3
else
some (0 : Int32))))
else if ((xs (y3).toNatClampNeg) &&& (31 : Int32)) = (7 : Int32) then
bP (f_X7_dropRecords M) (fun v63 M64 =>
bP (f_X8_dropRecords M64) (fun v65 M66 =>
(if v63 = v65 then
f_L_law_L605 xs L K18 M66 y3
else
some (0 : Int32))))
else if ((xs (y3).toNatClampNeg) &&& (31 : Int32)) = (8 : Int32) then
bP (f_X7_force M) (fun v69 M70 =>
bP (f_X8_force M70) (fun v71 M72 =>
(if v69 = v71 then
f_L_law_L605 xs L K18 M72 y3
else
some (0 : Int32))))
else if ((xs (y3).toNatClampNeg) &&& (31 : Int32)) = (9 : Int32) then
gd (inb (y3 + (1 : Int32)) L) (
bP (f_X7_stop M (xs ((y3 + (1 : Int32))).toNatClampNeg)) (fun v76 M77 =>
gd (inb (y3 + (1 : Int32)) L) (
bP (f_X8_stop M77 (xs ((y3 + (1 : Int32))).toNatClampNeg)) (fun v79 M80 =>
(if v76 = v79 then
f_L_law_L605 xs L K18 M80 y3
else
some (0 : Int32))))))
else if ((xs (y3).toNatClampNeg) &&& (31 : Int32)) = (10 : Int32) then
bP (f_X7_restart M) (fun v83 M84 =>
bP (f_X8_restart M84) (fun v85 M86 =>
(if v83 = v85 then
f_L_law_L605 xs L K18 M86 y3
else
some (0 : Int32))))
else if ((xs (y3).toNatClampNeg) &&& (31 : Int32)) = (11 : Int32) then
gd (inb (y3 + (1 : Int32)) L) (
gd (inb (y3 + (2 : Int32)) L) (
bO (f_X7_pageOf M (xs ((y3 + (1 : Int32))).toNatClampNeg) (xs ((y3 + (2 : Int32))).toNatClampNeg)) (fun v91 =>
gd (inb (y3 + (1 : Int32)) L) (
gd (inb (y3 + (2 : Int32)) L) (
bO (f_X8_pageOf M (xs ((y3 + (1 : Int32))).toNatClampNeg) (xs ((y3 + (2 : Int32))).toNatClampNeg)) (fun v94 =>
(if v91 = v94 then
f_L_law_L605 xs L K18 M y3
else
some (0 : Int32))))))))
else if ((xs (y3).toNatClampNeg) &&& (31 : Int32)) = (12 : Int32) then
gd (inb (y3 + (1 : Int32)) L) (
gd (inb (y3 + (2 : Int32)) L) (
bO (f_X7_recordOf M (xs ((y3 + (1 : Int32))).toNatClampNeg) (xs ((y3 + (2 : Int32))).toNatClampNeg)) (fun v99 =>
gd (inb (y3 + (1 : Int32)) L) (
gd (inb (y3 + (2 : Int32)) L) (
bO (f_X8_recordOf M (xs ((y3 + (1 : Int32))).toNatClampNeg) (xs ((y3 + (2 : Int32))).toNatClampNeg)) (fun v102 =>
(if v99 = v102 then
f_L_law_L605 xs L K18 M y3
else
some (0 : Int32))))))))
else if ((xs (y3).toNatClampNeg) &&& (31 : Int32)) = (13 : Int32) then
gd (inb (y3 + (1 : Int32)) L) (
gd (inb (y3 + (2 : Int32)) L) (
bO (f_X7_groupOf M (xs ((y3 + (1 : Int32))).toNatClampNeg) (xs ((y3 + (2 : Int32))).toNatClampNeg)) (fun v107 =>
gd (inb (y3 + (1 : Int32)) L) (
gd (inb (y3 + (2 : Int32)) L) (
bO (f_X8_groupOf M (xs ((y3 + (1 : Int32))).toNatClampNeg) (xs ((y3 + (2 : Int32))).toNatClampNeg)) (fun v110 =>
(if v107 = v110 then
f_L_law_L605 xs L K18 M y3
else
some (0 : Int32))))))))
else if ((xs (y3).toNatClampNeg) &&& (31 : Int32)) = (14 : Int32) then
gd (inb (y3 + (1 : Int32)) L) (
gd (inb (y3 + (2 : Int32)) L) (
bP (f_X7_would M (xs ((y3 + (1 : Int32))).toNatClampNeg) (xs ((y3 + (2 : Int32))).toNatClampNeg)) (fun v115 M116 =>
gd (inb (y3 + (1 : Int32)) L) (
gd (inb (y3 + (2 : Int32)) L) (
bP (f_X8_would M116 (xs ((y3 + (1 : Int32))).toNatClampNeg) (xs ((y3 + (2 : Int32))).toNatClampNeg)) (fun v119 M120 =>
(if v115 = v119 then
f_L_law_L605 xs L K18 M120 y3
else
some (0 : Int32))))))))
else if ((xs (y3).toNatClampNeg) &&& (31 : Int32)) = (15 : Int32) then
gd (inb (y3 + (1 : Int32)) L) (
bO (f_X7_count M (xs ((y3 + (1 : Int32))).toNatClampNeg)) (fun v124 =>
gd (inb (y3 + (1 : Int32)) L) (
bO (f_X8_count M (xs ((y3 + (1 : Int32))).toNatClampNeg)) (fun v126 =>
(if v124 = v126 then
f_L_law_L605 xs L K18 M y3
else
some (0 : Int32))))))
else if ((xs (y3).toNatClampNeg) &&& (31 : Int32)) = (16 : Int32) then
bP (f_X7_undo M) (fun v129 M130 =>
bP (f_X8_undo M130) (fun v131 M132 =>
(if v129 = v131 then
f_L_law_L605 xs L K18 M132 y3
else
some (0 : Int32))))
else if ((xs (y3).toNatClampNeg) &&& (31 : Int32)) = (17 : Int32) then
gd (inb (y3 + (1 : Int32)) L) (
bP (f_X7_type M (xs ((y3 + (1 : Int32))).toNatClampNeg)) (fun v136 M137 =>
gd (inb (y3 + (1 : Int32)) L) (
bP (f_X8_type M137 (xs ((y3 + (1 : Int32))).toNatClampNeg)) (fun v139 M140 =>
(if v136 = v139 then
f_L_law_L605 xs L K18 M140 y3
else
some (0 : Int32))))))
else if ((xs (y3).toNatClampNeg) &&& (31 : Int32)) = (18 : Int32) then
bP (f_X7_clearText M) (fun v143 M144 =>
bP (f_X8_clearText M144) (fun v145 M146 =>
(if v143 = v145 then
f_L_law_L605 xs L K18 M146 y3
else
some (0 : Int32))))
else if ((xs (y3).toNatClampNeg) &&& (31 : Int32)) = (19 : Int32) then
gd (inb (y3 + (1 : Int32)) L) (
bP (f_X7_fault M (xs ((y3 + (1 : Int32))).toNatClampNeg)) (fun v150 M151 =>
gd (inb (y3 + (1 : Int32)) L) (
bP (f_X8_fault M151 (xs ((y3 + (1 : Int32))).toNatClampNeg)) (fun v153 M154 =>
(if v150 = v153 then
f_L_law_L605 xs L K18 M154 y3
else
some (0 : Int32))))))
else if ((xs (y3).toNatClampNeg) &&& (31 : Int32)) = (20 : Int32) then
bP (f_X7_play M) (fun v157 M158 =>
bP (f_X8_play M158) (fun v159 M160 =>
(if v157 = v159 then
f_L_law_L605 xs L K18 M160 y3
else
some (0 : Int32))))
else 
f_L_law_L605 xs L K18 M y3)))
noncomputable def f_L_law (xs : Nat → Int32) (L : Nat) (M : Mem) : Option Int32 :=
itr (f_L_law_L18 xs L) (fun _ _ => none) FU M (0 : Int32)
set_option maxHeartbeats 16000000 in
set_option maxRecDepth 100000 in
theorem law_run {p : Program} {e : Env} {s : State} {m : MethodId} {below : List Frame} {meth : Method} {c : Code} (l : Launch) (E : En) (hA : AdOK E) {b L : Nat} {xs : Nat → Int32} {M : Mem} (h : f_L_law xs L M = some 1) (X : Cx E (fun q : Nat => s.heap.size ≤ q) p s m c #[Value.ref b] cL_law 4 RL) (hr : meth.sig.returnType = ret) (hlocks : meth.locks = false) (hX : va_X b L xs s s.heap) (hbl : b < s.heap.size) {H : Heap} {locs : List Loc} {ls : Array Slot} (hP : va_P E.1 vwCl (wl E M) H) (hS : va_S (fun q : Nat => s.heap.size ≤ q) s.heap H locs) (hl : lv_has ls 4 [(0, .ref b), (1, .ref (E.2.2 10 27)), (2, .ref (E.2.2 11 28))]) : W p l e room_1 s m #[Value.ref b] below meth c H locs 600000 7302250 (lw_Z below #[Value.ref b] s) (F0 m 16 ls []) := by
  have hx := X.1.1
  have hb := X.1.2.1
  have hbA : ¬ (fun q : Nat => s.heap.size ≤ q) b := Nat.not_le.mpr hbl
  have w_L18 : ∀ (n18 : Nat) (M : Mem) (y3 : Int32) (H : Heap) (locs : List Loc) (ls : Array Slot), itr (f_L_law_L18 xs L) (fun _ _ => none) n18 M y3 = some 1 → va_P E.1 vwCl (wl E M) H → va_S (fun q : Nat => s.heap.size ≤ q) s.heap H locs → lv_has ls 4 [(0, .ref b), (1, .ref (E.2.2 10 27)), (2, .ref (E.2.2 11 28)), (3, .int y3)] → W p l e room_1 s m #[Value.ref b] below meth c H locs 600000 7302250 (lw_Z below #[Value.ref b] s) (F0 m 18 ls []) := by
    intro n18
    induction n18 with
    | zero => intro M y3 H locs ls h; exact (nomatch (show (none : Option Int32) = some _ from h))
    | succ n18 ih18 =>
      intro M y3 H locs ls h hP hS hl
      have h : f_L_law_L18 xs L (itr (f_L_law_L18 xs L) (fun _ _ => none) n18) M y3 = some 1 := h
      have w_L605 : ∀ (M : Mem) (y3 : Int32) (H : Heap) (locs : List Loc) (ls : Array Slot), f_L_law_L605 xs L (itr (f_L_law_L18 xs L) (fun _ _ => none) n18) M y3 = some 1 → va_P E.1 vwCl (wl E M) H → va_S (fun q : Nat => s.heap.size ≤ q) s.heap H locs → lv_has ls 4 [(0, .ref b), (1, .ref (E.2.2 10 27)), (2, .ref (E.2.2 11 28)), (3, .int y3)] → W p l e room_1 s m #[Value.ref b] below meth c H locs 600000 7302250 (lw_Z below #[Value.ref b] s) (F0 m 605 ls []) := by
        intro M y3 H locs ls h hP hS hl
        unfold f_L_law_L605 at h
        obtain ⟨x11, ex11⟩ : ∃ y : Int32, y = y3 + (4 : Int32) := ⟨_, rfl⟩
        have h := bd_e h ex11
        refine lv_iinc (v := x11) (lv' := [(3, .int x11), (0, .ref b), (1, .ref (E.2.2 10 27)), (2, .ref (E.2.2 11 28))]) hx hb dL_law_605 hl (k := 3) rfl (by rw [ex11]; rfl) (by decide) rfl (fun ls hl => ?_)
        refine lv_goto (tgt := 18) hx hb dL_law_608 (by decide) ?_
        exact ih18 _ _ _ _ _ h hP hS (lv_sub hl [1, 2, 3, 0] rfl)
      unfold f_L_law_L18 at h
      refine lv_iload_n hx hb dL_law_18 rfl (lv_at hl 3 rfl) ?_
      refine lv_aload_n hx hb dL_law_19 rfl (lv_at hl 0 rfl) ?_
      refine va_slen hx hb hX hbl hbA hS dL_law_20 ?_
      refine lv_iconst (v := 4) hx hb dL_law_21 (by decide) ?_
      refine lv_isub hx hb dL_law_22 ?_
      refine lv_icmp_gt (tgt := 611) hx hb dL_law_23 (by decide) (fun c1 => ?_) (fun c1 => ?_)
      · have h := br_1 h c1
        refine lv_iconst (v := 1) hx hb dL_law_611 (by decide) ?_
        refine va_forget (fun q hq => hS.2.2 q hq) ?_
        exact lw_ret hx hb hr hlocks dL_law_612
      · have h := br_0 h c1
        refine lv_aload_n hx hb dL_law_26 rfl (lv_at hl 0 rfl) ?_
        refine lv_iload_n hx hb dL_law_27 rfl (lv_at hl 3 rfl) ?_
        obtain ⟨g2, h⟩ := gd_e h
        refine va_sld hx hb hX hbl hbA hS (inb_vp g2) dL_law_28 ?_
        refine lv_bipush (v := 31) hx hb dL_law_29 (by decide) ?_
        refine lv_iand hx hb dL_law_31 ?_
        by_cases c3 : ((xs (y3).toNatClampNeg) &&& (31 : Int32)) = (0 : Int32)
        · have h := br_1 h c3
          refine lv_tableIn (tgt := 132) hx hb dL_law_32 (by rw [c3] <;> decide) (by rw [c3] <;> decide) (by rw [c3] <;> rfl) (by decide) ?_
          refine lv_aload_n hx hb dL_law_132 rfl (lv_at hl 1 rfl) ?_
          refine lv_aload_n hx hb dL_law_133 rfl (lv_at hl 0 rfl) ?_
          refine lv_iload_n hx hb dL_law_134 rfl (lv_at hl 3 rfl) ?_
          refine lv_iconst (v := 1) hx hb dL_law_135 (by decide) ?_
          refine lv_iadd hx hb dL_law_136 ?_
          obtain ⟨g4, h⟩ := gd_e h
          refine va_sld hx hb hX hbl hbA hS (inb_vp g4) dL_law_137 ?_
          obtain ⟨v5, M6, hv5, h⟩ := bP_e h
          refine mw_callVi X (c_X7_begin l E hA hv5) pk_X7_begin pv_X7_begin wm_97 ⟨Nat.le_of_ble_eq_true rfl, Nat.le_of_ble_eq_true rfl⟩ ⟨rfl, rfl⟩ hP hS ix_27 rfl rfl rfl rfl hl.1 (Nat.le_of_ble_eq_true rfl) ⟨Nat.le_of_ble_eq_true rfl, Nat.le_of_ble_eq_true rfl⟩ rfl dL_law_138 (fun H locs hP hS => ?_)
          refine lv_aload_n hx hb dL_law_141 rfl (lv_at hl 2 rfl) ?_
          refine lv_aload_n hx hb dL_law_142 rfl (lv_at hl 0 rfl) ?_
          refine lv_iload_n hx hb dL_law_143 rfl (lv_at hl 3 rfl) ?_
          refine lv_iconst (v := 1) hx hb dL_law_144 (by decide) ?_
          refine lv_iadd hx hb dL_law_145 ?_
          obtain ⟨g7, h⟩ := gd_e h
          refine va_sld hx hb hX hbl hbA hS (inb_vp g7) dL_law_146 ?_
          obtain ⟨v8, M9, hv8, h⟩ := bP_e h
          refine mw_callVi X (c_X8_begin l E hA hv8) pk_X8_begin pv_X8_begin wm_175 ⟨Nat.le_of_ble_eq_true rfl, Nat.le_of_ble_eq_true rfl⟩ ⟨rfl, rfl⟩ hP hS ix_28 rfl rfl rfl rfl hl.1 (Nat.le_of_ble_eq_true rfl) ⟨Nat.le_of_ble_eq_true rfl, Nat.le_of_ble_eq_true rfl⟩ rfl dL_law_147 (fun H locs hP hS => ?_)
          refine lv_icmp_eq (tgt := 605) hx hb dL_law_150 (by decide) (fun c10 => ?_) (fun c10 => ?_)
          · have h := br_1 h c10
            exact w_L605 _ _ _ _ _ h hP hS (lv_sub hl [0, 1, 2, 3] rfl)
          · have h := br_0 h c10
            refine lv_iconst (v := 0) hx hb dL_law_153 (by decide) ?_
            exact absurd (Option.some.inj h) (by decide)
        have h := br_0 h c3
        by_cases c12 : ((xs (y3).toNatClampNeg) &&& (31 : Int32)) = (1 : Int32)
        · have h := br_1 h c12
          refine lv_tableIn (tgt := 155) hx hb dL_law_32 (by rw [c12] <;> decide) (by rw [c12] <;> decide) (by rw [c12] <;> rfl) (by decide) ?_
          refine lv_aload_n hx hb dL_law_155 rfl (lv_at hl 1 rfl) ?_
          refine lv_aload_n hx hb dL_law_156 rfl (lv_at hl 0 rfl) ?_
          refine lv_iload_n hx hb dL_law_157 rfl (lv_at hl 3 rfl) ?_
          refine lv_iconst (v := 1) hx hb dL_law_158 (by decide) ?_
          refine lv_iadd hx hb dL_law_159 ?_
          obtain ⟨g13, h⟩ := gd_e h
          refine va_sld hx hb hX hbl hbA hS (inb_vp g13) dL_law_160 ?_
          refine lv_aload_n hx hb dL_law_161 rfl (lv_at hl 0 rfl) ?_
          refine lv_iload_n hx hb dL_law_162 rfl (lv_at hl 3 rfl) ?_
          refine lv_iconst (v := 2) hx hb dL_law_163 (by decide) ?_
          refine lv_iadd hx hb dL_law_164 ?_
          obtain ⟨g14, h⟩ := gd_e h
          refine va_sld hx hb hX hbl hbA hS (inb_vp g14) dL_law_165 ?_
          refine lv_aload_n hx hb dL_law_166 rfl (lv_at hl 0 rfl) ?_
          refine lv_iload_n hx hb dL_law_167 rfl (lv_at hl 3 rfl) ?_
          refine lv_iconst (v := 3) hx hb dL_law_168 (by decide) ?_
          refine lv_iadd hx hb dL_law_169 ?_
          obtain ⟨g15, h⟩ := gd_e h
          refine va_sld hx hb hX hbl hbA hS (inb_vp g15) dL_law_170 ?_
          obtain ⟨v16, M17, hv16, h⟩ := bP_e h
          refine mw_callVi X (c_X7_write l E hA hv16) pk_X7_write pv_X7_write wm_216 ⟨Nat.le_of_ble_eq_true rfl, Nat.le_of_ble_eq_true rfl⟩ ⟨rfl, rfl⟩ hP hS ix_27 rfl rfl rfl rfl hl.1 (Nat.le_of_ble_eq_true rfl) ⟨Nat.le_of_ble_eq_true rfl, Nat.le_of_ble_eq_true rfl⟩ rfl dL_law_171 (fun H locs hP hS => ?_)
          refine lv_aload_n hx hb dL_law_174 rfl (lv_at hl 2 rfl) ?_
          refine lv_aload_n hx hb dL_law_175 rfl (lv_at hl 0 rfl) ?_
          refine lv_iload_n hx hb dL_law_176 rfl (lv_at hl 3 rfl) ?_
          refine lv_iconst (v := 1) hx hb dL_law_177 (by decide) ?_
          refine lv_iadd hx hb dL_law_178 ?_
          obtain ⟨g18, h⟩ := gd_e h
          refine va_sld hx hb hX hbl hbA hS (inb_vp g18) dL_law_179 ?_
          refine lv_aload_n hx hb dL_law_180 rfl (lv_at hl 0 rfl) ?_
          refine lv_iload_n hx hb dL_law_181 rfl (lv_at hl 3 rfl) ?_
          refine lv_iconst (v := 2) hx hb dL_law_182 (by decide) ?_
          refine lv_iadd hx hb dL_law_183 ?_
          obtain ⟨g19, h⟩ := gd_e h
          refine va_sld hx hb hX hbl hbA hS (inb_vp g19) dL_law_184 ?_
          refine lv_aload_n hx hb dL_law_185 rfl (lv_at hl 0 rfl) ?_
          refine lv_iload_n hx hb dL_law_186 rfl (lv_at hl 3 rfl) ?_
          refine lv_iconst (v := 3) hx hb dL_law_187 (by decide) ?_
          refine lv_iadd hx hb dL_law_188 ?_
          obtain ⟨g20, h⟩ := gd_e h
          refine va_sld hx hb hX hbl hbA hS (inb_vp g20) dL_law_189 ?_
          obtain ⟨v21, M22, hv21, h⟩ := bP_e h
          refine mw_callVi X (c_X8_write l E hA hv21) pk_X8_write pv_X8_write wm_241 ⟨Nat.le_of_ble_eq_true rfl, Nat.le_of_ble_eq_true rfl⟩ ⟨rfl, rfl⟩ hP hS ix_28 rfl rfl rfl rfl hl.1 (Nat.le_of_ble_eq_true rfl) ⟨Nat.le_of_ble_eq_true rfl, Nat.le_of_ble_eq_true rfl⟩ rfl dL_law_190 (fun H locs hP hS => ?_)
          refine lv_icmp_eq (tgt := 605) hx hb dL_law_193 (by decide) (fun c23 => ?_) (fun c23 => ?_)
          · have h := br_1 h c23
            exact w_L605 _ _ _ _ _ h hP hS (lv_sub hl [0, 1, 2, 3] rfl)
          · have h := br_0 h c23
            refine lv_iconst (v := 0) hx hb dL_law_196 (by decide) ?_
            exact absurd (Option.some.inj h) (by decide)
        have h := br_0 h c12
        by_cases c24 : ((xs (y3).toNatClampNeg) &&& (31 : Int32)) = (2 : Int32)
        · have h := br_1 h c24
          refine lv_tableIn (tgt := 198) hx hb dL_law_32 (by rw [c24] <;> decide) (by rw [c24] <;> decide) (by rw [c24] <;> rfl) (by decide) ?_
          refine lv_aload_n hx hb dL_law_198 rfl (lv_at hl 1 rfl) ?_
          refine lv_aload_n hx hb dL_law_199 rfl (lv_at hl 0 rfl) ?_
          refine lv_iload_n hx hb dL_law_200 rfl (lv_at hl 3 rfl) ?_
          refine lv_iconst (v := 1) hx hb dL_law_201 (by decide) ?_
          refine lv_iadd hx hb dL_law_202 ?_
          obtain ⟨g25, h⟩ := gd_e h
          refine va_sld hx hb hX hbl hbA hS (inb_vp g25) dL_law_203 ?_
          obtain ⟨v26, M27, hv26, h⟩ := bP_e h
          refine mw_callVi X (c_X7_settle l E hA hv26) pk_X7_settle pv_X7_settle wm_273 ⟨Nat.le_of_ble_eq_true rfl, Nat.le_of_ble_eq_true rfl⟩ ⟨rfl, rfl⟩ hP hS ix_27 rfl rfl rfl rfl hl.1 (Nat.le_of_ble_eq_true rfl) ⟨Nat.le_of_ble_eq_true rfl, Nat.le_of_ble_eq_true rfl⟩ rfl dL_law_204 (fun H locs hP hS => ?_)
          refine lv_aload_n hx hb dL_law_207 rfl (lv_at hl 2 rfl) ?_
          refine lv_aload_n hx hb dL_law_208 rfl (lv_at hl 0 rfl) ?_
          refine lv_iload_n hx hb dL_law_209 rfl (lv_at hl 3 rfl) ?_
          refine lv_iconst (v := 1) hx hb dL_law_210 (by decide) ?_
          refine lv_iadd hx hb dL_law_211 ?_
          obtain ⟨g28, h⟩ := gd_e h
          refine va_sld hx hb hX hbl hbA hS (inb_vp g28) dL_law_212 ?_
          obtain ⟨v29, M30, hv29, h⟩ := bP_e h
          refine mw_callVi X (c_X8_settle l E hA hv29) pk_X8_settle pv_X8_settle wm_308 ⟨Nat.le_of_ble_eq_true rfl, Nat.le_of_ble_eq_true rfl⟩ ⟨rfl, rfl⟩ hP hS ix_28 rfl rfl rfl rfl hl.1 (Nat.le_of_ble_eq_true rfl) ⟨Nat.le_of_ble_eq_true rfl, Nat.le_of_ble_eq_true rfl⟩ rfl dL_law_213 (fun H locs hP hS => ?_)
          refine lv_icmp_eq (tgt := 605) hx hb dL_law_216 (by decide) (fun c31 => ?_) (fun c31 => ?_)
          · have h := br_1 h c31
            exact w_L605 _ _ _ _ _ h hP hS (lv_sub hl [0, 1, 2, 3] rfl)
          · have h := br_0 h c31
            refine lv_iconst (v := 0) hx hb dL_law_219 (by decide) ?_
            exact absurd (Option.some.inj h) (by decide)
        have h := br_0 h c24
        by_cases c32 : ((xs (y3).toNatClampNeg) &&& (31 : Int32)) = (3 : Int32)
        · have h := br_1 h c32
          refine lv_tableIn (tgt := 221) hx hb dL_law_32 (by rw [c32] <;> decide) (by rw [c32] <;> decide) (by rw [c32] <;> rfl) (by decide) ?_
          refine lv_aload_n hx hb dL_law_221 rfl (lv_at hl 1 rfl) ?_
          refine lv_aload_n hx hb dL_law_222 rfl (lv_at hl 0 rfl) ?_
          refine lv_iload_n hx hb dL_law_223 rfl (lv_at hl 3 rfl) ?_
          refine lv_iconst (v := 1) hx hb dL_law_224 (by decide) ?_
          refine lv_iadd hx hb dL_law_225 ?_
          obtain ⟨g33, h⟩ := gd_e h
          refine va_sld hx hb hX hbl hbA hS (inb_vp g33) dL_law_226 ?_
          obtain ⟨v34, M35, hv34, h⟩ := bP_e h
          refine mw_callVi X (c_X7_takeBack l E hA hv34) pk_X7_takeBack pv_X7_takeBack wm_323 ⟨Nat.le_of_ble_eq_true rfl, Nat.le_of_ble_eq_true rfl⟩ ⟨rfl, rfl⟩ hP hS ix_27 rfl rfl rfl rfl hl.1 (Nat.le_of_ble_eq_true rfl) ⟨Nat.le_of_ble_eq_true rfl, Nat.le_of_ble_eq_true rfl⟩ rfl dL_law_227 (fun H locs hP hS => ?_)
          refine lv_aload_n hx hb dL_law_230 rfl (lv_at hl 2 rfl) ?_
          refine lv_aload_n hx hb dL_law_231 rfl (lv_at hl 0 rfl) ?_
          refine lv_iload_n hx hb dL_law_232 rfl (lv_at hl 3 rfl) ?_
          refine lv_iconst (v := 1) hx hb dL_law_233 (by decide) ?_
          refine lv_iadd hx hb dL_law_234 ?_
          obtain ⟨g36, h⟩ := gd_e h
          refine va_sld hx hb hX hbl hbA hS (inb_vp g36) dL_law_235 ?_
          obtain ⟨v37, M38, hv37, h⟩ := bP_e h
          refine mw_callVi X (c_X8_takeBack l E hA hv37) pk_X8_takeBack pv_X8_takeBack wm_355 ⟨Nat.le_of_ble_eq_true rfl, Nat.le_of_ble_eq_true rfl⟩ ⟨rfl, rfl⟩ hP hS ix_28 rfl rfl rfl rfl hl.1 (Nat.le_of_ble_eq_true rfl) ⟨Nat.le_of_ble_eq_true rfl, Nat.le_of_ble_eq_true rfl⟩ rfl dL_law_236 (fun H locs hP hS => ?_)
          refine lv_icmp_eq (tgt := 605) hx hb dL_law_239 (by decide) (fun c39 => ?_) (fun c39 => ?_)
          · have h := br_1 h c39
            exact w_L605 _ _ _ _ _ h hP hS (lv_sub hl [0, 1, 2, 3] rfl)
          · have h := br_0 h c39
            refine lv_iconst (v := 0) hx hb dL_law_242 (by decide) ?_
            exact absurd (Option.some.inj h) (by decide)
        have h := br_0 h c32
        by_cases c40 : ((xs (y3).toNatClampNeg) &&& (31 : Int32)) = (4 : Int32)
        · have h := br_1 h c40
          refine lv_tableIn (tgt := 244) hx hb dL_law_32 (by rw [c40] <;> decide) (by rw [c40] <;> decide) (by rw [c40] <;> rfl) (by decide) ?_
          refine lv_aload_n hx hb dL_law_244 rfl (lv_at hl 1 rfl) ?_
          refine lv_aload_n hx hb dL_law_245 rfl (lv_at hl 0 rfl) ?_
          refine lv_iload_n hx hb dL_law_246 rfl (lv_at hl 3 rfl) ?_
          refine lv_iconst (v := 1) hx hb dL_law_247 (by decide) ?_
          refine lv_iadd hx hb dL_law_248 ?_
          obtain ⟨g41, h⟩ := gd_e h
          refine va_sld hx hb hX hbl hbA hS (inb_vp g41) dL_law_249 ?_
          obtain ⟨v42, M43, hv42, h⟩ := bP_e h
          refine mw_callVi X (c_X7_writeOut l E hA hv42) pk_X7_writeOut pv_X7_writeOut wm_371 ⟨Nat.le_of_ble_eq_true rfl, Nat.le_of_ble_eq_true rfl⟩ ⟨rfl, rfl⟩ hP hS ix_27 rfl rfl rfl rfl hl.1 (Nat.le_of_ble_eq_true rfl) ⟨Nat.le_of_ble_eq_true rfl, Nat.le_of_ble_eq_true rfl⟩ rfl dL_law_250 (fun H locs hP hS => ?_)
          refine lv_aload_n hx hb dL_law_253 rfl (lv_at hl 2 rfl) ?_
          refine lv_aload_n hx hb dL_law_254 rfl (lv_at hl 0 rfl) ?_
          refine lv_iload_n hx hb dL_law_255 rfl (lv_at hl 3 rfl) ?_
          refine lv_iconst (v := 1) hx hb dL_law_256 (by decide) ?_
          refine lv_iadd hx hb dL_law_257 ?_
          obtain ⟨g44, h⟩ := gd_e h
          refine va_sld hx hb hX hbl hbA hS (inb_vp g44) dL_law_258 ?_
          obtain ⟨v45, M46, hv45, h⟩ := bP_e h
          refine mw_callVi X (c_X8_writeOut l E hA hv45) pk_X8_writeOut pv_X8_writeOut wm_387 ⟨Nat.le_of_ble_eq_true rfl, Nat.le_of_ble_eq_true rfl⟩ ⟨rfl, rfl⟩ hP hS ix_28 rfl rfl rfl rfl hl.1 (Nat.le_of_ble_eq_true rfl) ⟨Nat.le_of_ble_eq_true rfl, Nat.le_of_ble_eq_true rfl⟩ rfl dL_law_259 (fun H locs hP hS => ?_)
          refine lv_icmp_eq (tgt := 605) hx hb dL_law_262 (by decide) (fun c47 => ?_) (fun c47 => ?_)
          · have h := br_1 h c47
            exact w_L605 _ _ _ _ _ h hP hS (lv_sub hl [0, 1, 2, 3] rfl)
          · have h := br_0 h c47
            refine lv_iconst (v := 0) hx hb dL_law_265 (by decide) ?_
            exact absurd (Option.some.inj h) (by decide)
        have h := br_0 h c40
        by_cases c48 : ((xs (y3).toNatClampNeg) &&& (31 : Int32)) = (5 : Int32)
        · have h := br_1 h c48
          refine lv_tableIn (tgt := 267) hx hb dL_law_32 (by rw [c48] <;> decide) (by rw [c48] <;> decide) (by rw [c48] <;> rfl) (by decide) ?_
          refine lv_aload_n hx hb dL_law_267 rfl (lv_at hl 1 rfl) ?_
          refine lv_aload_n hx hb dL_law_268 rfl (lv_at hl 0 rfl) ?_
          refine lv_iload_n hx hb dL_law_269 rfl (lv_at hl 3 rfl) ?_
          refine lv_iconst (v := 1) hx hb dL_law_270 (by decide) ?_
          refine lv_iadd hx hb dL_law_271 ?_
          obtain ⟨g49, h⟩ := gd_e h
          refine va_sld hx hb hX hbl hbA hS (inb_vp g49) dL_law_272 ?_
          obtain ⟨v50, M51, hv50, h⟩ := bP_e h
          refine mw_callVi X (c_X7_dropOut l E hA hv50) pk_X7_dropOut pv_X7_dropOut wm_391 ⟨Nat.le_of_ble_eq_true rfl, Nat.le_of_ble_eq_true rfl⟩ ⟨rfl, rfl⟩ hP hS ix_27 rfl rfl rfl rfl hl.1 (Nat.le_of_ble_eq_true rfl) ⟨Nat.le_of_ble_eq_true rfl, Nat.le_of_ble_eq_true rfl⟩ rfl dL_law_273 (fun H locs hP hS => ?_)
          refine lv_aload_n hx hb dL_law_276 rfl (lv_at hl 2 rfl) ?_
          refine lv_aload_n hx hb dL_law_277 rfl (lv_at hl 0 rfl) ?_
          refine lv_iload_n hx hb dL_law_278 rfl (lv_at hl 3 rfl) ?_
          refine lv_iconst (v := 1) hx hb dL_law_279 (by decide) ?_
          refine lv_iadd hx hb dL_law_280 ?_
          obtain ⟨g52, h⟩ := gd_e h
          refine va_sld hx hb hX hbl hbA hS (inb_vp g52) dL_law_281 ?_
          obtain ⟨v53, M54, hv53, h⟩ := bP_e h
          refine mw_callVi X (c_X8_dropOut l E hA hv53) pk_X8_dropOut pv_X8_dropOut wm_399 ⟨Nat.le_of_ble_eq_true rfl, Nat.le_of_ble_eq_true rfl⟩ ⟨rfl, rfl⟩ hP hS ix_28 rfl rfl rfl rfl hl.1 (Nat.le_of_ble_eq_true rfl) ⟨Nat.le_of_ble_eq_true rfl, Nat.le_of_ble_eq_true rfl⟩ rfl dL_law_282 (fun H locs hP hS => ?_)
          refine lv_icmp_eq (tgt := 605) hx hb dL_law_285 (by decide) (fun c55 => ?_) (fun c55 => ?_)
          · have h := br_1 h c55
            exact w_L605 _ _ _ _ _ h hP hS (lv_sub hl [0, 1, 2, 3] rfl)
          · have h := br_0 h c55
            refine lv_iconst (v := 0) hx hb dL_law_288 (by decide) ?_
            exact absurd (Option.some.inj h) (by decide)
        have h := br_0 h c48
        by_cases c56 : ((xs (y3).toNatClampNeg) &&& (31 : Int32)) = (6 : Int32)
        · have h := br_1 h c56
          refine lv_tableIn (tgt := 290) hx hb dL_law_32 (by rw [c56] <;> decide) (by rw [c56] <;> decide) (by rw [c56] <;> rfl) (by decide) ?_
          refine lv_aload_n hx hb dL_law_290 rfl (lv_at hl 1 rfl) ?_
          obtain ⟨v57, M58, hv57, h⟩ := bP_e h
          refine mw_callVi X (c_X7_checkpoint l E hA hv57) pk_X7_checkpoint pv_X7_checkpoint wm_407 ⟨Nat.le_of_ble_eq_true rfl, Nat.le_of_ble_eq_true rfl⟩ ⟨rfl, rfl⟩ hP hS ix_27 rfl rfl rfl rfl hl.1 (Nat.le_of_ble_eq_true rfl) ⟨Nat.le_of_ble_eq_true rfl, Nat.le_of_ble_eq_true rfl⟩ rfl dL_law_291 (fun H locs hP hS => ?_)
          refine lv_aload_n hx hb dL_law_294 rfl (lv_at hl 2 rfl) ?_
          obtain ⟨v59, M60, hv59, h⟩ := bP_e h
          refine mw_callVi X (c_X8_checkpoint l E hA hv59) pk_X8_checkpoint pv_X8_checkpoint wm_424 ⟨Nat.le_of_ble_eq_true rfl, Nat.le_of_ble_eq_true rfl⟩ ⟨rfl, rfl⟩ hP hS ix_28 rfl rfl rfl rfl hl.1 (Nat.le_of_ble_eq_true rfl) ⟨Nat.le_of_ble_eq_true rfl, Nat.le_of_ble_eq_true rfl⟩ rfl dL_law_295 (fun H locs hP hS => ?_)
          refine lv_icmp_eq (tgt := 605) hx hb dL_law_298 (by decide) (fun c61 => ?_) (fun c61 => ?_)
          · have h := br_1 h c61
            exact w_L605 _ _ _ _ _ h hP hS (lv_sub hl [0, 1, 2, 3] rfl)
          · have h := br_0 h c61
            refine lv_iconst (v := 0) hx hb dL_law_301 (by decide) ?_
            exact absurd (Option.some.inj h) (by decide)
        have h := br_0 h c56
        by_cases c62 : ((xs (y3).toNatClampNeg) &&& (31 : Int32)) = (7 : Int32)
        · have h := br_1 h c62
          refine lv_tableIn (tgt := 303) hx hb dL_law_32 (by rw [c62] <;> decide) (by rw [c62] <;> decide) (by rw [c62] <;> rfl) (by decide) ?_
          refine lv_aload_n hx hb dL_law_303 rfl (lv_at hl 1 rfl) ?_
          obtain ⟨v63, M64, hv63, h⟩ := bP_e h
          refine mw_callVi X (c_X7_dropRecords l E hA hv63) pk_X7_dropRecords pv_X7_dropRecords wm_432 ⟨Nat.le_of_ble_eq_true rfl, Nat.le_of_ble_eq_true rfl⟩ ⟨rfl, rfl⟩ hP hS ix_27 rfl rfl rfl rfl hl.1 (Nat.le_of_ble_eq_true rfl) ⟨Nat.le_of_ble_eq_true rfl, Nat.le_of_ble_eq_true rfl⟩ rfl dL_law_304 (fun H locs hP hS => ?_)
          refine lv_aload_n hx hb dL_law_307 rfl (lv_at hl 2 rfl) ?_
          obtain ⟨v65, M66, hv65, h⟩ := bP_e h
          refine mw_callVi X (c_X8_dropRecords l E hA hv65) pk_X8_dropRecords pv_X8_dropRecords wm_448 ⟨Nat.le_of_ble_eq_true rfl, Nat.le_of_ble_eq_true rfl⟩ ⟨rfl, rfl⟩ hP hS ix_28 rfl rfl rfl rfl hl.1 (Nat.le_of_ble_eq_true rfl) ⟨Nat.le_of_ble_eq_true rfl, Nat.le_of_ble_eq_true rfl⟩ rfl dL_law_308 (fun H locs hP hS => ?_)
          refine lv_icmp_eq (tgt := 605) hx hb dL_law_311 (by decide) (fun c67 => ?_) (fun c67 => ?_)
          · have h := br_1 h c67
            exact w_L605 _ _ _ _ _ h hP hS (lv_sub hl [0, 1, 2, 3] rfl)
          · have h := br_0 h c67
            refine lv_iconst (v := 0) hx hb dL_law_314 (by decide) ?_
            exact absurd (Option.some.inj h) (by decide)
        have h := br_0 h c62
        by_cases c68 : ((xs (y3).toNatClampNeg) &&& (31 : Int32)) = (8 : Int32)
        · have h := br_1 h c68
          refine lv_tableIn (tgt := 316) hx hb dL_law_32 (by rw [c68] <;> decide) (by rw [c68] <;> decide) (by rw [c68] <;> rfl) (by decide) ?_
          refine lv_aload_n hx hb dL_law_316 rfl (lv_at hl 1 rfl) ?_
          obtain ⟨v69, M70, hv69, h⟩ := bP_e h
          refine mw_callVi X (c_X7_force l E hA hv69) pk_X7_force pv_X7_force wm_460 ⟨Nat.le_of_ble_eq_true rfl, Nat.le_of_ble_eq_true rfl⟩ ⟨rfl, rfl⟩ hP hS ix_27 rfl rfl rfl rfl hl.1 (Nat.le_of_ble_eq_true rfl) ⟨Nat.le_of_ble_eq_true rfl, Nat.le_of_ble_eq_true rfl⟩ rfl dL_law_317 (fun H locs hP hS => ?_)
          refine lv_aload_n hx hb dL_law_320 rfl (lv_at hl 2 rfl) ?_
          obtain ⟨v71, M72, hv71, h⟩ := bP_e h
          refine mw_callVi X (c_X8_force l E hA hv71) pk_X8_force pv_X8_force wm_468 ⟨Nat.le_of_ble_eq_true rfl, Nat.le_of_ble_eq_true rfl⟩ ⟨rfl, rfl⟩ hP hS ix_28 rfl rfl rfl rfl hl.1 (Nat.le_of_ble_eq_true rfl) ⟨Nat.le_of_ble_eq_true rfl, Nat.le_of_ble_eq_true rfl⟩ rfl dL_law_321 (fun H locs hP hS => ?_)
          refine lv_icmp_eq (tgt := 605) hx hb dL_law_324 (by decide) (fun c73 => ?_) (fun c73 => ?_)
          · have h := br_1 h c73
            exact w_L605 _ _ _ _ _ h hP hS (lv_sub hl [0, 1, 2, 3] rfl)
          · have h := br_0 h c73
            refine lv_iconst (v := 0) hx hb dL_law_327 (by decide) ?_
            exact absurd (Option.some.inj h) (by decide)
        have h := br_0 h c68
        by_cases c74 : ((xs (y3).toNatClampNeg) &&& (31 : Int32)) = (9 : Int32)
        · have h := br_1 h c74
          refine lv_tableIn (tgt := 329) hx hb dL_law_32 (by rw [c74] <;> decide) (by rw [c74] <;> decide) (by rw [c74] <;> rfl) (by decide) ?_
          refine lv_aload_n hx hb dL_law_329 rfl (lv_at hl 1 rfl) ?_
          refine lv_aload_n hx hb dL_law_330 rfl (lv_at hl 0 rfl) ?_
          refine lv_iload_n hx hb dL_law_331 rfl (lv_at hl 3 rfl) ?_
          refine lv_iconst (v := 1) hx hb dL_law_332 (by decide) ?_
          refine lv_iadd hx hb dL_law_333 ?_
          obtain ⟨g75, h⟩ := gd_e h
          refine va_sld hx hb hX hbl hbA hS (inb_vp g75) dL_law_334 ?_
          obtain ⟨v76, M77, hv76, h⟩ := bP_e h
          refine mw_callVi X (c_X7_stop l E hA hv76) pk_X7_stop pv_X7_stop wm_472 ⟨Nat.le_of_ble_eq_true rfl, Nat.le_of_ble_eq_true rfl⟩ ⟨rfl, rfl⟩ hP hS ix_27 rfl rfl rfl rfl hl.1 (Nat.le_of_ble_eq_true rfl) ⟨Nat.le_of_ble_eq_true rfl, Nat.le_of_ble_eq_true rfl⟩ rfl dL_law_335 (fun H locs hP hS => ?_)
          refine lv_aload_n hx hb dL_law_338 rfl (lv_at hl 2 rfl) ?_
          refine lv_aload_n hx hb dL_law_339 rfl (lv_at hl 0 rfl) ?_
          refine lv_iload_n hx hb dL_law_340 rfl (lv_at hl 3 rfl) ?_
          refine lv_iconst (v := 1) hx hb dL_law_341 (by decide) ?_
          refine lv_iadd hx hb dL_law_342 ?_
          obtain ⟨g78, h⟩ := gd_e h
          refine va_sld hx hb hX hbl hbA hS (inb_vp g78) dL_law_343 ?_
          obtain ⟨v79, M80, hv79, h⟩ := bP_e h
          refine mw_callVi X (c_X8_stop l E hA hv79) pk_X8_stop pv_X8_stop wm_499 ⟨Nat.le_of_ble_eq_true rfl, Nat.le_of_ble_eq_true rfl⟩ ⟨rfl, rfl⟩ hP hS ix_28 rfl rfl rfl rfl hl.1 (Nat.le_of_ble_eq_true rfl) ⟨Nat.le_of_ble_eq_true rfl, Nat.le_of_ble_eq_true rfl⟩ rfl dL_law_344 (fun H locs hP hS => ?_)
          refine lv_icmp_eq (tgt := 605) hx hb dL_law_347 (by decide) (fun c81 => ?_) (fun c81 => ?_)
          · have h := br_1 h c81
            exact w_L605 _ _ _ _ _ h hP hS (lv_sub hl [0, 1, 2, 3] rfl)
          · have h := br_0 h c81
            refine lv_iconst (v := 0) hx hb dL_law_350 (by decide) ?_
            exact absurd (Option.some.inj h) (by decide)
        have h := br_0 h c74
        by_cases c82 : ((xs (y3).toNatClampNeg) &&& (31 : Int32)) = (10 : Int32)
        · have h := br_1 h c82
          refine lv_tableIn (tgt := 352) hx hb dL_law_32 (by rw [c82] <;> decide) (by rw [c82] <;> decide) (by rw [c82] <;> rfl) (by decide) ?_
          refine lv_aload_n hx hb dL_law_352 rfl (lv_at hl 1 rfl) ?_
          obtain ⟨v83, M84, hv83, h⟩ := bP_e h
          refine mw_callVi X (c_X7_restart l E hA hv83) pk_X7_restart pv_X7_restart wm_511 ⟨Nat.le_of_ble_eq_true rfl, Nat.le_of_ble_eq_true rfl⟩ ⟨rfl, rfl⟩ hP hS ix_27 rfl rfl rfl rfl hl.1 (Nat.le_of_ble_eq_true rfl) ⟨Nat.le_of_ble_eq_true rfl, Nat.le_of_ble_eq_true rfl⟩ rfl dL_law_353 (fun H locs hP hS => ?_)
          refine lv_aload_n hx hb dL_law_356 rfl (lv_at hl 2 rfl) ?_
          obtain ⟨v85, M86, hv85, h⟩ := bP_e h
          refine mw_callVi X (c_X8_restart l E hA hv85) pk_X8_restart pv_X8_restart wm_569 ⟨Nat.le_of_ble_eq_true rfl, Nat.le_of_ble_eq_true rfl⟩ ⟨rfl, rfl⟩ hP hS ix_28 rfl rfl rfl rfl hl.1 (Nat.le_of_ble_eq_true rfl) ⟨Nat.le_of_ble_eq_true rfl, Nat.le_of_ble_eq_true rfl⟩ rfl dL_law_357 (fun H locs hP hS => ?_)
          refine lv_icmp_eq (tgt := 605) hx hb dL_law_360 (by decide) (fun c87 => ?_) (fun c87 => ?_)
          · have h := br_1 h c87
            exact w_L605 _ _ _ _ _ h hP hS (lv_sub hl [0, 1, 2, 3] rfl)
          · have h := br_0 h c87
            refine lv_iconst (v := 0) hx hb dL_law_363 (by decide) ?_
            exact absurd (Option.some.inj h) (by decide)
        have h := br_0 h c82
        by_cases c88 : ((xs (y3).toNatClampNeg) &&& (31 : Int32)) = (11 : Int32)
        · have h := br_1 h c88
          refine lv_tableIn (tgt := 365) hx hb dL_law_32 (by rw [c88] <;> decide) (by rw [c88] <;> decide) (by rw [c88] <;> rfl) (by decide) ?_
          refine lv_aload_n hx hb dL_law_365 rfl (lv_at hl 1 rfl) ?_
          refine lv_aload_n hx hb dL_law_366 rfl (lv_at hl 0 rfl) ?_
          refine lv_iload_n hx hb dL_law_367 rfl (lv_at hl 3 rfl) ?_
          refine lv_iconst (v := 1) hx hb dL_law_368 (by decide) ?_
          refine lv_iadd hx hb dL_law_369 ?_
          obtain ⟨g89, h⟩ := gd_e h
          refine va_sld hx hb hX hbl hbA hS (inb_vp g89) dL_law_370 ?_
          refine lv_aload_n hx hb dL_law_371 rfl (lv_at hl 0 rfl) ?_
          refine lv_iload_n hx hb dL_law_372 rfl (lv_at hl 3 rfl) ?_
          refine lv_iconst (v := 2) hx hb dL_law_373 (by decide) ?_
          refine lv_iadd hx hb dL_law_374 ?_
          obtain ⟨g90, h⟩ := gd_e h
          refine va_sld hx hb hX hbl hbA hS (inb_vp g90) dL_law_375 ?_
          obtain ⟨v91, hv91, h⟩ := bO_e h
          refine mw_callVi X (c_X7_pageOf l E hA hv91) pk_X7_pageOf pv_X7_pageOf wm_583 ⟨Nat.le_of_ble_eq_true rfl, Nat.le_of_ble_eq_true rfl⟩ ⟨rfl, rfl⟩ hP hS ix_27 rfl rfl rfl rfl hl.1 (Nat.le_of_ble_eq_true rfl) ⟨Nat.le_of_ble_eq_true rfl, Nat.le_of_ble_eq_true rfl⟩ rfl dL_law_376 (fun H locs hP hS => ?_)
          refine lv_aload_n hx hb dL_law_379 rfl (lv_at hl 2 rfl) ?_
          refine lv_aload_n hx hb dL_law_380 rfl (lv_at hl 0 rfl) ?_
          refine lv_iload_n hx hb dL_law_381 rfl (lv_at hl 3 rfl) ?_
          refine lv_iconst (v := 1) hx hb dL_law_382 (by decide) ?_
          refine lv_iadd hx hb dL_law_383 ?_
          obtain ⟨g92, h⟩ := gd_e h
          refine va_sld hx hb hX hbl hbA hS (inb_vp g92) dL_law_384 ?_
          refine lv_aload_n hx hb dL_law_385 rfl (lv_at hl 0 rfl) ?_
          refine lv_iload_n hx hb dL_law_386 rfl (lv_at hl 3 rfl) ?_
          refine lv_iconst (v := 2) hx hb dL_law_387 (by decide) ?_
          refine lv_iadd hx hb dL_law_388 ?_
          obtain ⟨g93, h⟩ := gd_e h
          refine va_sld hx hb hX hbl hbA hS (inb_vp g93) dL_law_389 ?_
          obtain ⟨v94, hv94, h⟩ := bO_e h
          refine mw_callVi X (c_X8_pageOf l E hA hv94) pk_X8_pageOf pv_X8_pageOf wm_605 ⟨Nat.le_of_ble_eq_true rfl, Nat.le_of_ble_eq_true rfl⟩ ⟨rfl, rfl⟩ hP hS ix_28 rfl rfl rfl rfl hl.1 (Nat.le_of_ble_eq_true rfl) ⟨Nat.le_of_ble_eq_true rfl, Nat.le_of_ble_eq_true rfl⟩ rfl dL_law_390 (fun H locs hP hS => ?_)
          refine lv_icmp_eq (tgt := 605) hx hb dL_law_393 (by decide) (fun c95 => ?_) (fun c95 => ?_)
          · have h := br_1 h c95
            exact w_L605 _ _ _ _ _ h hP hS (lv_sub hl [0, 1, 2, 3] rfl)
          · have h := br_0 h c95
            refine lv_iconst (v := 0) hx hb dL_law_396 (by decide) ?_
            exact absurd (Option.some.inj h) (by decide)
        have h := br_0 h c88
        by_cases c96 : ((xs (y3).toNatClampNeg) &&& (31 : Int32)) = (12 : Int32)
        · have h := br_1 h c96
          refine lv_tableIn (tgt := 398) hx hb dL_law_32 (by rw [c96] <;> decide) (by rw [c96] <;> decide) (by rw [c96] <;> rfl) (by decide) ?_
          refine lv_aload_n hx hb dL_law_398 rfl (lv_at hl 1 rfl) ?_
          refine lv_aload_n hx hb dL_law_399 rfl (lv_at hl 0 rfl) ?_
          refine lv_iload_n hx hb dL_law_400 rfl (lv_at hl 3 rfl) ?_
          refine lv_iconst (v := 1) hx hb dL_law_401 (by decide) ?_
          refine lv_iadd hx hb dL_law_402 ?_
          obtain ⟨g97, h⟩ := gd_e h
          refine va_sld hx hb hX hbl hbA hS (inb_vp g97) dL_law_403 ?_
          refine lv_aload_n hx hb dL_law_404 rfl (lv_at hl 0 rfl) ?_
          refine lv_iload_n hx hb dL_law_405 rfl (lv_at hl 3 rfl) ?_
          refine lv_iconst (v := 2) hx hb dL_law_406 (by decide) ?_
          refine lv_iadd hx hb dL_law_407 ?_
          obtain ⟨g98, h⟩ := gd_e h
          refine va_sld hx hb hX hbl hbA hS (inb_vp g98) dL_law_408 ?_
          obtain ⟨v99, hv99, h⟩ := bO_e h
          refine mw_callVi X (c_X7_recordOf l E hA hv99) pk_X7_recordOf pv_X7_recordOf wm_617 ⟨Nat.le_of_ble_eq_true rfl, Nat.le_of_ble_eq_true rfl⟩ ⟨rfl, rfl⟩ hP hS ix_27 rfl rfl rfl rfl hl.1 (Nat.le_of_ble_eq_true rfl) ⟨Nat.le_of_ble_eq_true rfl, Nat.le_of_ble_eq_true rfl⟩ rfl dL_law_409 (fun H locs hP hS => ?_)
          refine lv_aload_n hx hb dL_law_412 rfl (lv_at hl 2 rfl) ?_
          refine lv_aload_n hx hb dL_law_413 rfl (lv_at hl 0 rfl) ?_
          refine lv_iload_n hx hb dL_law_414 rfl (lv_at hl 3 rfl) ?_
          refine lv_iconst (v := 1) hx hb dL_law_415 (by decide) ?_
          refine lv_iadd hx hb dL_law_416 ?_
          obtain ⟨g100, h⟩ := gd_e h
          refine va_sld hx hb hX hbl hbA hS (inb_vp g100) dL_law_417 ?_
          refine lv_aload_n hx hb dL_law_418 rfl (lv_at hl 0 rfl) ?_
          refine lv_iload_n hx hb dL_law_419 rfl (lv_at hl 3 rfl) ?_
          refine lv_iconst (v := 2) hx hb dL_law_420 (by decide) ?_
          refine lv_iadd hx hb dL_law_421 ?_
          obtain ⟨g101, h⟩ := gd_e h
          refine va_sld hx hb hX hbl hbA hS (inb_vp g101) dL_law_422 ?_
          obtain ⟨v102, hv102, h⟩ := bO_e h
          refine mw_callVi X (c_X8_recordOf l E hA hv102) pk_X8_recordOf pv_X8_recordOf wm_625 ⟨Nat.le_of_ble_eq_true rfl, Nat.le_of_ble_eq_true rfl⟩ ⟨rfl, rfl⟩ hP hS ix_28 rfl rfl rfl rfl hl.1 (Nat.le_of_ble_eq_true rfl) ⟨Nat.le_of_ble_eq_true rfl, Nat.le_of_ble_eq_true rfl⟩ rfl dL_law_423 (fun H locs hP hS => ?_)
          refine lv_icmp_eq (tgt := 605) hx hb dL_law_426 (by decide) (fun c103 => ?_) (fun c103 => ?_)
          · have h := br_1 h c103
            exact w_L605 _ _ _ _ _ h hP hS (lv_sub hl [0, 1, 2, 3] rfl)
          · have h := br_0 h c103
            refine lv_iconst (v := 0) hx hb dL_law_429 (by decide) ?_
            exact absurd (Option.some.inj h) (by decide)
        have h := br_0 h c96
        by_cases c104 : ((xs (y3).toNatClampNeg) &&& (31 : Int32)) = (13 : Int32)
        · have h := br_1 h c104
          refine lv_tableIn (tgt := 431) hx hb dL_law_32 (by rw [c104] <;> decide) (by rw [c104] <;> decide) (by rw [c104] <;> rfl) (by decide) ?_
          refine lv_aload_n hx hb dL_law_431 rfl (lv_at hl 1 rfl) ?_
          refine lv_aload_n hx hb dL_law_432 rfl (lv_at hl 0 rfl) ?_
          refine lv_iload_n hx hb dL_law_433 rfl (lv_at hl 3 rfl) ?_
          refine lv_iconst (v := 1) hx hb dL_law_434 (by decide) ?_
          refine lv_iadd hx hb dL_law_435 ?_
          obtain ⟨g105, h⟩ := gd_e h
          refine va_sld hx hb hX hbl hbA hS (inb_vp g105) dL_law_436 ?_
          refine lv_aload_n hx hb dL_law_437 rfl (lv_at hl 0 rfl) ?_
          refine lv_iload_n hx hb dL_law_438 rfl (lv_at hl 3 rfl) ?_
          refine lv_iconst (v := 2) hx hb dL_law_439 (by decide) ?_
          refine lv_iadd hx hb dL_law_440 ?_
          obtain ⟨g106, h⟩ := gd_e h
          refine va_sld hx hb hX hbl hbA hS (inb_vp g106) dL_law_441 ?_
          obtain ⟨v107, hv107, h⟩ := bO_e h
          refine mw_callVi X (c_X7_groupOf l E hA hv107) pk_X7_groupOf pv_X7_groupOf wm_633 ⟨Nat.le_of_ble_eq_true rfl, Nat.le_of_ble_eq_true rfl⟩ ⟨rfl, rfl⟩ hP hS ix_27 rfl rfl rfl rfl hl.1 (Nat.le_of_ble_eq_true rfl) ⟨Nat.le_of_ble_eq_true rfl, Nat.le_of_ble_eq_true rfl⟩ rfl dL_law_442 (fun H locs hP hS => ?_)
          refine lv_aload_n hx hb dL_law_445 rfl (lv_at hl 2 rfl) ?_
          refine lv_aload_n hx hb dL_law_446 rfl (lv_at hl 0 rfl) ?_
          refine lv_iload_n hx hb dL_law_447 rfl (lv_at hl 3 rfl) ?_
          refine lv_iconst (v := 1) hx hb dL_law_448 (by decide) ?_
          refine lv_iadd hx hb dL_law_449 ?_
          obtain ⟨g108, h⟩ := gd_e h
          refine va_sld hx hb hX hbl hbA hS (inb_vp g108) dL_law_450 ?_
          refine lv_aload_n hx hb dL_law_451 rfl (lv_at hl 0 rfl) ?_
          refine lv_iload_n hx hb dL_law_452 rfl (lv_at hl 3 rfl) ?_
          refine lv_iconst (v := 2) hx hb dL_law_453 (by decide) ?_
          refine lv_iadd hx hb dL_law_454 ?_
          obtain ⟨g109, h⟩ := gd_e h
          refine va_sld hx hb hX hbl hbA hS (inb_vp g109) dL_law_455 ?_
          obtain ⟨v110, hv110, h⟩ := bO_e h
          refine mw_callVi X (c_X8_groupOf l E hA hv110) pk_X8_groupOf pv_X8_groupOf wm_645 ⟨Nat.le_of_ble_eq_true rfl, Nat.le_of_ble_eq_true rfl⟩ ⟨rfl, rfl⟩ hP hS ix_28 rfl rfl rfl rfl hl.1 (Nat.le_of_ble_eq_true rfl) ⟨Nat.le_of_ble_eq_true rfl, Nat.le_of_ble_eq_true rfl⟩ rfl dL_law_456 (fun H locs hP hS => ?_)
          refine lv_icmp_eq (tgt := 605) hx hb dL_law_459 (by decide) (fun c111 => ?_) (fun c111 => ?_)
          · have h := br_1 h c111
            exact w_L605 _ _ _ _ _ h hP hS (lv_sub hl [0, 1, 2, 3] rfl)
          · have h := br_0 h c111
            refine lv_iconst (v := 0) hx hb dL_law_462 (by decide) ?_
            exact absurd (Option.some.inj h) (by decide)
        have h := br_0 h c104
        by_cases c112 : ((xs (y3).toNatClampNeg) &&& (31 : Int32)) = (14 : Int32)
        · have h := br_1 h c112
          refine lv_tableIn (tgt := 464) hx hb dL_law_32 (by rw [c112] <;> decide) (by rw [c112] <;> decide) (by rw [c112] <;> rfl) (by decide) ?_
          refine lv_aload_n hx hb dL_law_464 rfl (lv_at hl 1 rfl) ?_
          refine lv_aload_n hx hb dL_law_465 rfl (lv_at hl 0 rfl) ?_
          refine lv_iload_n hx hb dL_law_466 rfl (lv_at hl 3 rfl) ?_
          refine lv_iconst (v := 1) hx hb dL_law_467 (by decide) ?_
          refine lv_iadd hx hb dL_law_468 ?_
          obtain ⟨g113, h⟩ := gd_e h
          refine va_sld hx hb hX hbl hbA hS (inb_vp g113) dL_law_469 ?_
          refine lv_aload_n hx hb dL_law_470 rfl (lv_at hl 0 rfl) ?_
          refine lv_iload_n hx hb dL_law_471 rfl (lv_at hl 3 rfl) ?_
          refine lv_iconst (v := 2) hx hb dL_law_472 (by decide) ?_
          refine lv_iadd hx hb dL_law_473 ?_
          obtain ⟨g114, h⟩ := gd_e h
          refine va_sld hx hb hX hbl hbA hS (inb_vp g114) dL_law_474 ?_
          obtain ⟨v115, M116, hv115, h⟩ := bP_e h
          refine mw_callVi X (c_X7_would l E hA hv115) pk_X7_would pv_X7_would wm_649 ⟨Nat.le_of_ble_eq_true rfl, Nat.le_of_ble_eq_true rfl⟩ ⟨rfl, rfl⟩ hP hS ix_27 rfl rfl rfl rfl hl.1 (Nat.le_of_ble_eq_true rfl) ⟨Nat.le_of_ble_eq_true rfl, Nat.le_of_ble_eq_true rfl⟩ rfl dL_law_475 (fun H locs hP hS => ?_)
          refine lv_aload_n hx hb dL_law_478 rfl (lv_at hl 2 rfl) ?_
          refine lv_aload_n hx hb dL_law_479 rfl (lv_at hl 0 rfl) ?_
          refine lv_iload_n hx hb dL_law_480 rfl (lv_at hl 3 rfl) ?_
          refine lv_iconst (v := 1) hx hb dL_law_481 (by decide) ?_
          refine lv_iadd hx hb dL_law_482 ?_
          obtain ⟨g117, h⟩ := gd_e h
          refine va_sld hx hb hX hbl hbA hS (inb_vp g117) dL_law_483 ?_
          refine lv_aload_n hx hb dL_law_484 rfl (lv_at hl 0 rfl) ?_
          refine lv_iload_n hx hb dL_law_485 rfl (lv_at hl 3 rfl) ?_
          refine lv_iconst (v := 2) hx hb dL_law_486 (by decide) ?_
          refine lv_iadd hx hb dL_law_487 ?_
          obtain ⟨g118, h⟩ := gd_e h
          refine va_sld hx hb hX hbl hbA hS (inb_vp g118) dL_law_488 ?_
          obtain ⟨v119, M120, hv119, h⟩ := bP_e h
          refine mw_callVi X (c_X8_would l E hA hv119) pk_X8_would pv_X8_would wm_661 ⟨Nat.le_of_ble_eq_true rfl, Nat.le_of_ble_eq_true rfl⟩ ⟨rfl, rfl⟩ hP hS ix_28 rfl rfl rfl rfl hl.1 (Nat.le_of_ble_eq_true rfl) ⟨Nat.le_of_ble_eq_true rfl, Nat.le_of_ble_eq_true rfl⟩ rfl dL_law_489 (fun H locs hP hS => ?_)
          refine lv_icmp_eq (tgt := 605) hx hb dL_law_492 (by decide) (fun c121 => ?_) (fun c121 => ?_)
          · have h := br_1 h c121
            exact w_L605 _ _ _ _ _ h hP hS (lv_sub hl [0, 1, 2, 3] rfl)
          · have h := br_0 h c121
            refine lv_iconst (v := 0) hx hb dL_law_495 (by decide) ?_
            exact absurd (Option.some.inj h) (by decide)
        have h := br_0 h c112
        by_cases c122 : ((xs (y3).toNatClampNeg) &&& (31 : Int32)) = (15 : Int32)
        · have h := br_1 h c122
          refine lv_tableIn (tgt := 497) hx hb dL_law_32 (by rw [c122] <;> decide) (by rw [c122] <;> decide) (by rw [c122] <;> rfl) (by decide) ?_
          refine lv_aload_n hx hb dL_law_497 rfl (lv_at hl 1 rfl) ?_
          refine lv_aload_n hx hb dL_law_498 rfl (lv_at hl 0 rfl) ?_
          refine lv_iload_n hx hb dL_law_499 rfl (lv_at hl 3 rfl) ?_
          refine lv_iconst (v := 1) hx hb dL_law_500 (by decide) ?_
          refine lv_iadd hx hb dL_law_501 ?_
          obtain ⟨g123, h⟩ := gd_e h
          refine va_sld hx hb hX hbl hbA hS (inb_vp g123) dL_law_502 ?_
          obtain ⟨v124, hv124, h⟩ := bO_e h
          refine mw_callVi X (c_X7_count l E hA hv124) pk_X7_count pv_X7_count wm_668 ⟨Nat.le_of_ble_eq_true rfl, Nat.le_of_ble_eq_true rfl⟩ ⟨rfl, rfl⟩ hP hS ix_27 rfl rfl rfl rfl hl.1 (Nat.le_of_ble_eq_true rfl) ⟨Nat.le_of_ble_eq_true rfl, Nat.le_of_ble_eq_true rfl⟩ rfl dL_law_503 (fun H locs hP hS => ?_)
          refine lv_aload_n hx hb dL_law_506 rfl (lv_at hl 2 rfl) ?_
          refine lv_aload_n hx hb dL_law_507 rfl (lv_at hl 0 rfl) ?_
          refine lv_iload_n hx hb dL_law_508 rfl (lv_at hl 3 rfl) ?_
          refine lv_iconst (v := 1) hx hb dL_law_509 (by decide) ?_
          refine lv_iadd hx hb dL_law_510 ?_
          obtain ⟨g125, h⟩ := gd_e h
          refine va_sld hx hb hX hbl hbA hS (inb_vp g125) dL_law_511 ?_
          obtain ⟨v126, hv126, h⟩ := bO_e h
          refine mw_callVi X (c_X8_count l E hA hv126) pk_X8_count pv_X8_count wm_673 ⟨Nat.le_of_ble_eq_true rfl, Nat.le_of_ble_eq_true rfl⟩ ⟨rfl, rfl⟩ hP hS ix_28 rfl rfl rfl rfl hl.1 (Nat.le_of_ble_eq_true rfl) ⟨Nat.le_of_ble_eq_true rfl, Nat.le_of_ble_eq_true rfl⟩ rfl dL_law_512 (fun H locs hP hS => ?_)
          refine lv_icmp_eq (tgt := 605) hx hb dL_law_515 (by decide) (fun c127 => ?_) (fun c127 => ?_)
          · have h := br_1 h c127
            exact w_L605 _ _ _ _ _ h hP hS (lv_sub hl [0, 1, 2, 3] rfl)
          · have h := br_0 h c127
            refine lv_iconst (v := 0) hx hb dL_law_518 (by decide) ?_
            exact absurd (Option.some.inj h) (by decide)
        have h := br_0 h c122
        by_cases c128 : ((xs (y3).toNatClampNeg) &&& (31 : Int32)) = (16 : Int32)
        · have h := br_1 h c128
          refine lv_tableIn (tgt := 520) hx hb dL_law_32 (by rw [c128] <;> decide) (by rw [c128] <;> decide) (by rw [c128] <;> rfl) (by decide) ?_
          refine lv_aload_n hx hb dL_law_520 rfl (lv_at hl 1 rfl) ?_
          obtain ⟨v129, M130, hv129, h⟩ := bP_e h
          refine mw_callVi X (c_X7_undo l E hA hv129) pk_X7_undo pv_X7_undo wm_678 ⟨Nat.le_of_ble_eq_true rfl, Nat.le_of_ble_eq_true rfl⟩ ⟨rfl, rfl⟩ hP hS ix_27 rfl rfl rfl rfl hl.1 (Nat.le_of_ble_eq_true rfl) ⟨Nat.le_of_ble_eq_true rfl, Nat.le_of_ble_eq_true rfl⟩ rfl dL_law_521 (fun H locs hP hS => ?_)
          refine lv_aload_n hx hb dL_law_524 rfl (lv_at hl 2 rfl) ?_
          obtain ⟨v131, M132, hv131, h⟩ := bP_e h
          refine mw_callVi X (c_X8_undo l E hA hv131) pk_X8_undo pv_X8_undo wm_687 ⟨Nat.le_of_ble_eq_true rfl, Nat.le_of_ble_eq_true rfl⟩ ⟨rfl, rfl⟩ hP hS ix_28 rfl rfl rfl rfl hl.1 (Nat.le_of_ble_eq_true rfl) ⟨Nat.le_of_ble_eq_true rfl, Nat.le_of_ble_eq_true rfl⟩ rfl dL_law_525 (fun H locs hP hS => ?_)
          refine lv_icmp_eq (tgt := 605) hx hb dL_law_528 (by decide) (fun c133 => ?_) (fun c133 => ?_)
          · have h := br_1 h c133
            exact w_L605 _ _ _ _ _ h hP hS (lv_sub hl [0, 1, 2, 3] rfl)
          · have h := br_0 h c133
            refine lv_iconst (v := 0) hx hb dL_law_531 (by decide) ?_
            exact absurd (Option.some.inj h) (by decide)
        have h := br_0 h c128
        by_cases c134 : ((xs (y3).toNatClampNeg) &&& (31 : Int32)) = (17 : Int32)
        · have h := br_1 h c134
          refine lv_tableIn (tgt := 533) hx hb dL_law_32 (by rw [c134] <;> decide) (by rw [c134] <;> decide) (by rw [c134] <;> rfl) (by decide) ?_
          refine lv_aload_n hx hb dL_law_533 rfl (lv_at hl 1 rfl) ?_
          refine lv_aload_n hx hb dL_law_534 rfl (lv_at hl 0 rfl) ?_
          refine lv_iload_n hx hb dL_law_535 rfl (lv_at hl 3 rfl) ?_
          refine lv_iconst (v := 1) hx hb dL_law_536 (by decide) ?_
          refine lv_iadd hx hb dL_law_537 ?_
          obtain ⟨g135, h⟩ := gd_e h
          refine va_sld hx hb hX hbl hbA hS (inb_vp g135) dL_law_538 ?_
          obtain ⟨v136, M137, hv136, h⟩ := bP_e h
          refine mw_callVi X (c_X7_type l E hA hv136) pk_X7_type pv_X7_type wm_691 ⟨Nat.le_of_ble_eq_true rfl, Nat.le_of_ble_eq_true rfl⟩ ⟨rfl, rfl⟩ hP hS ix_27 rfl rfl rfl rfl hl.1 (Nat.le_of_ble_eq_true rfl) ⟨Nat.le_of_ble_eq_true rfl, Nat.le_of_ble_eq_true rfl⟩ rfl dL_law_539 (fun H locs hP hS => ?_)
          refine lv_aload_n hx hb dL_law_542 rfl (lv_at hl 2 rfl) ?_
          refine lv_aload_n hx hb dL_law_543 rfl (lv_at hl 0 rfl) ?_
          refine lv_iload_n hx hb dL_law_544 rfl (lv_at hl 3 rfl) ?_
          refine lv_iconst (v := 1) hx hb dL_law_545 (by decide) ?_
          refine lv_iadd hx hb dL_law_546 ?_
          obtain ⟨g138, h⟩ := gd_e h
          refine va_sld hx hb hX hbl hbA hS (inb_vp g138) dL_law_547 ?_
          obtain ⟨v139, M140, hv139, h⟩ := bP_e h
          refine mw_callVi X (c_X8_type l E hA hv139) pk_X8_type pv_X8_type wm_701 ⟨Nat.le_of_ble_eq_true rfl, Nat.le_of_ble_eq_true rfl⟩ ⟨rfl, rfl⟩ hP hS ix_28 rfl rfl rfl rfl hl.1 (Nat.le_of_ble_eq_true rfl) ⟨Nat.le_of_ble_eq_true rfl, Nat.le_of_ble_eq_true rfl⟩ rfl dL_law_548 (fun H locs hP hS => ?_)
          refine lv_icmp_eq (tgt := 605) hx hb dL_law_551 (by decide) (fun c141 => ?_) (fun c141 => ?_)
          · have h := br_1 h c141
            exact w_L605 _ _ _ _ _ h hP hS (lv_sub hl [0, 1, 2, 3] rfl)
          · have h := br_0 h c141
            refine lv_iconst (v := 0) hx hb dL_law_554 (by decide) ?_
            exact absurd (Option.some.inj h) (by decide)
        have h := br_0 h c134
        by_cases c142 : ((xs (y3).toNatClampNeg) &&& (31 : Int32)) = (18 : Int32)
        · have h := br_1 h c142
          refine lv_tableIn (tgt := 556) hx hb dL_law_32 (by rw [c142] <;> decide) (by rw [c142] <;> decide) (by rw [c142] <;> rfl) (by decide) ?_
          refine lv_aload_n hx hb dL_law_556 rfl (lv_at hl 1 rfl) ?_
          obtain ⟨v143, M144, hv143, h⟩ := bP_e h
          refine mw_callVi X (c_X7_clearText l E hA hv143) pk_X7_clearText pv_X7_clearText wm_705 ⟨Nat.le_of_ble_eq_true rfl, Nat.le_of_ble_eq_true rfl⟩ ⟨rfl, rfl⟩ hP hS ix_27 rfl rfl rfl rfl hl.1 (Nat.le_of_ble_eq_true rfl) ⟨Nat.le_of_ble_eq_true rfl, Nat.le_of_ble_eq_true rfl⟩ rfl dL_law_557 (fun H locs hP hS => ?_)
          refine lv_aload_n hx hb dL_law_560 rfl (lv_at hl 2 rfl) ?_
          obtain ⟨v145, M146, hv145, h⟩ := bP_e h
          refine mw_callVi X (c_X8_clearText l E hA hv145) pk_X8_clearText pv_X8_clearText wm_713 ⟨Nat.le_of_ble_eq_true rfl, Nat.le_of_ble_eq_true rfl⟩ ⟨rfl, rfl⟩ hP hS ix_28 rfl rfl rfl rfl hl.1 (Nat.le_of_ble_eq_true rfl) ⟨Nat.le_of_ble_eq_true rfl, Nat.le_of_ble_eq_true rfl⟩ rfl dL_law_561 (fun H locs hP hS => ?_)
          refine lv_icmp_eq (tgt := 605) hx hb dL_law_564 (by decide) (fun c147 => ?_) (fun c147 => ?_)
          · have h := br_1 h c147
            exact w_L605 _ _ _ _ _ h hP hS (lv_sub hl [0, 1, 2, 3] rfl)
          · have h := br_0 h c147
            refine lv_iconst (v := 0) hx hb dL_law_567 (by decide) ?_
            exact absurd (Option.some.inj h) (by decide)
        have h := br_0 h c142
        by_cases c148 : ((xs (y3).toNatClampNeg) &&& (31 : Int32)) = (19 : Int32)
        · have h := br_1 h c148
          refine lv_tableIn (tgt := 569) hx hb dL_law_32 (by rw [c148] <;> decide) (by rw [c148] <;> decide) (by rw [c148] <;> rfl) (by decide) ?_
          refine lv_aload_n hx hb dL_law_569 rfl (lv_at hl 1 rfl) ?_
          refine lv_aload_n hx hb dL_law_570 rfl (lv_at hl 0 rfl) ?_
          refine lv_iload_n hx hb dL_law_571 rfl (lv_at hl 3 rfl) ?_
          refine lv_iconst (v := 1) hx hb dL_law_572 (by decide) ?_
          refine lv_iadd hx hb dL_law_573 ?_
          obtain ⟨g149, h⟩ := gd_e h
          refine va_sld hx hb hX hbl hbA hS (inb_vp g149) dL_law_574 ?_
          obtain ⟨v150, M151, hv150, h⟩ := bP_e h
          refine mw_callVi X (c_X7_fault l E hA hv150) pk_X7_fault pv_X7_fault wm_717 ⟨Nat.le_of_ble_eq_true rfl, Nat.le_of_ble_eq_true rfl⟩ ⟨rfl, rfl⟩ hP hS ix_27 rfl rfl rfl rfl hl.1 (Nat.le_of_ble_eq_true rfl) ⟨Nat.le_of_ble_eq_true rfl, Nat.le_of_ble_eq_true rfl⟩ rfl dL_law_575 (fun H locs hP hS => ?_)
          refine lv_aload_n hx hb dL_law_578 rfl (lv_at hl 2 rfl) ?_
          refine lv_aload_n hx hb dL_law_579 rfl (lv_at hl 0 rfl) ?_
          refine lv_iload_n hx hb dL_law_580 rfl (lv_at hl 3 rfl) ?_
          refine lv_iconst (v := 1) hx hb dL_law_581 (by decide) ?_
          refine lv_iadd hx hb dL_law_582 ?_
          obtain ⟨g152, h⟩ := gd_e h
          refine va_sld hx hb hX hbl hbA hS (inb_vp g152) dL_law_583 ?_
          obtain ⟨v153, M154, hv153, h⟩ := bP_e h
          refine mw_callVi X (c_X8_fault l E hA hv153) pk_X8_fault pv_X8_fault wm_770 ⟨Nat.le_of_ble_eq_true rfl, Nat.le_of_ble_eq_true rfl⟩ ⟨rfl, rfl⟩ hP hS ix_28 rfl rfl rfl rfl hl.1 (Nat.le_of_ble_eq_true rfl) ⟨Nat.le_of_ble_eq_true rfl, Nat.le_of_ble_eq_true rfl⟩ rfl dL_law_584 (fun H locs hP hS => ?_)
          refine lv_icmp_eq (tgt := 605) hx hb dL_law_587 (by decide) (fun c155 => ?_) (fun c155 => ?_)
          · have h := br_1 h c155
            exact w_L605 _ _ _ _ _ h hP hS (lv_sub hl [0, 1, 2, 3] rfl)
          · have h := br_0 h c155
            refine lv_iconst (v := 0) hx hb dL_law_590 (by decide) ?_
            exact absurd (Option.some.inj h) (by decide)
        have h := br_0 h c148
        by_cases c156 : ((xs (y3).toNatClampNeg) &&& (31 : Int32)) = (20 : Int32)
        · have h := br_1 h c156
          refine lv_tableIn (tgt := 592) hx hb dL_law_32 (by rw [c156] <;> decide) (by rw [c156] <;> decide) (by rw [c156] <;> rfl) (by decide) ?_
          refine lv_aload_n hx hb dL_law_592 rfl (lv_at hl 1 rfl) ?_
          obtain ⟨v157, M158, hv157, h⟩ := bP_e h
          refine mw_callVi X (c_X7_play l E hA hv157) pk_X7_play pv_X7_play wm_806 ⟨Nat.le_of_ble_eq_true rfl, Nat.le_of_ble_eq_true rfl⟩ ⟨rfl, rfl⟩ hP hS ix_27 rfl rfl rfl rfl hl.1 (Nat.le_of_ble_eq_true rfl) ⟨Nat.le_of_ble_eq_true rfl, Nat.le_of_ble_eq_true rfl⟩ rfl dL_law_593 (fun H locs hP hS => ?_)
          refine lv_aload_n hx hb dL_law_596 rfl (lv_at hl 2 rfl) ?_
          obtain ⟨v159, M160, hv159, h⟩ := bP_e h
          refine mw_callVi X (c_X8_play l E hA hv159) pk_X8_play pv_X8_play wm_810 ⟨Nat.le_of_ble_eq_true rfl, Nat.le_of_ble_eq_true rfl⟩ ⟨rfl, rfl⟩ hP hS ix_28 rfl rfl rfl rfl hl.1 (Nat.le_of_ble_eq_true rfl) ⟨Nat.le_of_ble_eq_true rfl, Nat.le_of_ble_eq_true rfl⟩ rfl dL_law_597 (fun H locs hP hS => ?_)
          refine lv_icmp_eq (tgt := 605) hx hb dL_law_600 (by decide) (fun c161 => ?_) (fun c161 => ?_)
          · have h := br_1 h c161
            exact w_L605 _ _ _ _ _ h hP hS (lv_sub hl [0, 1, 2, 3] rfl)
          · have h := br_0 h c161
            refine lv_iconst (v := 0) hx hb dL_law_603 (by decide) ?_
            exact absurd (Option.some.inj h) (by decide)
        have h := br_0 h c156
        have qc3 := sw_ne c3 (v := 0) rfl
        have qc12 := sw_ne c12 (v := 1) rfl
        have qc24 := sw_ne c24 (v := 2) rfl
        have qc32 := sw_ne c32 (v := 3) rfl
        have qc40 := sw_ne c40 (v := 4) rfl
        have qc48 := sw_ne c48 (v := 5) rfl
        have qc56 := sw_ne c56 (v := 6) rfl
        have qc62 := sw_ne c62 (v := 7) rfl
        have qc68 := sw_ne c68 (v := 8) rfl
        have qc74 := sw_ne c74 (v := 9) rfl
        have qc82 := sw_ne c82 (v := 10) rfl
        have qc88 := sw_ne c88 (v := 11) rfl
        have qc96 := sw_ne c96 (v := 12) rfl
        have qc104 := sw_ne c104 (v := 13) rfl
        have qc112 := sw_ne c112 (v := 14) rfl
        have qc122 := sw_ne c122 (v := 15) rfl
        have qc128 := sw_ne c128 (v := 16) rfl
        have qc134 := sw_ne c134 (v := 17) rfl
        have qc142 := sw_ne c142 (v := 18) rfl
        have qc148 := sw_ne c148 (v := 19) rfl
        have qc156 := sw_ne c156 (v := 20) rfl
        refine lv_tableOut (tgt := 605) hx hb dL_law_32 (by omega) (by decide) ?_
        exact w_L605 _ _ _ _ _ h hP hS (lv_sub hl [0, 1, 2, 3] rfl)
  unfold f_L_law at h
  refine lv_iconst (v := 0) hx hb dL_law_16 (by decide) ?_
  refine lv_istore_n (lv' := [(3, .int (0 : Int32)), (0, .ref b), (1, .ref (E.2.2 10 27)), (2, .ref (E.2.2 11 28))]) hx hb dL_law_17 rfl hl (by decide) rfl (fun ls hl => ?_)
  exact w_L18 FU _ _ _ _ _ h hP hS (lv_sub hl [1, 2, 3, 0] rfl)
