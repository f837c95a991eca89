noncomputable def f_L_law_L219 (xs : Nat → Int32) (L : Nat) (M : Mem) (y7 : Int32) : Option Int32 :=
(if y7 = 0 then
some (0 : Int32)
else
bO (f_X7_count M (13 : Int32)) (fun v9 =>
(if v9 = (-1000001 : Int32) then
bO (f_X7_count M (-1 : Int32)) (fun v11 =>
(if v11 = (-1000001 : Int32) then
bO (f_X7_pageOf M (8 : Int32) (0 : Int32)) (fun v13 =>
(if v13 = (-1000001 : Int32) then
bO (f_X7_groupOf M (4 : Int32) (0 : Int32)) (fun v15 =>
(if v15 = (-1000001 : Int32) then
some (1 : Int32)
else
some (0 : Int32)))
else
some (0 : Int32)))
else
some (0 : Int32)))
else
some (0 : Int32))))
noncomputable def f_L_law_L211 (xs : Nat → Int32) (L : Nat) (K98 : Mem → Int32 → Int32 → Int32 → Option Int32) (M : Mem) (y8 y9 z0 : Int32) : Option Int32 :=
bd (y9 + (1 : Int32)) (fun x24 =>
K98 M z0 y8 x24)
noncomputable def f_L_law_L210 (xs : Nat → Int32) (L : Nat) (K98 : Mem → Int32 → Int32 → Int32 → Option Int32) (M : Mem) (y8 y9 : Int32) : Option Int32 :=
f_L_law_L211 xs L K98 M y8 y9 (0 : Int32)
noncomputable def f_L_law_L175 (xs : Nat → Int32) (L : Nat) (K98 : Mem → Int32 → Int32 → Int32 → Option Int32) (M : Mem) (y8 y9 y10 z0 : Int32) : Option Int32 :=
bP (f_L_acts M z0) (fun v21 M22 =>
(if v21 = 0 then
f_L_law_L210 xs L K98 M22 y8 y9
else
bO (f_L_low M22 (y10 >>> ((3 : Int32) &&& 31)) (1000 : Int32)) (fun v25 =>
bO (f_L_isSo M22 v25) (fun v26 =>
(if v26 = 0 then
f_L_law_L210 xs L K98 M22 y8 y9
else
f_L_law_L211 xs L K98 M22 y8 y9 (1 : Int32))))))
noncomputable def f_L_law_L169 (xs : Nat → Int32) (L : Nat) (K98 : Mem → Int32 → Int32 → Int32 → Option Int32) (M : Mem) (y8 y9 y10 z0 z1 : Int32) : Option Int32 :=
f_L_law_L175 xs L K98 M y8 y9 y10 (z1 + z0)
noncomputable def f_L_law_L98 (xs : Nat → Int32) (L : Nat) (K98 : Mem → Int32 → Int32 → Int32 → Option Int32) (M : Mem) (y7 y8 y9 : Int32) : Option Int32 :=
(if y8 ≤ y9 then
f_L_law_L219 xs L M y7
else
(if y7 = 0 then
f_L_law_L219 xs L M y7
else
bO (f_L_cell xs L M ((1 : Int32) + y9)) (fun v18 =>
bd ((v18 ^^^ ((7919 : Int32) * y9))) (fun x19 =>
(if (4 : Int32) ≤ y9 then
f_L_law_L175 xs L K98 M y8 y9 x19 x19
else
bO (f_L_low M x19 (10000000 : Int32)) (fun v28 =>
gd (¬ (960 : Int32) = 0) (
(if (2 : Int32) ≤ y9 then
f_L_law_L169 xs L K98 M y8 y9 x19 (6 : Int32) ((v28 / (960 : Int32)) * (960 : Int32))
else
f_L_law_L169 xs L K98 M y8 y9 x19 (0 : Int32) ((v28 / (960 : Int32)) * (960 : Int32))))))))))
noncomputable def f_L_law_L78 (xs : Nat → Int32) (L : Nat) (M : Mem) (z0 : Int32) : Option Int32 :=
bO (f_L_cell xs L M (0 : Int32)) (fun v4 =>
bO (f_L_low M v4 (48 : Int32)) (fun v5 =>
bd (((16 : Int32) + v5)) (fun x6 =>
itr (f_L_law_L98 xs L) (fun _ _ _ _ => none) FU M z0 x6 (0 : Int32))))
noncomputable def f_L_law_L77 (xs : Nat → Int32) (L : Nat) (M : Mem) : Option Int32 :=
f_L_law_L78 xs L M (0 : Int32)
noncomputable def f_L_law (xs : Nat → Int32) (L : Nat) (M : Mem) : Option Int32 :=
bd (st M 11 28 0 (1 : Int32)) (fun M1 =>
bO (f_L_isSo M1 (0 : Int32)) (fun v2 =>
(if v2 = 0 then
f_L_law_L77 xs L M1
else
bP (f_X7_restart M1) (fun v31 M32 =>
(if v31 = (-1000002 : Int32) then
bP (f_X7_dropRecords M32) (fun v34 M35 =>
(if v34 = (-1000002 : Int32) then
f_L_law_L78 xs L M35 (1 : Int32)
else
f_L_law_L77 xs L M35))
else
f_L_law_L77 xs L M32)))))
set_option maxHeartbeats 16000000 in
set_option maxRecDepth 100000 in
theorem law_run {p : Program} {e : Env} {s : State} {m : MethodId} {below : List Frame} {meth : Method} {c : Code} (l : Launch) (E : En) (hA : AdOK E) (hτ : tau E = 0) {b L : Nat} {xs : Nat → Int32} {M : Mem} (h : f_L_law xs L M = some 1) (X : Cx E (fun q : Nat => s.heap.size ≤ q) p s m c #[Value.ref b] cL_law 11 RL) (hr : meth.sig.returnType = ret) (hlocks : meth.locks = false) (hX : va_X b L xs s s.heap) (hbl : b < s.heap.size) {H : Heap} {locs : List Loc} {ls : Array Slot} {cs sl : Nat} (hCS : cs ≤ 1000 ∧ sl ≤ 10000) (hP : va_P E.1 vwCl (wl E M) H) (hS : va_S (fun q : Nat => s.heap.size ≤ q) s.heap H locs) (hl : lv_has ls 11 [(0, .ref b), (1, .ref (E.2.2 10 27)), (2, .ref (E.2.2 11 28)), (3, .ref (E.2.2 11 29)), (4, .ref (E.2.2 11 30)), (5, .ref (E.2.2 11 31)), (6, .ref (E.2.2 11 32))]) : W p l e room_1 s m #[Value.ref b] below meth c H locs cs sl (lw_Z below #[Value.ref b] s) (F0 m 35 ls []) := by
  have hFU : FU = 10000 := rfl
  have hx := X.1.1
  have hb := X.1.2.1
  have hbA : ¬ (fun q : Nat => s.heap.size ≤ q) b := Nat.not_le.mpr hbl
  have hAA : ∀ x : Nat, s.heap.size ≤ x → (fun q : Nat => s.heap.size ≤ q) x := fun _ h => h
  have w_L219 : ∀ (cs sl : Nat) (M : Mem) (y7 : Int32) (H : Heap) (locs : List Loc) (ls : Array Slot) (hCS : cs ≤ 600000 ∧ sl ≤ 7302250), f_L_law_L219 xs L  M y7 = some 1 → va_P E.1 vwCl (wl E M) H → va_S (fun q : Nat => s.heap.size ≤ q) s.heap H locs → lv_has ls 11 [(1, .ref (E.2.2 10 27)), (7, .int y7)] → W p l e room_1 s m #[Value.ref b] below meth c H locs cs sl (lw_Z below #[Value.ref b] s) (F0 m 219 ls []) := by
    intro cs sl M y7 H locs ls hCS h hP hS hl
    unfold f_L_law_L219 at h
    refine lv_iload hx hb dL_law_219 (lv_at hl 1 rfl) ?_
    refine lv_if_eq (tgt := 272) hx hb dL_law_221 (by decide) (fun c8 => ?_) (fun c8 => ?_)
    · have h := br_1 h c8
      refine lv_iconst (v := 0) hx hb dL_law_272 (by decide) ?_
      exact absurd (Option.some.inj h) (by decide)
    · have h := br_0 h c8
      refine lv_aload_n hx hb dL_law_224 rfl (lv_at hl 0 rfl) ?_
      refine lv_bipush (v := 13) hx hb dL_law_225 (by decide) ?_
      obtain ⟨v9, hv9, h⟩ := bO_e h
      refine mw_callVi X (c_X7_count l E hA hv9) pk_X7_count pv_X7_count wm_195 ⟨Nat.le_of_ble_eq_true rfl, Nat.le_of_ble_eq_true rfl⟩ ⟨rfl, rfl⟩ hP hS ix_27 rfl rfl rfl rfl hl.1 (Nat.le_of_ble_eq_true rfl) ⟨show _ ≤ 600000 by omega, show _ ≤ 7302250 by omega⟩ rfl dL_law_227 (fun H locs hP hS => ?_)
      refine lv_ldc hx hb X.1.2.2.2.1 (X.1.2.2.2.2 _ wm_7) dL_law_230 ?_
      refine lv_icmp_ne (tgt := 272) hx hb dL_law_232 (by decide) (fun c10 => ?_) (fun c10 => ?_)
      · have h := br_0 h c10
        refine lv_iconst (v := 0) hx hb dL_law_272 (by decide) ?_
        exact absurd (Option.some.inj h) (by decide)
      · have h := br_1 h c10
        refine lv_aload_n hx hb dL_law_235 rfl (lv_at hl 0 rfl) ?_
        refine lv_iconst (v := -1) hx hb dL_law_236 (by decide) ?_
        obtain ⟨v11, hv11, h⟩ := bO_e h
        refine mw_callVi X (c_X7_count l E hA hv11) pk_X7_count pv_X7_count wm_195 ⟨Nat.le_of_ble_eq_true rfl, Nat.le_of_ble_eq_true rfl⟩ ⟨rfl, rfl⟩ hP hS ix_27 rfl rfl rfl rfl hl.1 (Nat.le_of_ble_eq_true rfl) ⟨show _ ≤ 600000 by omega, show _ ≤ 7302250 by omega⟩ rfl dL_law_237 (fun H locs hP hS => ?_)
        refine lv_ldc hx hb X.1.2.2.2.1 (X.1.2.2.2.2 _ wm_7) dL_law_240 ?_
        refine lv_icmp_ne (tgt := 272) hx hb dL_law_242 (by decide) (fun c12 => ?_) (fun c12 => ?_)
        · have h := br_0 h c12
          refine lv_iconst (v := 0) hx hb dL_law_272 (by decide) ?_
          exact absurd (Option.some.inj h) (by decide)
        · have h := br_1 h c12
          refine lv_aload_n hx hb dL_law_245 rfl (lv_at hl 0 rfl) ?_
          refine lv_bipush (v := 8) hx hb dL_law_246 (by decide) ?_
          refine lv_iconst (v := 0) hx hb dL_law_248 (by decide) ?_
          obtain ⟨v13, hv13, h⟩ := bO_e h
          refine mw_callVi X (c_X7_pageOf l E hA hv13) pk_X7_pageOf pv_X7_pageOf wm_101 ⟨Nat.le_of_ble_eq_true rfl, Nat.le_of_ble_eq_true rfl⟩ ⟨rfl, rfl⟩ hP hS ix_27 rfl rfl rfl rfl hl.1 (Nat.le_of_ble_eq_true rfl) ⟨show _ ≤ 600000 by omega, show _ ≤ 7302250 by omega⟩ rfl dL_law_249 (fun H locs hP hS => ?_)
          refine lv_ldc hx hb X.1.2.2.2.1 (X.1.2.2.2.2 _ wm_7) dL_law_252 ?_
          refine lv_icmp_ne (tgt := 272) hx hb dL_law_254 (by decide) (fun c14 => ?_) (fun c14 => ?_)
          · have h := br_0 h c14
            refine lv_iconst (v := 0) hx hb dL_law_272 (by decide) ?_
            exact absurd (Option.some.inj h) (by decide)
          · have h := br_1 h c14
            refine lv_aload_n hx hb dL_law_257 rfl (lv_at hl 0 rfl) ?_
            refine lv_iconst (v := 4) hx hb dL_law_258 (by decide) ?_
            refine lv_iconst (v := 0) hx hb dL_law_259 (by decide) ?_
            obtain ⟨v15, hv15, h⟩ := bO_e h
            refine mw_callVi X (c_X7_groupOf l E hA hv15) pk_X7_groupOf pv_X7_groupOf wm_145 ⟨Nat.le_of_ble_eq_true rfl, Nat.le_of_ble_eq_true rfl⟩ ⟨rfl, rfl⟩ hP hS ix_27 rfl rfl rfl rfl hl.1 (Nat.le_of_ble_eq_true rfl) ⟨show _ ≤ 600000 by omega, show _ ≤ 7302250 by omega⟩ rfl dL_law_260 (fun H locs hP hS => ?_)
            refine lv_ldc hx hb X.1.2.2.2.1 (X.1.2.2.2.2 _ wm_7) dL_law_263 ?_
            refine lv_icmp_ne (tgt := 272) hx hb dL_law_265 (by decide) (fun c16 => ?_) (fun c16 => ?_)
            · have h := br_0 h c16
              refine lv_iconst (v := 0) hx hb dL_law_272 (by decide) ?_
              exact absurd (Option.some.inj h) (by decide)
            · have h := br_1 h c16
              refine lv_iconst (v := 1) hx hb dL_law_268 (by decide) ?_
              refine lv_goto (tgt := 273) hx hb dL_law_269 (by decide) ?_
              refine va_forget (fun q hq => hS.2.2 q hq) ?_
              refine W.widen (k := 600000) (n := 7302250) (by omega) (by omega) ?_
              exact lw_ret hx hb hr hlocks dL_law_273
  have w_L98 : ∀ (n98 : Nat) (cs sl : Nat) (M : Mem) (y7 y8 y9 : Int32) (H : Heap) (locs : List Loc) (ls : Array Slot) (hCS : cs + 2 * n98 ≤ 600000 ∧ sl + 10 * n98 ≤ 7302250), itr (f_L_law_L98 xs L) (fun _ _ _ _ => none) n98 M y7 y8 y9 = some 1 → va_P E.1 vwCl (wl E M) H → va_S (fun q : Nat => s.heap.size ≤ q) s.heap H locs → lv_has ls 11 [(0, .ref b), (1, .ref (E.2.2 10 27)), (2, .ref (E.2.2 11 28)), (3, .ref (E.2.2 11 29)), (4, .ref (E.2.2 11 30)), (5, .ref (E.2.2 11 31)), (6, .ref (E.2.2 11 32)), (7, .int y7), (8, .int y8), (9, .int y9)] → W p l e room_1 s m #[Value.ref b] below meth c H locs cs sl (lw_Z below #[Value.ref b] s) (F0 m 98 ls []) := by
    intro n98
    induction n98 with
    | zero => intro cs sl M y7 y8 y9 H locs ls hCS h; exact (nomatch (show (none : Option Int32) = some _ from h))
    | succ n98 ih98 =>
      intro cs sl M y7 y8 y9 H locs ls hCS h hP hS hl
      have h : f_L_law_L98 xs L (itr (f_L_law_L98 xs L) (fun _ _ _ _ => none) n98) M y7 y8 y9 = some 1 := h
      have w_L211 : ∀ (cs sl : Nat) (M : Mem) (y8 y9 z0 : Int32) (H : Heap) (locs : List Loc) (ls : Array Slot) (hCS : cs + 2 * n98 ≤ 600000 ∧ sl + 10 * n98 ≤ 7302250), f_L_law_L211 xs L (itr (f_L_law_L98 xs L) (fun _ _ _ _ => none) n98) M y8 y9 z0 = some 1 → va_P E.1 vwCl (wl E M) H → va_S (fun q : Nat => s.heap.size ≤ q) s.heap H locs → lv_has ls 11 [(0, .ref b), (1, .ref (E.2.2 10 27)), (2, .ref (E.2.2 11 28)), (3, .ref (E.2.2 11 29)), (4, .ref (E.2.2 11 30)), (5, .ref (E.2.2 11 31)), (6, .ref (E.2.2 11 32)), (8, .int y8), (9, .int y9)] → W p l e room_1 s m #[Value.ref b] below meth c H locs cs sl (lw_Z below #[Value.ref b] s) (F0 m 211 ls [.int z0]) := by
        intro cs sl M y8 y9 z0 H locs ls hCS h hP hS hl
        unfold f_L_law_L211 at h
        refine lv_istore (lv' := [(7, .int z0), (0, .ref b), (1, .ref (E.2.2 10 27)), (2, .ref (E.2.2 11 28)), (3, .ref (E.2.2 11 29)), (4, .ref (E.2.2 11 30)), (5, .ref (E.2.2 11 31)), (6, .ref (E.2.2 11 32)), (8, .int y8), (9, .int y9)]) hx hb dL_law_211 hl (by decide) rfl (fun ls hl => ?_)
        obtain ⟨x24, ex24⟩ : ∃ y : Int32, y = y9 + (1 : Int32) := ⟨_, rfl⟩
        have h := bd_e h ex24
        refine lv_iinc (v := x24) (lv' := [(9, .int x24), (7, .int z0), (0, .ref b), (1, .ref (E.2.2 10 27)), (2, .ref (E.2.2 11 28)), (3, .ref (E.2.2 11 29)), (4, .ref (E.2.2 11 30)), (5, .ref (E.2.2 11 31)), (6, .ref (E.2.2 11 32)), (8, .int y8)]) hx hb dL_law_213 hl (k := 9) rfl (by rw [ex24]; rfl) (by decide) rfl (fun ls hl => ?_)
        refine lv_goto (tgt := 98) hx hb dL_law_216 (by decide) ?_
        exact ih98 _ _ _ _ _ _ _ _ _ (by omega) h hP hS (lv_sub hl [2, 3, 4, 5, 6, 7, 8, 1, 9, 0] rfl)
      have w_L210 : ∀ (cs sl : Nat) (M : Mem) (y8 y9 : Int32) (H : Heap) (locs : List Loc) (ls : Array Slot) (hCS : cs + 2 * n98 ≤ 600000 ∧ sl + 10 * n98 ≤ 7302250), f_L_law_L210 xs L (itr (f_L_law_L98 xs L) (fun _ _ _ _ => none) n98) M y8 y9 = some 1 → va_P E.1 vwCl (wl E M) H → va_S (fun q : Nat => s.heap.size ≤ q) s.heap H locs → lv_has ls 11 [(0, .ref b), (1, .ref (E.2.2 10 27)), (2, .ref (E.2.2 11 28)), (3, .ref (E.2.2 11 29)), (4, .ref (E.2.2 11 30)), (5, .ref (E.2.2 11 31)), (6, .ref (E.2.2 11 32)), (8, .int y8), (9, .int y9)] → W p l e room_1 s m #[Value.ref b] below meth c H locs cs sl (lw_Z below #[Value.ref b] s) (F0 m 210 ls []) := by
        intro cs sl M y8 y9 H locs ls hCS h hP hS hl
        unfold f_L_law_L210 at h
        refine lv_iconst (v := 0) hx hb dL_law_210 (by decide) ?_
        exact w_L211 _ _ _ _ _ _ _ _ _ (by omega) h hP hS (lv_sub hl [0, 1, 2, 3, 4, 5, 6, 7, 8] rfl)
      have w_L175 : ∀ (cs sl : Nat) (M : Mem) (y8 y9 y10 z0 : Int32) (H : Heap) (locs : List Loc) (ls : Array Slot) (hCS : cs + 2 * n98 + 2 ≤ 600000 ∧ sl + 10 * n98 + 10 ≤ 7302250), f_L_law_L175 xs L (itr (f_L_law_L98 xs L) (fun _ _ _ _ => none) n98) M y8 y9 y10 z0 = some 1 → va_P E.1 vwCl (wl E M) H → va_S (fun q : Nat => s.heap.size ≤ q) s.heap H locs → lv_has ls 11 [(0, .ref b), (1, .ref (E.2.2 10 27)), (2, .ref (E.2.2 11 28)), (3, .ref (E.2.2 11 29)), (4, .ref (E.2.2 11 30)), (5, .ref (E.2.2 11 31)), (6, .ref (E.2.2 11 32)), (8, .int y8), (9, .int y9), (10, .int y10)] → W p l e room_1 s m #[Value.ref b] below meth c H locs cs sl (lw_Z below #[Value.ref b] s) (F0 m 175 ls [.int z0, .ref (E.2.2 11 32), .ref (E.2.2 11 31), .ref (E.2.2 11 30), .ref (E.2.2 11 29), .ref (E.2.2 11 28), .ref (E.2.2 10 27)]) := by
        intro cs sl M y8 y9 y10 z0 H locs ls hCS h hP hS hl
        unfold f_L_law_L175 at h
        obtain ⟨v21, M22, hv21, h⟩ := bP_e h
        refine mw_callSx X hAA (c_L_acts l E hA H.size hτ hv21) pk_L_acts wm_371 wm_370 ⟨Nat.le_of_ble_eq_true rfl, Nat.le_of_ble_eq_true rfl⟩ ⟨rfl, rfl⟩ hP hS rfl hl.1 (Nat.le_of_ble_eq_true rfl) ⟨show _ ≤ 600000 by omega, show _ ≤ 7302250 by omega⟩ rfl dL_law_175 (fun H locs hP hS => ?_)
        refine lv_if_eq (tgt := 210) hx hb dL_law_178 (by decide) (fun c23 => ?_) (fun c23 => ?_)
        · have h := br_1 h c23
          exact w_L210 _ _ _ _ _ _ _ _ (by omega) h hP hS (lv_sub hl [0, 1, 2, 3, 4, 5, 6, 7, 8] rfl)
        · have h := br_0 h c23
          refine lv_aload_n hx hb dL_law_181 rfl (lv_at hl 1 rfl) ?_
          refine lv_aload_n hx hb dL_law_182 rfl (lv_at hl 2 rfl) ?_
          refine lv_aload_n hx hb dL_law_183 rfl (lv_at hl 3 rfl) ?_
          refine lv_aload hx hb dL_law_184 (lv_at hl 4 rfl) ?_
          refine lv_aload hx hb dL_law_186 (lv_at hl 5 rfl) ?_
          refine lv_aload hx hb dL_law_188 (lv_at hl 6 rfl) ?_
          refine lv_iload hx hb dL_law_190 (lv_at hl 9 rfl) ?_
          refine lv_iconst (v := 3) hx hb dL_law_192 (by decide) ?_
          refine lv_ishr hx hb dL_law_193 ?_
          refine lv_sipush (v := 1000) hx hb dL_law_194 (by decide) ?_
          obtain ⟨v25, hv25, h⟩ := bO_e h
          refine mw_callSi X (c_L_low l E hA hv25) pk_L_low wm_367 wm_366 ⟨Nat.le_of_ble_eq_true rfl, Nat.le_of_ble_eq_true rfl⟩ ⟨rfl, rfl⟩ hP hS rfl hl.1 (Nat.le_of_ble_eq_true rfl) ⟨show _ ≤ 600000 by omega, show _ ≤ 7302250 by omega⟩ rfl dL_law_197 (fun H locs hP hS => ?_)
          obtain ⟨v26, hv26, h⟩ := bO_e h
          refine mw_callSi X (c_L_isSo l E hA hv26) pk_L_isSo wm_88 wm_87 ⟨Nat.le_of_ble_eq_true rfl, Nat.le_of_ble_eq_true rfl⟩ ⟨rfl, rfl⟩ hP hS rfl hl.1 (Nat.le_of_ble_eq_true rfl) ⟨show _ ≤ 600000 by omega, show _ ≤ 7302250 by omega⟩ rfl dL_law_200 (fun H locs hP hS => ?_)
          refine lv_if_eq (tgt := 210) hx hb dL_law_203 (by decide) (fun c27 => ?_) (fun c27 => ?_)
          · have h := br_1 h c27
            exact w_L210 _ _ _ _ _ _ _ _ (by omega) h hP hS (lv_sub hl [0, 1, 2, 3, 4, 5, 6, 7, 8] rfl)
          · have h := br_0 h c27
            refine lv_iconst (v := 1) hx hb dL_law_206 (by decide) ?_
            refine lv_goto (tgt := 211) hx hb dL_law_207 (by decide) ?_
            exact w_L211 _ _ _ _ _ _ _ _ _ (by omega) h hP hS (lv_sub hl [0, 1, 2, 3, 4, 5, 6, 7, 8] rfl)
      have w_L169 : ∀ (cs sl : Nat) (M : Mem) (y8 y9 y10 z0 z1 : Int32) (H : Heap) (locs : List Loc) (ls : Array Slot) (hCS : cs + 2 * n98 + 2 ≤ 600000 ∧ sl + 10 * n98 + 10 ≤ 7302250), f_L_law_L169 xs L (itr (f_L_law_L98 xs L) (fun _ _ _ _ => none) n98) M y8 y9 y10 z0 z1 = some 1 → va_P E.1 vwCl (wl E M) H → va_S (fun q : Nat => s.heap.size ≤ q) s.heap H locs → lv_has ls 11 [(0, .ref b), (1, .ref (E.2.2 10 27)), (2, .ref (E.2.2 11 28)), (3, .ref (E.2.2 11 29)), (4, .ref (E.2.2 11 30)), (5, .ref (E.2.2 11 31)), (6, .ref (E.2.2 11 32)), (8, .int y8), (9, .int y9), (10, .int y10)] → W p l e room_1 s m #[Value.ref b] below meth c H locs cs sl (lw_Z below #[Value.ref b] s) (F0 m 169 ls [.int z0, .int z1, .ref (E.2.2 11 32), .ref (E.2.2 11 31), .ref (E.2.2 11 30), .ref (E.2.2 11 29), .ref (E.2.2 11 28), .ref (E.2.2 10 27)]) := by
        intro cs sl M y8 y9 y10 z0 z1 H locs ls hCS h hP hS hl
        unfold f_L_law_L169 at h
        refine lv_iadd hx hb dL_law_169 ?_
        refine lv_goto (tgt := 175) hx hb dL_law_170 (by decide) ?_
        exact w_L175 _ _ _ _ _ _ _ _ _ _ (by omega) h hP hS (lv_sub hl [0, 1, 2, 3, 4, 5, 6, 7, 8, 9] rfl)
      unfold f_L_law_L98 at h
      refine lv_iload hx hb dL_law_98 (lv_at hl 9 rfl) ?_
      refine lv_iload hx hb dL_law_100 (lv_at hl 8 rfl) ?_
      refine lv_icmp_ge (tgt := 219) hx hb dL_law_102 (by decide) (fun c7 => ?_) (fun c7 => ?_)
      · have h := br_1 h c7
        exact w_L219 _ _ _ _ _ _ _ (by omega) h hP hS (lv_sub hl [1, 7] rfl)
      · have h := br_0 h c7
        refine lv_iload hx hb dL_law_105 (lv_at hl 7 rfl) ?_
        refine lv_if_eq (tgt := 219) hx hb dL_law_107 (by decide) (fun c17 => ?_) (fun c17 => ?_)
        · have h := br_1 h c17
          exact w_L219 _ _ _ _ _ _ _ (by omega) h hP hS (lv_sub hl [1, 7] rfl)
        · have h := br_0 h c17
          refine lv_aload_n hx hb dL_law_110 rfl (lv_at hl 0 rfl) ?_
          refine lv_iconst (v := 1) hx hb dL_law_111 (by decide) ?_
          refine lv_iload hx hb dL_law_112 (lv_at hl 9 rfl) ?_
          refine lv_iadd hx hb dL_law_114 ?_
          obtain ⟨v18, hv18, h⟩ := bO_e h
          refine mw_callSc X (c_L_cell l E hA hv18) pk_L_cell wm_363 wm_362 ⟨Nat.le_of_ble_eq_true rfl, Nat.le_of_ble_eq_true rfl⟩ ⟨rfl, rfl⟩ hX hbl hbA hP hS rfl hl.1 (Nat.le_of_ble_eq_true rfl) ⟨show _ ≤ 600000 by omega, show _ ≤ 7302250 by omega⟩ rfl dL_law_115 (fun H locs hP hS => ?_)
          refine lv_sipush (v := 7919) hx hb dL_law_118 (by decide) ?_
          refine lv_iload hx hb dL_law_121 (lv_at hl 9 rfl) ?_
          refine lv_imul hx hb dL_law_123 ?_
          refine lv_ixor hx hb dL_law_124 ?_
          refine lv_topi (fun x19 ex19 => ?_)
          have h := bd_e h ex19
          refine lv_istore (lv' := [(10, .int x19), (0, .ref b), (1, .ref (E.2.2 10 27)), (2, .ref (E.2.2 11 28)), (3, .ref (E.2.2 11 29)), (4, .ref (E.2.2 11 30)), (5, .ref (E.2.2 11 31)), (6, .ref (E.2.2 11 32)), (7, .int y7), (8, .int y8), (9, .int y9)]) hx hb dL_law_125 hl (by decide) rfl (fun ls hl => ?_)
          refine lv_aload_n hx hb dL_law_127 rfl (lv_at hl 2 rfl) ?_
          refine lv_aload_n hx hb dL_law_128 rfl (lv_at hl 3 rfl) ?_
          refine lv_aload_n hx hb dL_law_129 rfl (lv_at hl 4 rfl) ?_
          refine lv_aload hx hb dL_law_130 (lv_at hl 5 rfl) ?_
          refine lv_aload hx hb dL_law_132 (lv_at hl 6 rfl) ?_
          refine lv_aload hx hb dL_law_134 (lv_at hl 7 rfl) ?_
          refine lv_iload hx hb dL_law_136 (lv_at hl 10 rfl) ?_
          refine lv_iconst (v := 4) hx hb dL_law_138 (by decide) ?_
          refine lv_icmp_ge (tgt := 173) hx hb dL_law_139 (by decide) (fun c20 => ?_) (fun c20 => ?_)
          · have h := br_1 h c20
            refine lv_iload hx hb dL_law_173 (lv_at hl 0 rfl) ?_
            exact w_L175 _ _ _ _ _ _ _ _ _ _ (by omega) h hP hS (lv_sub hl [1, 2, 3, 4, 5, 6, 7, 9, 10, 0] rfl)
          · have h := br_0 h c20
            refine lv_iload hx hb dL_law_142 (lv_at hl 0 rfl) ?_
            refine lv_ldc hx hb X.1.2.2.2.1 (X.1.2.2.2.2 _ wm_6) dL_law_144 ?_
            obtain ⟨v28, hv28, h⟩ := bO_e h
            refine mw_callSi X (c_L_low l E hA hv28) pk_L_low wm_367 wm_366 ⟨Nat.le_of_ble_eq_true rfl, Nat.le_of_ble_eq_true rfl⟩ ⟨rfl, rfl⟩ hP hS rfl hl.1 (Nat.le_of_ble_eq_true rfl) ⟨show _ ≤ 600000 by omega, show _ ≤ 7302250 by omega⟩ rfl dL_law_146 (fun H locs hP hS => ?_)
            refine lv_sipush (v := 960) hx hb dL_law_149 (by decide) ?_
            obtain ⟨g29, h⟩ := gd_e h
            refine lv_idiv hx hb dL_law_152 g29 ?_
            refine lv_sipush (v := 960) hx hb dL_law_153 (by decide) ?_
            refine lv_imul hx hb dL_law_156 ?_
            refine lv_iload hx hb dL_law_157 (lv_at hl 10 rfl) ?_
            refine lv_iconst (v := 2) hx hb dL_law_159 (by decide) ?_
            refine lv_icmp_ge (tgt := 167) hx hb dL_law_160 (by decide) (fun c30 => ?_) (fun c30 => ?_)
            · have h := br_1 h c30
              refine lv_bipush (v := 6) hx hb dL_law_167 (by decide) ?_
              exact w_L169 _ _ _ _ _ _ _ _ _ _ _ (by omega) h hP hS (lv_sub hl [1, 2, 3, 4, 5, 6, 7, 9, 10, 0] rfl)
            · have h := br_0 h c30
              refine lv_iconst (v := 0) hx hb dL_law_163 (by decide) ?_
              refine lv_goto (tgt := 169) hx hb dL_law_164 (by decide) ?_
              exact w_L169 _ _ _ _ _ _ _ _ _ _ _ (by omega) h hP hS (lv_sub hl [1, 2, 3, 4, 5, 6, 7, 9, 10, 0] rfl)
  have w_L78 : ∀ (cs sl : Nat) (M : Mem) (z0 : Int32) (H : Heap) (locs : List Loc) (ls : Array Slot) (hCS : cs ≤ 1000 ∧ sl ≤ 10000), f_L_law_L78 xs L  M z0 = some 1 → va_P E.1 vwCl (wl E M) H → va_S (fun q : Nat => s.heap.size ≤ q) s.heap H locs → lv_has ls 11 [(0, .ref b), (1, .ref (E.2.2 10 27)), (2, .ref (E.2.2 11 28)), (3, .ref (E.2.2 11 29)), (4, .ref (E.2.2 11 30)), (5, .ref (E.2.2 11 31)), (6, .ref (E.2.2 11 32))] → W p l e room_1 s m #[Value.ref b] below meth c H locs cs sl (lw_Z below #[Value.ref b] s) (F0 m 78 ls [.int z0]) := by
    intro cs sl M z0 H locs ls hCS h hP hS hl
    unfold f_L_law_L78 at h
    refine lv_istore (lv' := [(7, .int z0), (0, .ref b), (1, .ref (E.2.2 10 27)), (2, .ref (E.2.2 11 28)), (3, .ref (E.2.2 11 29)), (4, .ref (E.2.2 11 30)), (5, .ref (E.2.2 11 31)), (6, .ref (E.2.2 11 32))]) hx hb dL_law_78 hl (by decide) rfl (fun ls hl => ?_)
    refine lv_bipush (v := 16) hx hb dL_law_80 (by decide) ?_
    refine lv_aload_n hx hb dL_law_82 rfl (lv_at hl 1 rfl) ?_
    refine lv_iconst (v := 0) hx hb dL_law_83 (by decide) ?_
    obtain ⟨v4, hv4, h⟩ := bO_e h
    refine mw_callSc X (c_L_cell l E hA hv4) pk_L_cell wm_363 wm_362 ⟨Nat.le_of_ble_eq_true rfl, Nat.le_of_ble_eq_true rfl⟩ ⟨rfl, rfl⟩ hX hbl hbA hP hS rfl hl.1 (Nat.le_of_ble_eq_true rfl) ⟨show _ ≤ 600000 by omega, show _ ≤ 7302250 by omega⟩ rfl dL_law_84 (fun H locs hP hS => ?_)
    refine lv_bipush (v := 48) hx hb dL_law_87 (by decide) ?_
    obtain ⟨v5, hv5, h⟩ := bO_e h
    refine mw_callSi X (c_L_low l E hA hv5) pk_L_low wm_367 wm_366 ⟨Nat.le_of_ble_eq_true rfl, Nat.le_of_ble_eq_true rfl⟩ ⟨rfl, rfl⟩ hP hS rfl hl.1 (Nat.le_of_ble_eq_true rfl) ⟨show _ ≤ 600000 by omega, show _ ≤ 7302250 by omega⟩ rfl dL_law_89 (fun H locs hP hS => ?_)
    refine lv_iadd hx hb dL_law_92 ?_
    refine lv_topi (fun x6 ex6 => ?_)
    have h := bd_e h ex6
    refine lv_istore (lv' := [(8, .int x6), (7, .int z0), (0, .ref b), (1, .ref (E.2.2 10 27)), (2, .ref (E.2.2 11 28)), (3, .ref (E.2.2 11 29)), (4, .ref (E.2.2 11 30)), (5, .ref (E.2.2 11 31)), (6, .ref (E.2.2 11 32))]) hx hb dL_law_93 hl (by decide) rfl (fun ls hl => ?_)
    refine lv_iconst (v := 0) hx hb dL_law_95 (by decide) ?_
    refine lv_istore (lv' := [(9, .int (0 : Int32)), (8, .int x6), (7, .int z0), (0, .ref b), (1, .ref (E.2.2 10 27)), (2, .ref (E.2.2 11 28)), (3, .ref (E.2.2 11 29)), (4, .ref (E.2.2 11 30)), (5, .ref (E.2.2 11 31)), (6, .ref (E.2.2 11 32))]) hx hb dL_law_96 hl (by decide) rfl (fun ls hl => ?_)
    exact w_L98 FU _ _ _ _ _ _ _ _ _ (by omega) h hP hS (lv_sub hl [3, 4, 5, 6, 7, 8, 9, 2, 1, 0] rfl)
  have w_L77 : ∀ (cs sl : Nat) (M : Mem) (H : Heap) (locs : List Loc) (ls : Array Slot) (hCS : cs ≤ 1000 ∧ sl ≤ 10000), f_L_law_L77 xs L  M = some 1 → va_P E.1 vwCl (wl E M) H → va_S (fun q : Nat => s.heap.size ≤ q) s.heap H locs → lv_has ls 11 [(0, .ref b), (1, .ref (E.2.2 10 27)), (2, .ref (E.2.2 11 28)), (3, .ref (E.2.2 11 29)), (4, .ref (E.2.2 11 30)), (5, .ref (E.2.2 11 31)), (6, .ref (E.2.2 11 32))] → W p l e room_1 s m #[Value.ref b] below meth c H locs cs sl (lw_Z below #[Value.ref b] s) (F0 m 77 ls []) := by
    intro cs sl M H locs ls hCS h hP hS hl
    unfold f_L_law_L77 at h
    refine lv_iconst (v := 0) hx hb dL_law_77 (by decide) ?_
    exact w_L78 _ _ _ _ _ _ _ (by omega) h hP hS (lv_sub hl [0, 1, 2, 3, 4, 5, 6] rfl)
  unfold f_L_law at h
  refine lv_aload_n hx hb dL_law_35 rfl (lv_at hl 2 rfl) ?_
  refine lv_iconst (v := 0) hx hb dL_law_36 (by decide) ?_
  refine lv_iconst (v := 1) hx hb dL_law_37 (by decide) ?_
  refine mw_st X hP hS ix_28 (fun _ => rfl) (j := 0) (inb_vp (by decide)) rfl dL_law_38 (fun H locs M1 eM1 hP hS => ?_)
  have h := bd_e h eM1
  refine lv_aload_n hx hb dL_law_39 rfl (lv_at hl 1 rfl) ?_
  refine lv_aload_n hx hb dL_law_40 rfl (lv_at hl 2 rfl) ?_
  refine lv_aload_n hx hb dL_law_41 rfl (lv_at hl 3 rfl) ?_
  refine lv_aload hx hb dL_law_42 (lv_at hl 4 rfl) ?_
  refine lv_aload hx hb dL_law_44 (lv_at hl 5 rfl) ?_
  refine lv_aload hx hb dL_law_46 (lv_at hl 6 rfl) ?_
  refine lv_iconst (v := 0) hx hb dL_law_48 (by decide) ?_
  obtain ⟨v2, hv2, h⟩ := bO_e h
  refine mw_callSi X (c_L_isSo l E hA hv2) pk_L_isSo wm_88 wm_87 ⟨Nat.le_of_ble_eq_true rfl, Nat.le_of_ble_eq_true rfl⟩ ⟨rfl, rfl⟩ hP hS rfl hl.1 (Nat.le_of_ble_eq_true rfl) ⟨show _ ≤ 600000 by omega, show _ ≤ 7302250 by omega⟩ rfl dL_law_49 (fun H locs hP hS => ?_)
  refine lv_if_eq (tgt := 77) hx hb dL_law_52 (by decide) (fun c3 => ?_) (fun c3 => ?_)
  · have h := br_1 h c3
    exact w_L77 _ _ _ _ _ _ (by omega) h hP hS (lv_sub hl [0, 1, 2, 3, 4, 5, 6] rfl)
  · have h := br_0 h c3
    refine lv_aload_n hx hb dL_law_55 rfl (lv_at hl 1 rfl) ?_
    obtain ⟨v31, M32, hv31, h⟩ := bP_e h
    refine mw_callVi X (c_X7_restart l E hA hv31) pk_X7_restart pv_X7_restart wm_229 ⟨Nat.le_of_ble_eq_true rfl, Nat.le_of_ble_eq_true rfl⟩ ⟨rfl, rfl⟩ hP hS ix_27 rfl rfl rfl rfl hl.1 (Nat.le_of_ble_eq_true rfl) ⟨show _ ≤ 600000 by omega, show _ ≤ 7302250 by omega⟩ rfl dL_law_56 (fun H locs hP hS => ?_)
    refine lv_ldc hx hb X.1.2.2.2.1 (X.1.2.2.2.2 _ wm_5) dL_law_59 ?_
    refine lv_icmp_ne (tgt := 77) hx hb dL_law_61 (by decide) (fun c33 => ?_) (fun c33 => ?_)
    · have h := br_0 h c33
      exact w_L77 _ _ _ _ _ _ (by omega) h hP hS (lv_sub hl [0, 1, 2, 3, 4, 5, 6] rfl)
    · have h := br_1 h c33
      refine lv_aload_n hx hb dL_law_64 rfl (lv_at hl 1 rfl) ?_
      obtain ⟨v34, M35, hv34, h⟩ := bP_e h
      refine mw_callVi X (c_X7_dropRecords l E hA hv34) pk_X7_dropRecords pv_X7_dropRecords wm_349 ⟨Nat.le_of_ble_eq_true rfl, Nat.le_of_ble_eq_true rfl⟩ ⟨rfl, rfl⟩ hP hS ix_27 rfl rfl rfl rfl hl.1 (Nat.le_of_ble_eq_true rfl) ⟨show _ ≤ 600000 by omega, show _ ≤ 7302250 by omega⟩ rfl dL_law_65 (fun H locs hP hS => ?_)
      refine lv_ldc hx hb X.1.2.2.2.1 (X.1.2.2.2.2 _ wm_5) dL_law_68 ?_
      refine lv_icmp_ne (tgt := 77) hx hb dL_law_70 (by decide) (fun c36 => ?_) (fun c36 => ?_)
      · have h := br_0 h c36
        exact w_L77 _ _ _ _ _ _ (by omega) h hP hS (lv_sub hl [0, 1, 2, 3, 4, 5, 6] rfl)
      · have h := br_1 h c36
        refine lv_iconst (v := 1) hx hb dL_law_73 (by decide) ?_
        refine lv_goto (tgt := 78) hx hb dL_law_74 (by decide) ?_
        exact w_L78 _ _ _ _ _ _ _ (by omega) h hP hS (lv_sub hl [0, 1, 2, 3, 4, 5, 6] rfl)
