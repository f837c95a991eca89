/-! SealedGroupsLaw.isRecord -/
noncomputable def f_L_isRecord_L252  (M : Mem) (y3 z0 z1 : Int32) : Option Int32 :=
(if z1 = z0 then
bO (f_X7_recordOf M y3 (9 : Int32)) (fun v30 =>
(if v30 = (-1000001 : Int32) then
some (1 : Int32)
else
some (0 : Int32)))
else
some (0 : Int32))
noncomputable def f_L_isRecord_L224  (M : Mem) (y3 y4 y5 z0 z1 : Int32) : Option Int32 :=
(if z1 = z0 then
bO (f_X7_recordOf M y3 (8 : Int32)) (fun v27 =>
(if y5 = (3 : Int32) then
bO (f_L_of M y3 (5 : Int32)) (fun v32 =>
f_L_isRecord_L252 M y3 v32 v27)
else
f_L_isRecord_L252 M y3 y4 v27))
else
some (0 : Int32))
noncomputable def f_L_isRecord_L195  (M : Mem) (y3 y4 y5 z0 z1 : Int32) : Option Int32 :=
(if z1 = z0 then
bO (f_X7_recordOf M y3 (7 : Int32)) (fun v24 =>
(if y5 = (5 : Int32) then
bO (f_L_of M y3 (7 : Int32)) (fun v33 =>
f_L_isRecord_L224 M y3 y4 y5 v33 v24)
else
f_L_isRecord_L224 M y3 y4 y5 y4 v24))
else
some (0 : Int32))
noncomputable def f_L_isRecord_L166  (M : Mem) (y3 y4 y5 z0 z1 : Int32) : Option Int32 :=
(if z1 = z0 then
bO (f_X7_recordOf M y3 (6 : Int32)) (fun v21 =>
(if y5 = (5 : Int32) then
bO (f_L_of M y3 (6 : Int32)) (fun v34 =>
f_L_isRecord_L195 M y3 y4 y5 v34 v21)
else
f_L_isRecord_L195 M y3 y4 y5 y4 v21))
else
some (0 : Int32))
noncomputable def f_L_isRecord_L145  (M : Mem) (y3 y4 y5 z0 z1 : Int32) : Option Int32 :=
(if z1 = z0 then
bO (f_X7_recordOf M y3 (5 : Int32)) (fun v18 =>
(if (M 11 28 2) < y3 then
f_L_isRecord_L166 M y3 y4 y5 (0 : Int32) v18
else
f_L_isRecord_L166 M y3 y4 y5 (1 : Int32) v18))
else
some (0 : Int32))
noncomputable def f_L_isRecord_L119  (M : Mem) (y3 y4 y5 y6 z0 z1 : Int32) : Option Int32 :=
(if z1 = z0 then
bO (f_X7_recordOf M y3 (4 : Int32)) (fun v15 =>
(if y6 = 0 then
f_L_isRecord_L145 M y3 y4 y5 y4 v15
else
bO (f_L_of M y3 (4 : Int32)) (fun v35 =>
f_L_isRecord_L145 M y3 y4 y5 v35 v15)))
else
some (0 : Int32))
noncomputable def f_L_isRecord_L93  (M : Mem) (y3 y4 y5 y6 z0 z1 : Int32) : Option Int32 :=
(if z1 = z0 then
bO (f_X7_recordOf M y3 (3 : Int32)) (fun v12 =>
(if y6 = 0 then
f_L_isRecord_L119 M y3 y4 y5 y6 y4 v12
else
bO (f_L_of M y3 (3 : Int32)) (fun v36 =>
f_L_isRecord_L119 M y3 y4 y5 y6 v36 v12)))
else
some (0 : Int32))
noncomputable def f_L_isRecord_L67  (M : Mem) (y3 y4 y5 y6 z0 z1 : Int32) : Option Int32 :=
(if z1 = z0 then
bO (f_X7_recordOf M y3 (2 : Int32)) (fun v9 =>
(if y6 = 0 then
f_L_isRecord_L93 M y3 y4 y5 y6 y4 v9
else
bO (f_L_of M y3 (2 : Int32)) (fun v37 =>
f_L_isRecord_L93 M y3 y4 y5 y6 v37 v9)))
else
some (0 : Int32))
noncomputable def f_L_isRecord_L30  (M : Mem) (y3 y4 y5 z0 : Int32) : Option Int32 :=
bO (f_X7_recordOf M y3 (0 : Int32)) (fun v3 =>
(if v3 = y5 then
bO (f_X7_recordOf M y3 (1 : Int32)) (fun v5 =>
(if y5 = (5 : Int32) then
f_L_isRecord_L67 M y3 y4 y5 z0 y4 v5
else
bO (f_L_of M y3 (1 : Int32)) (fun v7 =>
f_L_isRecord_L67 M y3 y4 y5 z0 v7 v5)))
else
some (0 : Int32)))
noncomputable def f_L_isRecord_L25  (M : Mem) (y3 y4 y5 : Int32) : Option Int32 :=
f_L_isRecord_L30 M y3 y4 y5 (1 : Int32)
noncomputable def f_L_isRecord  (M : Mem) (a1 : Int32) : Option Int32 :=
bO (f_L_of M a1 (0 : Int32)) (fun v1 =>
(if v1 = (1 : Int32) then
f_L_isRecord_L25 M a1 (-1000004 : Int32) v1
else
(if v1 = (3 : Int32) then
f_L_isRecord_L25 M a1 (-1000004 : Int32) v1
else
f_L_isRecord_L30 M a1 (-1000004 : Int32) v1 (0 : Int32))))
theorem pk_L_isRecord : Pk "SealedGroupsLaw" yL_isRecord cL_isRecord 7 (some .boolean) 4 := ⟨wm_174, wm_89, rfl, by decide +kernel⟩
set_option maxHeartbeats 4000000 in
set_option maxRecDepth 100000 in
theorem c_L_isRecord (l : Launch) (E : En) (hA : AdOK E) {M : Mem} {a1 : Int32} {r0 : Int32}  (h : f_L_isRecord M a1 = some r0) : Met l yL_isRecord (Wm yL_isRecord cL_isRecord 7 (some .boolean)) ({ frames := 3, cells := 0, slots := 0, locals := 77 } : Room) (va_Pc [Value.ref (E.2.2 10 27), Value.ref (E.2.2 11 28), Value.ref (E.2.2 11 31), Value.int a1] (Wd E M)) (QI E r0 M) 0 0 (AA E) := by
  refine Met.ofW (cc := cL_isRecord) (maxL := 7) (ret := (some .boolean)) (by decide +kernel) rfl ?_
  intro p e s m args below meth c s₁ B hml hv
  obtain ⟨rfl, hP, hK⟩ := hv
  have X : Cx E (AA E) p s m c _ cL_isRecord 7 RL := ⟨⟨B.exec, B.bytes, hml, findClass_of_methodNamed B.named, fun w hw => atoms_spec (ws := Wm yL_isRecord cL_isRecord 7 (some .boolean)) B.pre w (List.mem_cons_of_mem _ hw)⟩, hK, hA, fun _ h => h⟩
  have hx := B.exec
  have hb := B.bytes
  have hr := B.returns
  have hlocks := B.notSynchronized
  clear B hml
  have hS : va_S (AA E) s.heap s.heap [] := va_S.rf
  have hl := lv_entry ([Value.ref (E.2.2 10 27), Value.ref (E.2.2 11 28), Value.ref (E.2.2 11 31), Value.int a1]) (n := 7) (Nat.le_of_ble_eq_true rfl)
  rw [lg_entry_eq]
  generalize (lg_sl ([Value.ref (E.2.2 10 27), Value.ref (E.2.2 11 28), Value.ref (E.2.2 11 31), Value.int a1]) ++ List.replicate (7 - (lg_sl ([Value.ref (E.2.2 10 27), Value.ref (E.2.2 11 28), Value.ref (E.2.2 11 31), Value.int a1])).length) Slot.unset).toArray = ls at hl ⊢
  have hl : lv_has ls 7 [(0, .ref (E.2.2 10 27)), (1, .ref (E.2.2 11 28)), (2, .ref (E.2.2 11 31)), (3, .int a1)] := hl
  have w_L252 : ∀  (y3 z0 z1 : Int32) (H : Heap) (locs : List Loc) (ls : Array Slot), f_L_isRecord_L252 M y3 z0 z1 = some r0 → va_P E.1 vwCl (wl E M) H → va_S (AA E) s.heap H locs → lv_has ls 7 [(0, .ref (E.2.2 10 27)), (3, .int y3)] → W p l e (headSpec (Wm yL_isRecord cL_isRecord 7 (some .boolean)) ({ frames := 3, cells := 0, slots := 0, locals := 77 } : Room)).room s m ([Value.ref (E.2.2 10 27), Value.ref (E.2.2 11 28), Value.ref (E.2.2 11 31), Value.int a1] : List Value).toArray below meth c H locs 0 0 (MQ below (QI E r0 M) ([Value.ref (E.2.2 10 27), Value.ref (E.2.2 11 28), Value.ref (E.2.2 11 31), Value.int a1] : List Value).toArray s 0 0 (AA E)) (F0 m 252 ls [.int z0, .int z1]) := by
    intro y3 z0 z1 H locs ls h hP hS hl
    unfold f_L_isRecord_L252 at h
    refine lv_icmp_ne (tgt := 271) hx hb dL_isRecord_252 (by decide) (fun c29 => ?_) (fun c29 => ?_)
    · have h := br_0 h c29
      refine lv_iconst (v := 0) hx hb dL_isRecord_271 (by decide) ?_
      exact mw_zret X hr hlocks hP hS (by decide) (Option.some.inj h) rfl dL_isRecord_272
    · have h := br_1 h c29
      refine lv_aload_n hx hb dL_isRecord_255 rfl (lv_at hl 0 rfl) ?_
      refine lv_iload_n hx hb dL_isRecord_256 rfl (lv_at hl 1 rfl) ?_
      refine lv_bipush (v := 9) hx hb dL_isRecord_257 (by decide) ?_
      obtain ⟨v30, hv30, h⟩ := bO_e h
      refine mw_callVi X (c_X7_recordOf l E hA hv30) pk_X7_recordOf pv_X7_recordOf wm_178 ⟨Nat.le_of_ble_eq_true rfl, Nat.le_of_ble_eq_true rfl⟩ ⟨rfl, rfl⟩ hP hS ix_27 rfl rfl rfl rfl hl.1 (Nat.le_of_ble_eq_true rfl) ⟨Nat.zero_le _, Nat.zero_le _⟩ rfl dL_isRecord_259 (fun H locs hP hS => ?_)
      refine lv_ldc hx hb X.1.2.2.2.1 (X.1.2.2.2.2 _ wm_7) dL_isRecord_262 ?_
      refine lv_icmp_ne (tgt := 271) hx hb dL_isRecord_264 (by decide) (fun c31 => ?_) (fun c31 => ?_)
      · have h := br_0 h c31
        refine lv_iconst (v := 0) hx hb dL_isRecord_271 (by decide) ?_
        exact mw_zret X hr hlocks hP hS (by decide) (Option.some.inj h) rfl dL_isRecord_272
      · have h := br_1 h c31
        refine lv_iconst (v := 1) hx hb dL_isRecord_267 (by decide) ?_
        refine lv_goto (tgt := 272) hx hb dL_isRecord_268 (by decide) ?_
        exact mw_zret X hr hlocks hP hS (by decide) (Option.some.inj h) rfl dL_isRecord_272
  have w_L224 : ∀  (y3 y4 y5 z0 z1 : Int32) (H : Heap) (locs : List Loc) (ls : Array Slot), f_L_isRecord_L224 M y3 y4 y5 z0 z1 = some r0 → va_P E.1 vwCl (wl E M) H → va_S (AA E) s.heap H locs → lv_has ls 7 [(0, .ref (E.2.2 10 27)), (1, .ref (E.2.2 11 28)), (2, .ref (E.2.2 11 31)), (3, .int y3), (4, .int y4), (5, .int y5)] → W p l e (headSpec (Wm yL_isRecord cL_isRecord 7 (some .boolean)) ({ frames := 3, cells := 0, slots := 0, locals := 77 } : Room)).room s m ([Value.ref (E.2.2 10 27), Value.ref (E.2.2 11 28), Value.ref (E.2.2 11 31), Value.int a1] : List Value).toArray below meth c H locs 0 0 (MQ below (QI E r0 M) ([Value.ref (E.2.2 10 27), Value.ref (E.2.2 11 28), Value.ref (E.2.2 11 31), Value.int a1] : List Value).toArray s 0 0 (AA E)) (F0 m 224 ls [.int z0, .int z1]) := by
    intro y3 y4 y5 z0 z1 H locs ls h hP hS hl
    unfold f_L_isRecord_L224 at h
    refine lv_icmp_ne (tgt := 271) hx hb dL_isRecord_224 (by decide) (fun c26 => ?_) (fun c26 => ?_)
    · have h := br_0 h c26
      refine lv_iconst (v := 0) hx hb dL_isRecord_271 (by decide) ?_
      exact mw_zret X hr hlocks hP hS (by decide) (Option.some.inj h) rfl dL_isRecord_272
    · have h := br_1 h c26
      refine lv_aload_n hx hb dL_isRecord_227 rfl (lv_at hl 0 rfl) ?_
      refine lv_iload_n hx hb dL_isRecord_228 rfl (lv_at hl 3 rfl) ?_
      refine lv_bipush (v := 8) hx hb dL_isRecord_229 (by decide) ?_
      obtain ⟨v27, hv27, h⟩ := bO_e h
      refine mw_callVi X (c_X7_recordOf l E hA hv27) pk_X7_recordOf pv_X7_recordOf wm_178 ⟨Nat.le_of_ble_eq_true rfl, Nat.le_of_ble_eq_true rfl⟩ ⟨rfl, rfl⟩ hP hS ix_27 rfl rfl rfl rfl hl.1 (Nat.le_of_ble_eq_true rfl) ⟨Nat.zero_le _, Nat.zero_le _⟩ rfl dL_isRecord_231 (fun H locs hP hS => ?_)
      refine lv_iload hx hb dL_isRecord_234 (lv_at hl 5 rfl) ?_
      refine lv_iconst (v := 3) hx hb dL_isRecord_236 (by decide) ?_
      refine lv_icmp_ne (tgt := 250) hx hb dL_isRecord_237 (by decide) (fun c28 => ?_) (fun c28 => ?_)
      · have h := br_0 h c28
        refine lv_iload hx hb dL_isRecord_250 (lv_at hl 4 rfl) ?_
        exact w_L252 _ _ _ _ _ _ h hP hS (lv_sub hl [0, 3] rfl)
      · have h := br_1 h c28
        refine lv_aload_n hx hb dL_isRecord_240 rfl (lv_at hl 2 rfl) ?_
        refine lv_aload_n hx hb dL_isRecord_241 rfl (lv_at hl 1 rfl) ?_
        refine lv_iload_n hx hb dL_isRecord_242 rfl (lv_at hl 3 rfl) ?_
        refine lv_iconst (v := 5) hx hb dL_isRecord_243 (by decide) ?_
        obtain ⟨v32, hv32, h⟩ := bO_e h
        refine mw_callSi X (c_L_of l E hA hv32) pk_L_of wm_176 wm_175 ⟨Nat.le_of_ble_eq_true rfl, Nat.le_of_ble_eq_true rfl⟩ ⟨rfl, rfl⟩ hP hS rfl hl.1 (Nat.le_of_ble_eq_true rfl) ⟨Nat.zero_le _, Nat.zero_le _⟩ rfl dL_isRecord_244 (fun H locs hP hS => ?_)
        refine lv_goto (tgt := 252) hx hb dL_isRecord_247 (by decide) ?_
        exact w_L252 _ _ _ _ _ _ h hP hS (lv_sub hl [0, 3] rfl)
  have w_L195 : ∀  (y3 y4 y5 z0 z1 : Int32) (H : Heap) (locs : List Loc) (ls : Array Slot), f_L_isRecord_L195 M y3 y4 y5 z0 z1 = some r0 → va_P E.1 vwCl (wl E M) H → va_S (AA E) s.heap H locs → lv_has ls 7 [(0, .ref (E.2.2 10 27)), (1, .ref (E.2.2 11 28)), (2, .ref (E.2.2 11 31)), (3, .int y3), (4, .int y4), (5, .int y5)] → W p l e (headSpec (Wm yL_isRecord cL_isRecord 7 (some .boolean)) ({ frames := 3, cells := 0, slots := 0, locals := 77 } : Room)).room s m ([Value.ref (E.2.2 10 27), Value.ref (E.2.2 11 28), Value.ref (E.2.2 11 31), Value.int a1] : List Value).toArray below meth c H locs 0 0 (MQ below (QI E r0 M) ([Value.ref (E.2.2 10 27), Value.ref (E.2.2 11 28), Value.ref (E.2.2 11 31), Value.int a1] : List Value).toArray s 0 0 (AA E)) (F0 m 195 ls [.int z0, .int z1]) := by
    intro y3 y4 y5 z0 z1 H locs ls h hP hS hl
    unfold f_L_isRecord_L195 at h
    refine lv_icmp_ne (tgt := 271) hx hb dL_isRecord_195 (by decide) (fun c23 => ?_) (fun c23 => ?_)
    · have h := br_0 h c23
      refine lv_iconst (v := 0) hx hb dL_isRecord_271 (by decide) ?_
      exact mw_zret X hr hlocks hP hS (by decide) (Option.some.inj h) rfl dL_isRecord_272
    · have h := br_1 h c23
      refine lv_aload_n hx hb dL_isRecord_198 rfl (lv_at hl 0 rfl) ?_
      refine lv_iload_n hx hb dL_isRecord_199 rfl (lv_at hl 3 rfl) ?_
      refine lv_bipush (v := 7) hx hb dL_isRecord_200 (by decide) ?_
      obtain ⟨v24, hv24, h⟩ := bO_e h
      refine mw_callVi X (c_X7_recordOf l E hA hv24) pk_X7_recordOf pv_X7_recordOf wm_178 ⟨Nat.le_of_ble_eq_true rfl, Nat.le_of_ble_eq_true rfl⟩ ⟨rfl, rfl⟩ hP hS ix_27 rfl rfl rfl rfl hl.1 (Nat.le_of_ble_eq_true rfl) ⟨Nat.zero_le _, Nat.zero_le _⟩ rfl dL_isRecord_202 (fun H locs hP hS => ?_)
      refine lv_iload hx hb dL_isRecord_205 (lv_at hl 5 rfl) ?_
      refine lv_iconst (v := 5) hx hb dL_isRecord_207 (by decide) ?_
      refine lv_icmp_ne (tgt := 222) hx hb dL_isRecord_208 (by decide) (fun c25 => ?_) (fun c25 => ?_)
      · have h := br_0 h c25
        refine lv_iload hx hb dL_isRecord_222 (lv_at hl 4 rfl) ?_
        exact w_L224 _ _ _ _ _ _ _ _ h hP hS (lv_sub hl [0, 1, 2, 3, 4, 5] rfl)
      · have h := br_1 h c25
        refine lv_aload_n hx hb dL_isRecord_211 rfl (lv_at hl 2 rfl) ?_
        refine lv_aload_n hx hb dL_isRecord_212 rfl (lv_at hl 1 rfl) ?_
        refine lv_iload_n hx hb dL_isRecord_213 rfl (lv_at hl 3 rfl) ?_
        refine lv_bipush (v := 7) hx hb dL_isRecord_214 (by decide) ?_
        obtain ⟨v33, hv33, h⟩ := bO_e h
        refine mw_callSi X (c_L_of l E hA hv33) pk_L_of wm_176 wm_175 ⟨Nat.le_of_ble_eq_true rfl, Nat.le_of_ble_eq_true rfl⟩ ⟨rfl, rfl⟩ hP hS rfl hl.1 (Nat.le_of_ble_eq_true rfl) ⟨Nat.zero_le _, Nat.zero_le _⟩ rfl dL_isRecord_216 (fun H locs hP hS => ?_)
        refine lv_goto (tgt := 224) hx hb dL_isRecord_219 (by decide) ?_
        exact w_L224 _ _ _ _ _ _ _ _ h hP hS (lv_sub hl [0, 1, 2, 3, 4, 5] rfl)
  have w_L166 : ∀  (y3 y4 y5 z0 z1 : Int32) (H : Heap) (locs : List Loc) (ls : Array Slot), f_L_isRecord_L166 M y3 y4 y5 z0 z1 = some r0 → va_P E.1 vwCl (wl E M) H → va_S (AA E) s.heap H locs → lv_has ls 7 [(0, .ref (E.2.2 10 27)), (1, .ref (E.2.2 11 28)), (2, .ref (E.2.2 11 31)), (3, .int y3), (4, .int y4), (5, .int y5)] → W p l e (headSpec (Wm yL_isRecord cL_isRecord 7 (some .boolean)) ({ frames := 3, cells := 0, slots := 0, locals := 77 } : Room)).room s m ([Value.ref (E.2.2 10 27), Value.ref (E.2.2 11 28), Value.ref (E.2.2 11 31), Value.int a1] : List Value).toArray below meth c H locs 0 0 (MQ below (QI E r0 M) ([Value.ref (E.2.2 10 27), Value.ref (E.2.2 11 28), Value.ref (E.2.2 11 31), Value.int a1] : List Value).toArray s 0 0 (AA E)) (F0 m 166 ls [.int z0, .int z1]) := by
    intro y3 y4 y5 z0 z1 H locs ls h hP hS hl
    unfold f_L_isRecord_L166 at h
    refine lv_icmp_ne (tgt := 271) hx hb dL_isRecord_166 (by decide) (fun c20 => ?_) (fun c20 => ?_)
    · have h := br_0 h c20
      refine lv_iconst (v := 0) hx hb dL_isRecord_271 (by decide) ?_
      exact mw_zret X hr hlocks hP hS (by decide) (Option.some.inj h) rfl dL_isRecord_272
    · have h := br_1 h c20
      refine lv_aload_n hx hb dL_isRecord_169 rfl (lv_at hl 0 rfl) ?_
      refine lv_iload_n hx hb dL_isRecord_170 rfl (lv_at hl 3 rfl) ?_
      refine lv_bipush (v := 6) hx hb dL_isRecord_171 (by decide) ?_
      obtain ⟨v21, hv21, h⟩ := bO_e h
      refine mw_callVi X (c_X7_recordOf l E hA hv21) pk_X7_recordOf pv_X7_recordOf wm_178 ⟨Nat.le_of_ble_eq_true rfl, Nat.le_of_ble_eq_true rfl⟩ ⟨rfl, rfl⟩ hP hS ix_27 rfl rfl rfl rfl hl.1 (Nat.le_of_ble_eq_true rfl) ⟨Nat.zero_le _, Nat.zero_le _⟩ rfl dL_isRecord_173 (fun H locs hP hS => ?_)
      refine lv_iload hx hb dL_isRecord_176 (lv_at hl 5 rfl) ?_
      refine lv_iconst (v := 5) hx hb dL_isRecord_178 (by decide) ?_
      refine lv_icmp_ne (tgt := 193) hx hb dL_isRecord_179 (by decide) (fun c22 => ?_) (fun c22 => ?_)
      · have h := br_0 h c22
        refine lv_iload hx hb dL_isRecord_193 (lv_at hl 4 rfl) ?_
        exact w_L195 _ _ _ _ _ _ _ _ h hP hS (lv_sub hl [0, 1, 2, 3, 4, 5] rfl)
      · have h := br_1 h c22
        refine lv_aload_n hx hb dL_isRecord_182 rfl (lv_at hl 2 rfl) ?_
        refine lv_aload_n hx hb dL_isRecord_183 rfl (lv_at hl 1 rfl) ?_
        refine lv_iload_n hx hb dL_isRecord_184 rfl (lv_at hl 3 rfl) ?_
        refine lv_bipush (v := 6) hx hb dL_isRecord_185 (by decide) ?_
        obtain ⟨v34, hv34, h⟩ := bO_e h
        refine mw_callSi X (c_L_of l E hA hv34) pk_L_of wm_176 wm_175 ⟨Nat.le_of_ble_eq_true rfl, Nat.le_of_ble_eq_true rfl⟩ ⟨rfl, rfl⟩ hP hS rfl hl.1 (Nat.le_of_ble_eq_true rfl) ⟨Nat.zero_le _, Nat.zero_le _⟩ rfl dL_isRecord_187 (fun H locs hP hS => ?_)
        refine lv_goto (tgt := 195) hx hb dL_isRecord_190 (by decide) ?_
        exact w_L195 _ _ _ _ _ _ _ _ h hP hS (lv_sub hl [0, 1, 2, 3, 4, 5] rfl)
  have w_L145 : ∀  (y3 y4 y5 z0 z1 : Int32) (H : Heap) (locs : List Loc) (ls : Array Slot), f_L_isRecord_L145 M y3 y4 y5 z0 z1 = some r0 → va_P E.1 vwCl (wl E M) H → va_S (AA E) s.heap H locs → lv_has ls 7 [(0, .ref (E.2.2 10 27)), (1, .ref (E.2.2 11 28)), (2, .ref (E.2.2 11 31)), (3, .int y3), (4, .int y4), (5, .int y5)] → W p l e (headSpec (Wm yL_isRecord cL_isRecord 7 (some .boolean)) ({ frames := 3, cells := 0, slots := 0, locals := 77 } : Room)).room s m ([Value.ref (E.2.2 10 27), Value.ref (E.2.2 11 28), Value.ref (E.2.2 11 31), Value.int a1] : List Value).toArray below meth c H locs 0 0 (MQ below (QI E r0 M) ([Value.ref (E.2.2 10 27), Value.ref (E.2.2 11 28), Value.ref (E.2.2 11 31), Value.int a1] : List Value).toArray s 0 0 (AA E)) (F0 m 145 ls [.int z0, .int z1]) := by
    intro y3 y4 y5 z0 z1 H locs ls h hP hS hl
    unfold f_L_isRecord_L145 at h
    refine lv_icmp_ne (tgt := 271) hx hb dL_isRecord_145 (by decide) (fun c17 => ?_) (fun c17 => ?_)
    · have h := br_0 h c17
      refine lv_iconst (v := 0) hx hb dL_isRecord_271 (by decide) ?_
      exact mw_zret X hr hlocks hP hS (by decide) (Option.some.inj h) rfl dL_isRecord_272
    · have h := br_1 h c17
      refine lv_aload_n hx hb dL_isRecord_148 rfl (lv_at hl 0 rfl) ?_
      refine lv_iload_n hx hb dL_isRecord_149 rfl (lv_at hl 3 rfl) ?_
      refine lv_iconst (v := 5) hx hb dL_isRecord_150 (by decide) ?_
      obtain ⟨v18, hv18, h⟩ := bO_e h
      refine mw_callVi X (c_X7_recordOf l E hA hv18) pk_X7_recordOf pv_X7_recordOf wm_178 ⟨Nat.le_of_ble_eq_true rfl, Nat.le_of_ble_eq_true rfl⟩ ⟨rfl, rfl⟩ hP hS ix_27 rfl rfl rfl rfl hl.1 (Nat.le_of_ble_eq_true rfl) ⟨Nat.zero_le _, Nat.zero_le _⟩ rfl dL_isRecord_151 (fun H locs hP hS => ?_)
      refine lv_iload_n hx hb dL_isRecord_154 rfl (lv_at hl 3 rfl) ?_
      refine lv_aload_n hx hb dL_isRecord_155 rfl (lv_at hl 1 rfl) ?_
      refine lv_iconst (v := 2) hx hb dL_isRecord_156 (by decide) ?_
      refine mw_ld X hP ix_28 rfl (v := (M 11 28 2)) (inb_vp (by decide)) rfl dL_isRecord_157 ?_
      refine lv_icmp_gt (tgt := 165) hx hb dL_isRecord_158 (by decide) (fun c19 => ?_) (fun c19 => ?_)
      · have h := br_1 h c19
        refine lv_iconst (v := 0) hx hb dL_isRecord_165 (by decide) ?_
        exact w_L166 _ _ _ _ _ _ _ _ h hP hS (lv_sub hl [0, 1, 2, 3, 4, 5] rfl)
      · have h := br_0 h c19
        refine lv_iconst (v := 1) hx hb dL_isRecord_161 (by decide) ?_
        refine lv_goto (tgt := 166) hx hb dL_isRecord_162 (by decide) ?_
        exact w_L166 _ _ _ _ _ _ _ _ h hP hS (lv_sub hl [0, 1, 2, 3, 4, 5] rfl)
  have w_L119 : ∀  (y3 y4 y5 y6 z0 z1 : Int32) (H : Heap) (locs : List Loc) (ls : Array Slot), f_L_isRecord_L119 M y3 y4 y5 y6 z0 z1 = some r0 → va_P E.1 vwCl (wl E M) H → va_S (AA E) s.heap H locs → lv_has ls 7 [(0, .ref (E.2.2 10 27)), (1, .ref (E.2.2 11 28)), (2, .ref (E.2.2 11 31)), (3, .int y3), (4, .int y4), (5, .int y5), (6, .int y6)] → W p l e (headSpec (Wm yL_isRecord cL_isRecord 7 (some .boolean)) ({ frames := 3, cells := 0, slots := 0, locals := 77 } : Room)).room s m ([Value.ref (E.2.2 10 27), Value.ref (E.2.2 11 28), Value.ref (E.2.2 11 31), Value.int a1] : List Value).toArray below meth c H locs 0 0 (MQ below (QI E r0 M) ([Value.ref (E.2.2 10 27), Value.ref (E.2.2 11 28), Value.ref (E.2.2 11 31), Value.int a1] : List Value).toArray s 0 0 (AA E)) (F0 m 119 ls [.int z0, .int z1]) := by
    intro y3 y4 y5 y6 z0 z1 H locs ls h hP hS hl
    unfold f_L_isRecord_L119 at h
    refine lv_icmp_ne (tgt := 271) hx hb dL_isRecord_119 (by decide) (fun c14 => ?_) (fun c14 => ?_)
    · have h := br_0 h c14
      refine lv_iconst (v := 0) hx hb dL_isRecord_271 (by decide) ?_
      exact mw_zret X hr hlocks hP hS (by decide) (Option.some.inj h) rfl dL_isRecord_272
    · have h := br_1 h c14
      refine lv_aload_n hx hb dL_isRecord_122 rfl (lv_at hl 0 rfl) ?_
      refine lv_iload_n hx hb dL_isRecord_123 rfl (lv_at hl 3 rfl) ?_
      refine lv_iconst (v := 4) hx hb dL_isRecord_124 (by decide) ?_
      obtain ⟨v15, hv15, h⟩ := bO_e h
      refine mw_callVi X (c_X7_recordOf l E hA hv15) pk_X7_recordOf pv_X7_recordOf wm_178 ⟨Nat.le_of_ble_eq_true rfl, Nat.le_of_ble_eq_true rfl⟩ ⟨rfl, rfl⟩ hP hS ix_27 rfl rfl rfl rfl hl.1 (Nat.le_of_ble_eq_true rfl) ⟨Nat.zero_le _, Nat.zero_le _⟩ rfl dL_isRecord_125 (fun H locs hP hS => ?_)
      refine lv_iload hx hb dL_isRecord_128 (lv_at hl 6 rfl) ?_
      refine lv_if_eq (tgt := 143) hx hb dL_isRecord_130 (by decide) (fun c16 => ?_) (fun c16 => ?_)
      · have h := br_1 h c16
        refine lv_iload hx hb dL_isRecord_143 (lv_at hl 4 rfl) ?_
        exact w_L145 _ _ _ _ _ _ _ _ h hP hS (lv_sub hl [0, 1, 2, 3, 4, 5] rfl)
      · have h := br_0 h c16
        refine lv_aload_n hx hb dL_isRecord_133 rfl (lv_at hl 2 rfl) ?_
        refine lv_aload_n hx hb dL_isRecord_134 rfl (lv_at hl 1 rfl) ?_
        refine lv_iload_n hx hb dL_isRecord_135 rfl (lv_at hl 3 rfl) ?_
        refine lv_iconst (v := 4) hx hb dL_isRecord_136 (by decide) ?_
        obtain ⟨v35, hv35, h⟩ := bO_e h
        refine mw_callSi X (c_L_of l E hA hv35) pk_L_of wm_176 wm_175 ⟨Nat.le_of_ble_eq_true rfl, Nat.le_of_ble_eq_true rfl⟩ ⟨rfl, rfl⟩ hP hS rfl hl.1 (Nat.le_of_ble_eq_true rfl) ⟨Nat.zero_le _, Nat.zero_le _⟩ rfl dL_isRecord_137 (fun H locs hP hS => ?_)
        refine lv_goto (tgt := 145) hx hb dL_isRecord_140 (by decide) ?_
        exact w_L145 _ _ _ _ _ _ _ _ h hP hS (lv_sub hl [0, 1, 2, 3, 4, 5] rfl)
  have w_L93 : ∀  (y3 y4 y5 y6 z0 z1 : Int32) (H : Heap) (locs : List Loc) (ls : Array Slot), f_L_isRecord_L93 M y3 y4 y5 y6 z0 z1 = some r0 → va_P E.1 vwCl (wl E M) H → va_S (AA E) s.heap H locs → lv_has ls 7 [(0, .ref (E.2.2 10 27)), (1, .ref (E.2.2 11 28)), (2, .ref (E.2.2 11 31)), (3, .int y3), (4, .int y4), (5, .int y5), (6, .int y6)] → W p l e (headSpec (Wm yL_isRecord cL_isRecord 7 (some .boolean)) ({ frames := 3, cells := 0, slots := 0, locals := 77 } : Room)).room s m ([Value.ref (E.2.2 10 27), Value.ref (E.2.2 11 28), Value.ref (E.2.2 11 31), Value.int a1] : List Value).toArray below meth c H locs 0 0 (MQ below (QI E r0 M) ([Value.ref (E.2.2 10 27), Value.ref (E.2.2 11 28), Value.ref (E.2.2 11 31), Value.int a1] : List Value).toArray s 0 0 (AA E)) (F0 m 93 ls [.int z0, .int z1]) := by
    intro y3 y4 y5 y6 z0 z1 H locs ls h hP hS hl
    unfold f_L_isRecord_L93 at h
    refine lv_icmp_ne (tgt := 271) hx hb dL_isRecord_93 (by decide) (fun c11 => ?_) (fun c11 => ?_)
    · have h := br_0 h c11
      refine lv_iconst (v := 0) hx hb dL_isRecord_271 (by decide) ?_
      exact mw_zret X hr hlocks hP hS (by decide) (Option.some.inj h) rfl dL_isRecord_272
    · have h := br_1 h c11
      refine lv_aload_n hx hb dL_isRecord_96 rfl (lv_at hl 0 rfl) ?_
      refine lv_iload_n hx hb dL_isRecord_97 rfl (lv_at hl 3 rfl) ?_
      refine lv_iconst (v := 3) hx hb dL_isRecord_98 (by decide) ?_
      obtain ⟨v12, hv12, h⟩ := bO_e h
      refine mw_callVi X (c_X7_recordOf l E hA hv12) pk_X7_recordOf pv_X7_recordOf wm_178 ⟨Nat.le_of_ble_eq_true rfl, Nat.le_of_ble_eq_true rfl⟩ ⟨rfl, rfl⟩ hP hS ix_27 rfl rfl rfl rfl hl.1 (Nat.le_of_ble_eq_true rfl) ⟨Nat.zero_le _, Nat.zero_le _⟩ rfl dL_isRecord_99 (fun H locs hP hS => ?_)
      refine lv_iload hx hb dL_isRecord_102 (lv_at hl 6 rfl) ?_
      refine lv_if_eq (tgt := 117) hx hb dL_isRecord_104 (by decide) (fun c13 => ?_) (fun c13 => ?_)
      · have h := br_1 h c13
        refine lv_iload hx hb dL_isRecord_117 (lv_at hl 4 rfl) ?_
        exact w_L119 _ _ _ _ _ _ _ _ _ h hP hS (lv_sub hl [0, 1, 2, 3, 4, 5, 6] rfl)
      · have h := br_0 h c13
        refine lv_aload_n hx hb dL_isRecord_107 rfl (lv_at hl 2 rfl) ?_
        refine lv_aload_n hx hb dL_isRecord_108 rfl (lv_at hl 1 rfl) ?_
        refine lv_iload_n hx hb dL_isRecord_109 rfl (lv_at hl 3 rfl) ?_
        refine lv_iconst (v := 3) hx hb dL_isRecord_110 (by decide) ?_
        obtain ⟨v36, hv36, h⟩ := bO_e h
        refine mw_callSi X (c_L_of l E hA hv36) pk_L_of wm_176 wm_175 ⟨Nat.le_of_ble_eq_true rfl, Nat.le_of_ble_eq_true rfl⟩ ⟨rfl, rfl⟩ hP hS rfl hl.1 (Nat.le_of_ble_eq_true rfl) ⟨Nat.zero_le _, Nat.zero_le _⟩ rfl dL_isRecord_111 (fun H locs hP hS => ?_)
        refine lv_goto (tgt := 119) hx hb dL_isRecord_114 (by decide) ?_
        exact w_L119 _ _ _ _ _ _ _ _ _ h hP hS (lv_sub hl [0, 1, 2, 3, 4, 5, 6] rfl)
  have w_L67 : ∀  (y3 y4 y5 y6 z0 z1 : Int32) (H : Heap) (locs : List Loc) (ls : Array Slot), f_L_isRecord_L67 M y3 y4 y5 y6 z0 z1 = some r0 → va_P E.1 vwCl (wl E M) H → va_S (AA E) s.heap H locs → lv_has ls 7 [(0, .ref (E.2.2 10 27)), (1, .ref (E.2.2 11 28)), (2, .ref (E.2.2 11 31)), (3, .int y3), (4, .int y4), (5, .int y5), (6, .int y6)] → W p l e (headSpec (Wm yL_isRecord cL_isRecord 7 (some .boolean)) ({ frames := 3, cells := 0, slots := 0, locals := 77 } : Room)).room s m ([Value.ref (E.2.2 10 27), Value.ref (E.2.2 11 28), Value.ref (E.2.2 11 31), Value.int a1] : List Value).toArray below meth c H locs 0 0 (MQ below (QI E r0 M) ([Value.ref (E.2.2 10 27), Value.ref (E.2.2 11 28), Value.ref (E.2.2 11 31), Value.int a1] : List Value).toArray s 0 0 (AA E)) (F0 m 67 ls [.int z0, .int z1]) := by
    intro y3 y4 y5 y6 z0 z1 H locs ls h hP hS hl
    unfold f_L_isRecord_L67 at h
    refine lv_icmp_ne (tgt := 271) hx hb dL_isRecord_67 (by decide) (fun c8 => ?_) (fun c8 => ?_)
    · have h := br_0 h c8
      refine lv_iconst (v := 0) hx hb dL_isRecord_271 (by decide) ?_
      exact mw_zret X hr hlocks hP hS (by decide) (Option.some.inj h) rfl dL_isRecord_272
    · have h := br_1 h c8
      refine lv_aload_n hx hb dL_isRecord_70 rfl (lv_at hl 0 rfl) ?_
      refine lv_iload_n hx hb dL_isRecord_71 rfl (lv_at hl 3 rfl) ?_
      refine lv_iconst (v := 2) hx hb dL_isRecord_72 (by decide) ?_
      obtain ⟨v9, hv9, h⟩ := bO_e h
      refine mw_callVi X (c_X7_recordOf l E hA hv9) pk_X7_recordOf pv_X7_recordOf wm_178 ⟨Nat.le_of_ble_eq_true rfl, Nat.le_of_ble_eq_true rfl⟩ ⟨rfl, rfl⟩ hP hS ix_27 rfl rfl rfl rfl hl.1 (Nat.le_of_ble_eq_true rfl) ⟨Nat.zero_le _, Nat.zero_le _⟩ rfl dL_isRecord_73 (fun H locs hP hS => ?_)
      refine lv_iload hx hb dL_isRecord_76 (lv_at hl 6 rfl) ?_
      refine lv_if_eq (tgt := 91) hx hb dL_isRecord_78 (by decide) (fun c10 => ?_) (fun c10 => ?_)
      · have h := br_1 h c10
        refine lv_iload hx hb dL_isRecord_91 (lv_at hl 4 rfl) ?_
        exact w_L93 _ _ _ _ _ _ _ _ _ h hP hS (lv_sub hl [0, 1, 2, 3, 4, 5, 6] rfl)
      · have h := br_0 h c10
        refine lv_aload_n hx hb dL_isRecord_81 rfl (lv_at hl 2 rfl) ?_
        refine lv_aload_n hx hb dL_isRecord_82 rfl (lv_at hl 1 rfl) ?_
        refine lv_iload_n hx hb dL_isRecord_83 rfl (lv_at hl 3 rfl) ?_
        refine lv_iconst (v := 2) hx hb dL_isRecord_84 (by decide) ?_
        obtain ⟨v37, hv37, h⟩ := bO_e h
        refine mw_callSi X (c_L_of l E hA hv37) pk_L_of wm_176 wm_175 ⟨Nat.le_of_ble_eq_true rfl, Nat.le_of_ble_eq_true rfl⟩ ⟨rfl, rfl⟩ hP hS rfl hl.1 (Nat.le_of_ble_eq_true rfl) ⟨Nat.zero_le _, Nat.zero_le _⟩ rfl dL_isRecord_85 (fun H locs hP hS => ?_)
        refine lv_goto (tgt := 93) hx hb dL_isRecord_88 (by decide) ?_
        exact w_L93 _ _ _ _ _ _ _ _ _ h hP hS (lv_sub hl [0, 1, 2, 3, 4, 5, 6] rfl)
  have w_L30 : ∀  (y3 y4 y5 z0 : Int32) (H : Heap) (locs : List Loc) (ls : Array Slot), f_L_isRecord_L30 M y3 y4 y5 z0 = some r0 → va_P E.1 vwCl (wl E M) H → va_S (AA E) s.heap H locs → lv_has ls 7 [(0, .ref (E.2.2 10 27)), (1, .ref (E.2.2 11 28)), (2, .ref (E.2.2 11 31)), (3, .int y3), (4, .int y4), (5, .int y5)] → W p l e (headSpec (Wm yL_isRecord cL_isRecord 7 (some .boolean)) ({ frames := 3, cells := 0, slots := 0, locals := 77 } : Room)).room s m ([Value.ref (E.2.2 10 27), Value.ref (E.2.2 11 28), Value.ref (E.2.2 11 31), Value.int a1] : List Value).toArray below meth c H locs 0 0 (MQ below (QI E r0 M) ([Value.ref (E.2.2 10 27), Value.ref (E.2.2 11 28), Value.ref (E.2.2 11 31), Value.int a1] : List Value).toArray s 0 0 (AA E)) (F0 m 30 ls [.int z0]) := by
    intro y3 y4 y5 z0 H locs ls h hP hS hl
    unfold f_L_isRecord_L30 at h
    refine lv_istore (lv' := [(6, .int z0), (0, .ref (E.2.2 10 27)), (1, .ref (E.2.2 11 28)), (2, .ref (E.2.2 11 31)), (3, .int y3), (4, .int y4), (5, .int y5)]) hx hb dL_isRecord_30 hl (by decide) rfl (fun ls hl => ?_)
    refine lv_aload_n hx hb dL_isRecord_32 rfl (lv_at hl 1 rfl) ?_
    refine lv_iload_n hx hb dL_isRecord_33 rfl (lv_at hl 4 rfl) ?_
    refine lv_iconst (v := 0) hx hb dL_isRecord_34 (by decide) ?_
    obtain ⟨v3, hv3, h⟩ := bO_e h
    refine mw_callVi X (c_X7_recordOf l E hA hv3) pk_X7_recordOf pv_X7_recordOf wm_178 ⟨Nat.le_of_ble_eq_true rfl, Nat.le_of_ble_eq_true rfl⟩ ⟨rfl, rfl⟩ hP hS ix_27 rfl rfl rfl rfl hl.1 (Nat.le_of_ble_eq_true rfl) ⟨Nat.zero_le _, Nat.zero_le _⟩ rfl dL_isRecord_35 (fun H locs hP hS => ?_)
    refine lv_iload hx hb dL_isRecord_38 (lv_at hl 6 rfl) ?_
    refine lv_icmp_ne (tgt := 271) hx hb dL_isRecord_40 (by decide) (fun c4 => ?_) (fun c4 => ?_)
    · have h := br_0 h c4
      refine lv_iconst (v := 0) hx hb dL_isRecord_271 (by decide) ?_
      exact mw_zret X hr hlocks hP hS (by decide) (Option.some.inj h) rfl dL_isRecord_272
    · have h := br_1 h c4
      refine lv_aload_n hx hb dL_isRecord_43 rfl (lv_at hl 1 rfl) ?_
      refine lv_iload_n hx hb dL_isRecord_44 rfl (lv_at hl 4 rfl) ?_
      refine lv_iconst (v := 1) hx hb dL_isRecord_45 (by decide) ?_
      obtain ⟨v5, hv5, h⟩ := bO_e h
      refine mw_callVi X (c_X7_recordOf l E hA hv5) pk_X7_recordOf pv_X7_recordOf wm_178 ⟨Nat.le_of_ble_eq_true rfl, Nat.le_of_ble_eq_true rfl⟩ ⟨rfl, rfl⟩ hP hS ix_27 rfl rfl rfl rfl hl.1 (Nat.le_of_ble_eq_true rfl) ⟨Nat.zero_le _, Nat.zero_le _⟩ rfl dL_isRecord_46 (fun H locs hP hS => ?_)
      refine lv_iload hx hb dL_isRecord_49 (lv_at hl 6 rfl) ?_
      refine lv_iconst (v := 5) hx hb dL_isRecord_51 (by decide) ?_
      refine lv_icmp_ne (tgt := 60) hx hb dL_isRecord_52 (by decide) (fun c6 => ?_) (fun c6 => ?_)
      · have h := br_0 h c6
        refine lv_aload_n hx hb dL_isRecord_60 rfl (lv_at hl 3 rfl) ?_
        refine lv_aload_n hx hb dL_isRecord_61 rfl (lv_at hl 2 rfl) ?_
        refine lv_iload_n hx hb dL_isRecord_62 rfl (lv_at hl 4 rfl) ?_
        refine lv_iconst (v := 1) hx hb dL_isRecord_63 (by decide) ?_
        obtain ⟨v7, hv7, h⟩ := bO_e h
        refine mw_callSi X (c_L_of l E hA hv7) pk_L_of wm_176 wm_175 ⟨Nat.le_of_ble_eq_true rfl, Nat.le_of_ble_eq_true rfl⟩ ⟨rfl, rfl⟩ hP hS rfl hl.1 (Nat.le_of_ble_eq_true rfl) ⟨Nat.zero_le _, Nat.zero_le _⟩ rfl dL_isRecord_64 (fun H locs hP hS => ?_)
        exact w_L67 _ _ _ _ _ _ _ _ _ h hP hS (lv_sub hl [1, 2, 3, 4, 5, 6, 0] rfl)
      · have h := br_1 h c6
        refine lv_iload hx hb dL_isRecord_55 (lv_at hl 5 rfl) ?_
        refine lv_goto (tgt := 67) hx hb dL_isRecord_57 (by decide) ?_
        exact w_L67 _ _ _ _ _ _ _ _ _ h hP hS (lv_sub hl [1, 2, 3, 4, 5, 6, 0] rfl)
  have w_L25 : ∀  (y3 y4 y5 : Int32) (H : Heap) (locs : List Loc) (ls : Array Slot), f_L_isRecord_L25 M y3 y4 y5 = some r0 → va_P E.1 vwCl (wl E M) H → va_S (AA E) s.heap H locs → lv_has ls 7 [(0, .ref (E.2.2 10 27)), (1, .ref (E.2.2 11 28)), (2, .ref (E.2.2 11 31)), (3, .int y3), (4, .int y4), (5, .int y5)] → W p l e (headSpec (Wm yL_isRecord cL_isRecord 7 (some .boolean)) ({ frames := 3, cells := 0, slots := 0, locals := 77 } : Room)).room s m ([Value.ref (E.2.2 10 27), Value.ref (E.2.2 11 28), Value.ref (E.2.2 11 31), Value.int a1] : List Value).toArray below meth c H locs 0 0 (MQ below (QI E r0 M) ([Value.ref (E.2.2 10 27), Value.ref (E.2.2 11 28), Value.ref (E.2.2 11 31), Value.int a1] : List Value).toArray s 0 0 (AA E)) (F0 m 25 ls []) := by
    intro y3 y4 y5 H locs ls h hP hS hl
    unfold f_L_isRecord_L25 at h
    refine lv_iconst (v := 1) hx hb dL_isRecord_25 (by decide) ?_
    refine lv_goto (tgt := 30) hx hb dL_isRecord_26 (by decide) ?_
    exact w_L30 _ _ _ _ _ _ _ h hP hS (lv_sub hl [0, 1, 2, 3, 4, 5] rfl)
  unfold f_L_isRecord at h
  refine lv_ldc hx hb X.1.2.2.2.1 (X.1.2.2.2.2 _ wm_91) dL_isRecord_0 ?_
  refine lv_istore (lv' := [(4, .int (-1000004 : Int32)), (0, .ref (E.2.2 10 27)), (1, .ref (E.2.2 11 28)), (2, .ref (E.2.2 11 31)), (3, .int a1)]) hx hb dL_isRecord_2 hl (by decide) rfl (fun ls hl => ?_)
  refine lv_aload_n hx hb dL_isRecord_4 rfl (lv_at hl 3 rfl) ?_
  refine lv_aload_n hx hb dL_isRecord_5 rfl (lv_at hl 2 rfl) ?_
  refine lv_iload_n hx hb dL_isRecord_6 rfl (lv_at hl 4 rfl) ?_
  refine lv_iconst (v := 0) hx hb dL_isRecord_7 (by decide) ?_
  obtain ⟨v1, hv1, h⟩ := bO_e h
  refine mw_callSi X (c_L_of l E hA hv1) pk_L_of wm_176 wm_175 ⟨Nat.le_of_ble_eq_true rfl, Nat.le_of_ble_eq_true rfl⟩ ⟨rfl, rfl⟩ hP hS rfl hl.1 (Nat.le_of_ble_eq_true rfl) ⟨Nat.zero_le _, Nat.zero_le _⟩ rfl dL_isRecord_8 (fun H locs hP hS => ?_)
  refine lv_istore (lv' := [(5, .int v1), (4, .int (-1000004 : Int32)), (0, .ref (E.2.2 10 27)), (1, .ref (E.2.2 11 28)), (2, .ref (E.2.2 11 31)), (3, .int a1)]) hx hb dL_isRecord_11 hl (by decide) rfl (fun ls hl => ?_)
  refine lv_iload hx hb dL_isRecord_13 (lv_at hl 0 rfl) ?_
  refine lv_iconst (v := 1) hx hb dL_isRecord_15 (by decide) ?_
  refine lv_icmp_eq (tgt := 25) hx hb dL_isRecord_16 (by decide) (fun c2 => ?_) (fun c2 => ?_)
  · have h := br_1 h c2
    exact w_L25 _ _ _ _ _ _ h hP hS (lv_sub hl [2, 3, 4, 5, 1, 0] rfl)
  · have h := br_0 h c2
    refine lv_iload hx hb dL_isRecord_19 (lv_at hl 0 rfl) ?_
    refine lv_iconst (v := 3) hx hb dL_isRecord_21 (by decide) ?_
    refine lv_icmp_ne (tgt := 29) hx hb dL_isRecord_22 (by decide) (fun c38 => ?_) (fun c38 => ?_)
    · have h := br_0 h c38
      refine lv_iconst (v := 0) hx hb dL_isRecord_29 (by decide) ?_
      exact w_L30 _ _ _ _ _ _ _ h hP hS (lv_sub hl [2, 3, 4, 5, 1, 0] rfl)
    · have h := br_1 h c38
      exact w_L25 _ _ _ _ _ _ h hP hS (lv_sub hl [2, 3, 4, 5, 1, 0] rfl)
/-! SealedGroupsLaw.arePages -/
noncomputable def f_L_arePages_L353  (M : Mem) (K237 : Int32 → Int32 → Option Int32) (y3 y4 : Int32) : Option Int32 :=
bd (y4 + (1 : Int32)) (fun x12 =>
K237 y3 x12)
noncomputable def f_L_arePages_L346  (M : Mem) (K237 : Int32 → Int32 → Option Int32) (K301 : Int32 → Int32 → Int32 → Int32 → Option Int32) (y4 y5 y6 z0 : Int32) : Option Int32 :=
bd (y6 + (1 : Int32)) (fun x17 =>
K301 z0 y4 y5 x17)
noncomputable def f_L_arePages_L338  (M : Mem) (K237 : Int32 → Int32 → Option Int32) (K301 : Int32 → Int32 → Int32 → Int32 → Option Int32) (y4 y5 y6 z0 z1 : Int32) : Option Int32 :=
(if z1 = z0 then
f_L_arePages_L346 M K237 K301 y4 y5 y6 (1 : Int32)
else
f_L_arePages_L346 M K237 K301 y4 y5 y6 (0 : Int32))
noncomputable def f_L_arePages_L301  (M : Mem) (K237 : Int32 → Int32 → Option Int32) (K301 : Int32 → Int32 → Int32 → Int32 → Option Int32) (y3 y4 y5 y6 : Int32) : Option Int32 :=
(if (4 : Int32) ≤ y6 then
f_L_arePages_L353 M K237 y3 y4
else
(if y3 = 0 then
f_L_arePages_L353 M K237 y3 y4
else
bO (f_X7_groupOf M y4 y6) (fun v14 =>
(if y5 = 0 then
f_L_arePages_L338 M K237 K301 y4 y5 y6 (-1000004 : Int32) v14
else
gd (inb (((4 : Int32) * y4) + y6) 16) (
f_L_arePages_L338 M K237 K301 y4 y5 y6 (M 11 29 ((((4 : Int32) * y4) + y6)).toNatClampNeg) v14)))))
noncomputable def f_L_arePages_L297  (M : Mem) (K237 : Int32 → Int32 → Option Int32) (y4 y5 z0 : Int32) : Option Int32 :=
itr (f_L_arePages_L301 M K237) (fun _ _ _ _ => none) FU z0 y4 y5 (1 : Int32)
noncomputable def f_L_arePages_L296  (M : Mem) (K237 : Int32 → Int32 → Option Int32) (y4 y5 : Int32) : Option Int32 :=
f_L_arePages_L297 M K237 y4 y5 (0 : Int32)
noncomputable def f_L_arePages_L262  (M : Mem) (K237 : Int32 → Int32 → Option Int32) (y4 z0 : Int32) : Option Int32 :=
bO (f_X7_groupOf M y4 (0 : Int32)) (fun v8 =>
gd (inb ((4 : Int32) * y4) 16) (
(if v8 = (M 11 29 (((4 : Int32) * y4)).toNatClampNeg) then
bO (f_X7_groupOf M y4 (4 : Int32)) (fun v19 =>
(if v19 = (-1000001 : Int32) then
f_L_arePages_L297 M K237 y4 z0 (1 : Int32)
else
f_L_arePages_L296 M K237 y4 z0))
else
f_L_arePages_L296 M K237 y4 z0)))
noncomputable def f_L_arePages_L237  (M : Mem) (K237 : Int32 → Int32 → Option Int32) (y3 y4 : Int32) : Option Int32 :=
(if (4 : Int32) ≤ y4 then
gd (isB y3) (some y3)
else
(if y3 = 0 then
gd (isB y3) (some y3)
else
gd (inb ((4 : Int32) * y4) 16) (
(if (M 11 29 (((4 : Int32) * y4)).toNatClampNeg) = (1 : Int32) then
f_L_arePages_L262 M K237 y4 (1 : Int32)
else
f_L_arePages_L262 M K237 y4 (0 : Int32)))))
noncomputable def f_L_arePages_L234  (M : Mem) (y3 : Int32) : Option Int32 :=
itr (f_L_arePages_L237 M) (fun _ _ => none) FU y3 (0 : Int32)
noncomputable def f_L_arePages_L227  (M : Mem) (K5 : Int32 → Int32 → Option Int32) (y4 z0 : Int32) : Option Int32 :=
bd (y4 + (1 : Int32)) (fun x29 =>
K5 z0 x29)
noncomputable def f_L_arePages_L226  (M : Mem) (K5 : Int32 → Int32 → Option Int32) (y4 : Int32) : Option Int32 :=
f_L_arePages_L227 M K5 y4 (0 : Int32)
noncomputable def f_L_arePages_L206  (M : Mem) (K5 : Int32 → Int32 → Option Int32) (y4 z0 z1 : Int32) : Option Int32 :=
(if z1 = z0 then
bO (f_X7_pageOf M y4 (9 : Int32)) (fun v51 =>
(if v51 = (-1000001 : Int32) then
f_L_arePages_L227 M K5 y4 (1 : Int32)
else
f_L_arePages_L226 M K5 y4))
else
f_L_arePages_L226 M K5 y4)
noncomputable def f_L_arePages_L183  (M : Mem) (K5 : Int32 → Int32 → Option Int32) (y4 y6 z0 z1 : Int32) : Option Int32 :=
(if z1 = z0 then
bO (f_X7_pageOf M y4 (7 : Int32)) (fun v48 =>
(if 0 ≤ y6 then
f_L_arePages_L206 M K5 y4 y6 v48
else
f_L_arePages_L206 M K5 y4 (-1000004 : Int32) v48))
else
f_L_arePages_L226 M K5 y4)
noncomputable def f_L_arePages_L153  (M : Mem) (K5 : Int32 → Int32 → Option Int32) (y4 y5 y6 z0 z1 : Int32) : Option Int32 :=
(if z1 = z0 then
bO (f_X7_pageOf M y4 (6 : Int32)) (fun v45 =>
(if y5 = 0 then
f_L_arePages_L183 M K5 y4 y6 (-1000004 : Int32) v45
else
gd (inb (((6 : Int32) * y4) + (5 : Int32)) 48) (
f_L_arePages_L183 M K5 y4 y6 (M 11 30 ((((6 : Int32) * y4) + (5 : Int32))).toNatClampNeg) v45)))
else
f_L_arePages_L226 M K5 y4)
noncomputable def f_L_arePages_L39  (M : Mem) (K5 : Int32 → Int32 → Option Int32) (y4 z0 : Int32) : Option Int32 :=
bO (f_L_holder M y4) (fun v25 =>
bO (f_X7_pageOf M y4 (0 : Int32)) (fun v26 =>
bO (f_L_value M y4) (fun v27 =>
(if v26 = v27 then
bO (f_X7_pageOf M y4 (1 : Int32)) (fun v30 =>
bO (f_L_mark M y4) (fun v31 =>
(if v30 = v31 then
bO (f_X7_pageOf M y4 (2 : Int32)) (fun v33 =>
gd (inb ((6 : Int32) * y4) 48) (
(if v33 = (M 11 30 (((6 : Int32) * y4)).toNatClampNeg) then
bO (f_X7_pageOf M y4 (3 : Int32)) (fun v36 =>
gd (inb (((6 : Int32) * y4) + (1 : Int32)) 48) (
(if v36 = (M 11 30 ((((6 : Int32) * y4) + (1 : Int32))).toNatClampNeg) then
bO (f_X7_pageOf M y4 (4 : Int32)) (fun v39 =>
gd (inb (((6 : Int32) * y4) + (2 : Int32)) 48) (
(if v39 = (M 11 30 ((((6 : Int32) * y4) + (2 : Int32))).toNatClampNeg) then
bO (f_X7_pageOf M y4 (5 : Int32)) (fun v42 =>
(if z0 = 0 then
f_L_arePages_L153 M K5 y4 z0 v25 (0 : Int32) v42
else
f_L_arePages_L153 M K5 y4 z0 v25 (1 : Int32) v42))
else
f_L_arePages_L226 M K5 y4)))
else
f_L_arePages_L226 M K5 y4)))
else
f_L_arePages_L226 M K5 y4)))
else
f_L_arePages_L226 M K5 y4)))
else
f_L_arePages_L226 M K5 y4))))
noncomputable def f_L_arePages_L5  (M : Mem) (K5 : Int32 → Int32 → Option Int32) (y3 y4 : Int32) : Option Int32 :=
(if (8 : Int32) ≤ y4 then
f_L_arePages_L234 M y3
else
(if y3 = 0 then
f_L_arePages_L234 M y3
else
bO (f_L_mark M y4) (fun v22 =>
gd (inb (((6 : Int32) * y4) + (1 : Int32)) 48) (
(if v22 = (M 11 30 ((((6 : Int32) * y4) + (1 : Int32))).toNatClampNeg) then
f_L_arePages_L39 M K5 y4 (0 : Int32)
else
f_L_arePages_L39 M K5 y4 (1 : Int32))))))
noncomputable def f_L_arePages  (M : Mem) : Option Int32 :=
itr (f_L_arePages_L5 M) (fun _ _ => none) FU (1 : Int32) (0 : Int32)
theorem pk_L_arePages : Pk "SealedGroupsLaw" yL_arePages cL_arePages 7 (some .boolean) 3 := ⟨wm_94, wm_89, rfl, by decide +kernel⟩
set_option maxHeartbeats 4000000 in
set_option maxRecDepth 100000 in
theorem c_L_arePages (l : Launch) (E : En) (hA : AdOK E) {M : Mem} {r0 : Int32}  (h : f_L_arePages M = some r0) : Met l yL_arePages (Wm yL_arePages cL_arePages 7 (some .boolean)) ({ frames := 3, cells := 0, slots := 0, locals := 75 } : Room) (va_Pc [Value.ref (E.2.2 10 27), Value.ref (E.2.2 11 29), Value.ref (E.2.2 11 30)] (Wd E M)) (QI E r0 M) 0 0 (AA E) := by
  refine Met.ofW (cc := cL_arePages) (maxL := 7) (ret := (some .boolean)) (by decide +kernel) rfl ?_
  intro p e s m args below meth c s₁ B hml hv
  obtain ⟨rfl, hP, hK⟩ := hv
  have X : Cx E (AA E) p s m c _ cL_arePages 7 RL := ⟨⟨B.exec, B.bytes, hml, findClass_of_methodNamed B.named, fun w hw => atoms_spec (ws := Wm yL_arePages cL_arePages 7 (some .boolean)) B.pre w (List.mem_cons_of_mem _ hw)⟩, hK, hA, fun _ h => h⟩
  have hx := B.exec
  have hb := B.bytes
  have hr := B.returns
  have hlocks := B.notSynchronized
  clear B hml
  have hS : va_S (AA E) s.heap s.heap [] := va_S.rf
  have hl := lv_entry ([Value.ref (E.2.2 10 27), Value.ref (E.2.2 11 29), Value.ref (E.2.2 11 30)]) (n := 7) (Nat.le_of_ble_eq_true rfl)
  rw [lg_entry_eq]
  generalize (lg_sl ([Value.ref (E.2.2 10 27), Value.ref (E.2.2 11 29), Value.ref (E.2.2 11 30)]) ++ List.replicate (7 - (lg_sl ([Value.ref (E.2.2 10 27), Value.ref (E.2.2 11 29), Value.ref (E.2.2 11 30)])).length) Slot.unset).toArray = ls at hl ⊢
  have hl : lv_has ls 7 [(0, .ref (E.2.2 10 27)), (1, .ref (E.2.2 11 29)), (2, .ref (E.2.2 11 30))] := hl
  have w_L237 : ∀ (n237 : Nat)  (y3 y4 : Int32) (H : Heap) (locs : List Loc) (ls : Array Slot), itr (f_L_arePages_L237 M) (fun _ _ => none) n237 y3 y4 = some r0 → va_P E.1 vwCl (wl E M) H → va_S (AA E) s.heap H locs → lv_has ls 7 [(0, .ref (E.2.2 10 27)), (1, .ref (E.2.2 11 29)), (3, .int y3), (4, .int y4)] → W p l e (headSpec (Wm yL_arePages cL_arePages 7 (some .boolean)) ({ frames := 3, cells := 0, slots := 0, locals := 75 } : Room)).room s m ([Value.ref (E.2.2 10 27), Value.ref (E.2.2 11 29), Value.ref (E.2.2 11 30)] : List Value).toArray below meth c H locs 0 0 (MQ below (QI E r0 M) ([Value.ref (E.2.2 10 27), Value.ref (E.2.2 11 29), Value.ref (E.2.2 11 30)] : List Value).toArray s 0 0 (AA E)) (F0 m 237 ls []) := by
    intro n237
    induction n237 with
    | zero => intro y3 y4 H locs ls h; exact (nomatch (show (none : Option Int32) = some _ from h))
    | succ n237 ih237 =>
      intro y3 y4 H locs ls h hP hS hl
      have h : f_L_arePages_L237 M (itr (f_L_arePages_L237 M) (fun _ _ => none) n237) y3 y4 = some r0 := h
      have w_L353 : ∀  (y3 y4 : Int32) (H : Heap) (locs : List Loc) (ls : Array Slot), f_L_arePages_L353 M (itr (f_L_arePages_L237 M) (fun _ _ => none) n237) y3 y4 = some r0 → va_P E.1 vwCl (wl E M) H → va_S (AA E) s.heap H locs → lv_has ls 7 [(0, .ref (E.2.2 10 27)), (1, .ref (E.2.2 11 29)), (3, .int y3), (4, .int y4)] → W p l e (headSpec (Wm yL_arePages cL_arePages 7 (some .boolean)) ({ frames := 3, cells := 0, slots := 0, locals := 75 } : Room)).room s m ([Value.ref (E.2.2 10 27), Value.ref (E.2.2 11 29), Value.ref (E.2.2 11 30)] : List Value).toArray below meth c H locs 0 0 (MQ below (QI E r0 M) ([Value.ref (E.2.2 10 27), Value.ref (E.2.2 11 29), Value.ref (E.2.2 11 30)] : List Value).toArray s 0 0 (AA E)) (F0 m 353 ls []) := by
        intro y3 y4 H locs ls h hP hS hl
        unfold f_L_arePages_L353 at h
        obtain ⟨x12, ex12⟩ : ∃ y : Int32, y = y4 + (1 : Int32) := ⟨_, rfl⟩
        have h := bd_e h ex12
        refine lv_iinc (v := x12) (lv' := [(4, .int x12), (0, .ref (E.2.2 10 27)), (1, .ref (E.2.2 11 29)), (3, .int y3)]) hx hb dL_arePages_353 hl (k := 3) rfl (by rw [ex12]; rfl) (by decide) rfl (fun ls hl => ?_)
        refine lv_goto (tgt := 237) hx hb dL_arePages_356 (by decide) ?_
        exact ih237 _ _ _ _ _ h hP hS (lv_sub hl [1, 2, 3, 0] rfl)
      have w_L301 : ∀ (n301 : Nat)  (y3 y4 y5 y6 : Int32) (H : Heap) (locs : List Loc) (ls : Array Slot), itr (f_L_arePages_L301 M (itr (f_L_arePages_L237 M) (fun _ _ => none) n237)) (fun _ _ _ _ => none) n301 y3 y4 y5 y6 = some r0 → va_P E.1 vwCl (wl E M) H → va_S (AA E) s.heap H locs → lv_has ls 7 [(0, .ref (E.2.2 10 27)), (1, .ref (E.2.2 11 29)), (3, .int y3), (4, .int y4), (5, .int y5), (6, .int y6)] → W p l e (headSpec (Wm yL_arePages cL_arePages 7 (some .boolean)) ({ frames := 3, cells := 0, slots := 0, locals := 75 } : Room)).room s m ([Value.ref (E.2.2 10 27), Value.ref (E.2.2 11 29), Value.ref (E.2.2 11 30)] : List Value).toArray below meth c H locs 0 0 (MQ below (QI E r0 M) ([Value.ref (E.2.2 10 27), Value.ref (E.2.2 11 29), Value.ref (E.2.2 11 30)] : List Value).toArray s 0 0 (AA E)) (F0 m 301 ls []) := by
        intro n301
        induction n301 with
        | zero => intro y3 y4 y5 y6 H locs ls h; exact (nomatch (show (none : Option Int32) = some _ from h))
        | succ n301 ih301 =>
          intro y3 y4 y5 y6 H locs ls h hP hS hl
          have h : f_L_arePages_L301 M (itr (f_L_arePages_L237 M) (fun _ _ => none) n237) (itr (f_L_arePages_L301 M (itr (f_L_arePages_L237 M) (fun _ _ => none) n237)) (fun _ _ _ _ => none) n301) y3 y4 y5 y6 = some r0 := h
          have w_L346 : ∀  (y4 y5 y6 z0 : Int32) (H : Heap) (locs : List Loc) (ls : Array Slot), f_L_arePages_L346 M (itr (f_L_arePages_L237 M) (fun _ _ => none) n237) (itr (f_L_arePages_L301 M (itr (f_L_arePages_L237 M) (fun _ _ => none) n237)) (fun _ _ _ _ => none) n301) y4 y5 y6 z0 = some r0 → va_P E.1 vwCl (wl E M) H → va_S (AA E) s.heap H locs → lv_has ls 7 [(0, .ref (E.2.2 10 27)), (1, .ref (E.2.2 11 29)), (4, .int y4), (5, .int y5), (6, .int y6)] → W p l e (headSpec (Wm yL_arePages cL_arePages 7 (some .boolean)) ({ frames := 3, cells := 0, slots := 0, locals := 75 } : Room)).room s m ([Value.ref (E.2.2 10 27), Value.ref (E.2.2 11 29), Value.ref (E.2.2 11 30)] : List Value).toArray below meth c H locs 0 0 (MQ below (QI E r0 M) ([Value.ref (E.2.2 10 27), Value.ref (E.2.2 11 29), Value.ref (E.2.2 11 30)] : List Value).toArray s 0 0 (AA E)) (F0 m 346 ls [.int z0]) := by
            intro y4 y5 y6 z0 H locs ls h hP hS hl
            unfold f_L_arePages_L346 at h
            refine lv_istore_n (lv' := [(3, .int z0), (0, .ref (E.2.2 10 27)), (1, .ref (E.2.2 11 29)), (4, .int y4), (5, .int y5), (6, .int y6)]) hx hb dL_arePages_346 rfl hl (by decide) rfl (fun ls hl => ?_)
            obtain ⟨x17, ex17⟩ : ∃ y : Int32, y = y6 + (1 : Int32) := ⟨_, rfl⟩
            have h := bd_e h ex17
            refine lv_iinc (v := x17) (lv' := [(6, .int x17), (3, .int z0), (0, .ref (E.2.2 10 27)), (1, .ref (E.2.2 11 29)), (4, .int y4), (5, .int y5)]) hx hb dL_arePages_347 hl (k := 5) rfl (by rw [ex17]; rfl) (by decide) rfl (fun ls hl => ?_)
            refine lv_goto (tgt := 301) hx hb dL_arePages_350 (by decide) ?_
            exact ih301 _ _ _ _ _ _ _ h hP hS (lv_sub hl [2, 3, 1, 4, 5, 0] rfl)
          have w_L338 : ∀  (y4 y5 y6 z0 z1 : Int32) (H : Heap) (locs : List Loc) (ls : Array Slot), f_L_arePages_L338 M (itr (f_L_arePages_L237 M) (fun _ _ => none) n237) (itr (f_L_arePages_L301 M (itr (f_L_arePages_L237 M) (fun _ _ => none) n237)) (fun _ _ _ _ => none) n301) y4 y5 y6 z0 z1 = some r0 → va_P E.1 vwCl (wl E M) H → va_S (AA E) s.heap H locs → lv_has ls 7 [(0, .ref (E.2.2 10 27)), (1, .ref (E.2.2 11 29)), (4, .int y4), (5, .int y5), (6, .int y6)] → W p l e (headSpec (Wm yL_arePages cL_arePages 7 (some .boolean)) ({ frames := 3, cells := 0, slots := 0, locals := 75 } : Room)).room s m ([Value.ref (E.2.2 10 27), Value.ref (E.2.2 11 29), Value.ref (E.2.2 11 30)] : List Value).toArray below meth c H locs 0 0 (MQ below (QI E r0 M) ([Value.ref (E.2.2 10 27), Value.ref (E.2.2 11 29), Value.ref (E.2.2 11 30)] : List Value).toArray s 0 0 (AA E)) (F0 m 338 ls [.int z0, .int z1]) := by
            intro y4 y5 y6 z0 z1 H locs ls h hP hS hl
            unfold f_L_arePages_L338 at h
            refine lv_icmp_ne (tgt := 345) hx hb dL_arePages_338 (by decide) (fun c16 => ?_) (fun c16 => ?_)
            · have h := br_0 h c16
              refine lv_iconst (v := 0) hx hb dL_arePages_345 (by decide) ?_
              exact w_L346 _ _ _ _ _ _ _ h hP hS (lv_sub hl [0, 1, 2, 3, 4] rfl)
            · have h := br_1 h c16
              refine lv_iconst (v := 1) hx hb dL_arePages_341 (by decide) ?_
              refine lv_goto (tgt := 346) hx hb dL_arePages_342 (by decide) ?_
              exact w_L346 _ _ _ _ _ _ _ h hP hS (lv_sub hl [0, 1, 2, 3, 4] rfl)
          unfold f_L_arePages_L301 at h
          refine lv_iload hx hb dL_arePages_301 (lv_at hl 5 rfl) ?_
          refine lv_iconst (v := 4) hx hb dL_arePages_303 (by decide) ?_
          refine lv_icmp_ge (tgt := 353) hx hb dL_arePages_304 (by decide) (fun c11 => ?_) (fun c11 => ?_)
          · have h := br_1 h c11
            exact w_L353 _ _ _ _ _ h hP hS (lv_sub hl [0, 1, 2, 3] rfl)
          · have h := br_0 h c11
            refine lv_iload_n hx hb dL_arePages_307 rfl (lv_at hl 2 rfl) ?_
            refine lv_if_eq (tgt := 353) hx hb dL_arePages_308 (by decide) (fun c13 => ?_) (fun c13 => ?_)
            · have h := br_1 h c13
              exact w_L353 _ _ _ _ _ h hP hS (lv_sub hl [0, 1, 2, 3] rfl)
            · have h := br_0 h c13
              refine lv_aload_n hx hb dL_arePages_311 rfl (lv_at hl 0 rfl) ?_
              refine lv_iload hx hb dL_arePages_312 (lv_at hl 3 rfl) ?_
              refine lv_iload hx hb dL_arePages_314 (lv_at hl 5 rfl) ?_
              obtain ⟨v14, hv14, h⟩ := bO_e h
              refine mw_callVi X (c_X7_groupOf l E hA hv14) pk_X7_groupOf pv_X7_groupOf wm_145 ⟨Nat.le_of_ble_eq_true rfl, Nat.le_of_ble_eq_true rfl⟩ ⟨rfl, rfl⟩ hP hS ix_27 rfl rfl rfl rfl hl.1 (Nat.le_of_ble_eq_true rfl) ⟨Nat.zero_le _, Nat.zero_le _⟩ rfl dL_arePages_316 (fun H locs hP hS => ?_)
              refine lv_iload hx hb dL_arePages_319 (lv_at hl 4 rfl) ?_
              refine lv_if_eq (tgt := 336) hx hb dL_arePages_321 (by decide) (fun c15 => ?_) (fun c15 => ?_)
              · have h := br_1 h c15
                refine lv_ldc hx hb X.1.2.2.2.1 (X.1.2.2.2.2 _ wm_91) dL_arePages_336 ?_
                exact w_L338 _ _ _ _ _ _ _ _ h hP hS (lv_sub hl [0, 1, 3, 4, 5] rfl)
              · have h := br_0 h c15
                refine lv_aload_n hx hb dL_arePages_324 rfl (lv_at hl 1 rfl) ?_
                refine lv_iconst (v := 4) hx hb dL_arePages_325 (by decide) ?_
                refine lv_iload hx hb dL_arePages_326 (lv_at hl 3 rfl) ?_
                refine lv_imul hx hb dL_arePages_328 ?_
                refine lv_iload hx hb dL_arePages_329 (lv_at hl 5 rfl) ?_
                refine lv_iadd hx hb dL_arePages_331 ?_
                obtain ⟨g18, h⟩ := gd_e h
                refine mw_ld X hP ix_29 rfl (inb_vp g18) rfl dL_arePages_332 ?_
                refine lv_goto (tgt := 338) hx hb dL_arePages_333 (by decide) ?_
                exact w_L338 _ _ _ _ _ _ _ _ h hP hS (lv_sub hl [0, 1, 3, 4, 5] rfl)
      have w_L297 : ∀  (y4 y5 z0 : Int32) (H : Heap) (locs : List Loc) (ls : Array Slot), f_L_arePages_L297 M (itr (f_L_arePages_L237 M) (fun _ _ => none) n237) y4 y5 z0 = some r0 → va_P E.1 vwCl (wl E M) H → va_S (AA E) s.heap H locs → lv_has ls 7 [(0, .ref (E.2.2 10 27)), (1, .ref (E.2.2 11 29)), (4, .int y4), (5, .int y5)] → W p l e (headSpec (Wm yL_arePages cL_arePages 7 (some .boolean)) ({ frames := 3, cells := 0, slots := 0, locals := 75 } : Room)).room s m ([Value.ref (E.2.2 10 27), Value.ref (E.2.2 11 29), Value.ref (E.2.2 11 30)] : List Value).toArray below meth c H locs 0 0 (MQ below (QI E r0 M) ([Value.ref (E.2.2 10 27), Value.ref (E.2.2 11 29), Value.ref (E.2.2 11 30)] : List Value).toArray s 0 0 (AA E)) (F0 m 297 ls [.int z0]) := by
        intro y4 y5 z0 H locs ls h hP hS hl
        unfold f_L_arePages_L297 at h
        refine lv_istore_n (lv' := [(3, .int z0), (0, .ref (E.2.2 10 27)), (1, .ref (E.2.2 11 29)), (4, .int y4), (5, .int y5)]) hx hb dL_arePages_297 rfl hl (by decide) rfl (fun ls hl => ?_)
        refine lv_iconst (v := 1) hx hb dL_arePages_298 (by decide) ?_
        refine lv_istore (lv' := [(6, .int (1 : Int32)), (3, .int z0), (0, .ref (E.2.2 10 27)), (1, .ref (E.2.2 11 29)), (4, .int y4), (5, .int y5)]) hx hb dL_arePages_299 hl (by decide) rfl (fun ls hl => ?_)
        exact w_L301 FU _ _ _ _ _ _ _ h hP hS (lv_sub hl [2, 3, 1, 4, 5, 0] rfl)
      have w_L296 : ∀  (y4 y5 : Int32) (H : Heap) (locs : List Loc) (ls : Array Slot), f_L_arePages_L296 M (itr (f_L_arePages_L237 M) (fun _ _ => none) n237) y4 y5 = some r0 → va_P E.1 vwCl (wl E M) H → va_S (AA E) s.heap H locs → lv_has ls 7 [(0, .ref (E.2.2 10 27)), (1, .ref (E.2.2 11 29)), (4, .int y4), (5, .int y5)] → W p l e (headSpec (Wm yL_arePages cL_arePages 7 (some .boolean)) ({ frames := 3, cells := 0, slots := 0, locals := 75 } : Room)).room s m ([Value.ref (E.2.2 10 27), Value.ref (E.2.2 11 29), Value.ref (E.2.2 11 30)] : List Value).toArray below meth c H locs 0 0 (MQ below (QI E r0 M) ([Value.ref (E.2.2 10 27), Value.ref (E.2.2 11 29), Value.ref (E.2.2 11 30)] : List Value).toArray s 0 0 (AA E)) (F0 m 296 ls []) := by
        intro y4 y5 H locs ls h hP hS hl
        unfold f_L_arePages_L296 at h
        refine lv_iconst (v := 0) hx hb dL_arePages_296 (by decide) ?_
        exact w_L297 _ _ _ _ _ _ h hP hS (lv_sub hl [0, 1, 2, 3] rfl)
      have w_L262 : ∀  (y4 z0 : Int32) (H : Heap) (locs : List Loc) (ls : Array Slot), f_L_arePages_L262 M (itr (f_L_arePages_L237 M) (fun _ _ => none) n237) y4 z0 = some r0 → va_P E.1 vwCl (wl E M) H → va_S (AA E) s.heap H locs → lv_has ls 7 [(0, .ref (E.2.2 10 27)), (1, .ref (E.2.2 11 29)), (4, .int y4)] → W p l e (headSpec (Wm yL_arePages cL_arePages 7 (some .boolean)) ({ frames := 3, cells := 0, slots := 0, locals := 75 } : Room)).room s m ([Value.ref (E.2.2 10 27), Value.ref (E.2.2 11 29), Value.ref (E.2.2 11 30)] : List Value).toArray below meth c H locs 0 0 (MQ below (QI E r0 M) ([Value.ref (E.2.2 10 27), Value.ref (E.2.2 11 29), Value.ref (E.2.2 11 30)] : List Value).toArray s 0 0 (AA E)) (F0 m 262 ls [.int z0]) := by
        intro y4 z0 H locs ls h hP hS hl
        unfold f_L_arePages_L262 at h
        refine lv_istore (lv' := [(5, .int z0), (0, .ref (E.2.2 10 27)), (1, .ref (E.2.2 11 29)), (4, .int y4)]) hx hb dL_arePages_262 hl (by decide) rfl (fun ls hl => ?_)
        refine lv_aload_n hx hb dL_arePages_264 rfl (lv_at hl 1 rfl) ?_
        refine lv_iload hx hb dL_arePages_265 (lv_at hl 3 rfl) ?_
        refine lv_iconst (v := 0) hx hb dL_arePages_267 (by decide) ?_
        obtain ⟨v8, hv8, h⟩ := bO_e h
        refine mw_callVi X (c_X7_groupOf l E hA hv8) pk_X7_groupOf pv_X7_groupOf wm_145 ⟨Nat.le_of_ble_eq_true rfl, Nat.le_of_ble_eq_true rfl⟩ ⟨rfl, rfl⟩ hP hS ix_27 rfl rfl rfl rfl hl.1 (Nat.le_of_ble_eq_true rfl) ⟨Nat.zero_le _, Nat.zero_le _⟩ rfl dL_arePages_268 (fun H locs hP hS => ?_)
        refine lv_aload_n hx hb dL_arePages_271 rfl (lv_at hl 2 rfl) ?_
        refine lv_iconst (v := 4) hx hb dL_arePages_272 (by decide) ?_
        refine lv_iload hx hb dL_arePages_273 (lv_at hl 3 rfl) ?_
        refine lv_imul hx hb dL_arePages_275 ?_
        obtain ⟨g9, h⟩ := gd_e h
        refine mw_ld X hP ix_29 rfl (inb_vp g9) rfl dL_arePages_276 ?_
        refine lv_icmp_ne (tgt := 296) hx hb dL_arePages_277 (by decide) (fun c10 => ?_) (fun c10 => ?_)
        · have h := br_0 h c10
          exact w_L296 _ _ _ _ _ h hP hS (lv_sub hl [1, 2, 3, 0] rfl)
        · have h := br_1 h c10
          refine lv_aload_n hx hb dL_arePages_280 rfl (lv_at hl 1 rfl) ?_
          refine lv_iload hx hb dL_arePages_281 (lv_at hl 3 rfl) ?_
          refine lv_iconst (v := 4) hx hb dL_arePages_283 (by decide) ?_
          obtain ⟨v19, hv19, h⟩ := bO_e h
          refine mw_callVi X (c_X7_groupOf l E hA hv19) pk_X7_groupOf pv_X7_groupOf wm_145 ⟨Nat.le_of_ble_eq_true rfl, Nat.le_of_ble_eq_true rfl⟩ ⟨rfl, rfl⟩ hP hS ix_27 rfl rfl rfl rfl hl.1 (Nat.le_of_ble_eq_true rfl) ⟨Nat.zero_le _, Nat.zero_le _⟩ rfl dL_arePages_284 (fun H locs hP hS => ?_)
          refine lv_ldc hx hb X.1.2.2.2.1 (X.1.2.2.2.2 _ wm_7) dL_arePages_287 ?_
          refine lv_icmp_ne (tgt := 296) hx hb dL_arePages_289 (by decide) (fun c20 => ?_) (fun c20 => ?_)
          · have h := br_0 h c20
            exact w_L296 _ _ _ _ _ h hP hS (lv_sub hl [1, 2, 3, 0] rfl)
          · have h := br_1 h c20
            refine lv_iconst (v := 1) hx hb dL_arePages_292 (by decide) ?_
            refine lv_goto (tgt := 297) hx hb dL_arePages_293 (by decide) ?_
            exact w_L297 _ _ _ _ _ _ h hP hS (lv_sub hl [1, 2, 3, 0] rfl)
      unfold f_L_arePages_L237 at h
      refine lv_iload hx hb dL_arePages_237 (lv_at hl 3 rfl) ?_
      refine lv_iconst (v := 4) hx hb dL_arePages_239 (by decide) ?_
      refine lv_icmp_ge (tgt := 359) hx hb dL_arePages_240 (by decide) (fun c2 => ?_) (fun c2 => ?_)
      · have h := br_1 h c2
        refine lv_iload_n hx hb dL_arePages_359 rfl (lv_at hl 2 rfl) ?_
        obtain ⟨g3, h⟩ := gd_e h
        exact mw_zret X hr hlocks hP hS g3 (Option.some.inj h) rfl dL_arePages_360
      · have h := br_0 h c2
        refine lv_iload_n hx hb dL_arePages_243 rfl (lv_at hl 2 rfl) ?_
        refine lv_if_eq (tgt := 359) hx hb dL_arePages_244 (by decide) (fun c4 => ?_) (fun c4 => ?_)
        · have h := br_1 h c4
          refine lv_iload_n hx hb dL_arePages_359 rfl (lv_at hl 2 rfl) ?_
          obtain ⟨g5, h⟩ := gd_e h
          exact mw_zret X hr hlocks hP hS g5 (Option.some.inj h) rfl dL_arePages_360
        · have h := br_0 h c4
          refine lv_aload_n hx hb dL_arePages_247 rfl (lv_at hl 1 rfl) ?_
          refine lv_iconst (v := 4) hx hb dL_arePages_248 (by decide) ?_
          refine lv_iload hx hb dL_arePages_249 (lv_at hl 3 rfl) ?_
          refine lv_imul hx hb dL_arePages_251 ?_
          obtain ⟨g6, h⟩ := gd_e h
          refine mw_ld X hP ix_29 rfl (inb_vp g6) rfl dL_arePages_252 ?_
          refine lv_iconst (v := 1) hx hb dL_arePages_253 (by decide) ?_
          refine lv_icmp_ne (tgt := 261) hx hb dL_arePages_254 (by decide) (fun c7 => ?_) (fun c7 => ?_)
          · have h := br_0 h c7
            refine lv_iconst (v := 0) hx hb dL_arePages_261 (by decide) ?_
            exact w_L262 _ _ _ _ _ h hP hS (lv_sub hl [0, 1, 3] rfl)
          · have h := br_1 h c7
            refine lv_iconst (v := 1) hx hb dL_arePages_257 (by decide) ?_
            refine lv_goto (tgt := 262) hx hb dL_arePages_258 (by decide) ?_
            exact w_L262 _ _ _ _ _ h hP hS (lv_sub hl [0, 1, 3] rfl)
  have w_L234 : ∀  (y3 : Int32) (H : Heap) (locs : List Loc) (ls : Array Slot), f_L_arePages_L234 M y3 = some r0 → va_P E.1 vwCl (wl E M) H → va_S (AA E) s.heap H locs → lv_has ls 7 [(0, .ref (E.2.2 10 27)), (1, .ref (E.2.2 11 29)), (3, .int y3)] → W p l e (headSpec (Wm yL_arePages cL_arePages 7 (some .boolean)) ({ frames := 3, cells := 0, slots := 0, locals := 75 } : Room)).room s m ([Value.ref (E.2.2 10 27), Value.ref (E.2.2 11 29), Value.ref (E.2.2 11 30)] : List Value).toArray below meth c H locs 0 0 (MQ below (QI E r0 M) ([Value.ref (E.2.2 10 27), Value.ref (E.2.2 11 29), Value.ref (E.2.2 11 30)] : List Value).toArray s 0 0 (AA E)) (F0 m 234 ls []) := by
    intro y3 H locs ls h hP hS hl
    unfold f_L_arePages_L234 at h
    refine lv_iconst (v := 0) hx hb dL_arePages_234 (by decide) ?_
    refine lv_istore (lv' := [(4, .int (0 : Int32)), (0, .ref (E.2.2 10 27)), (1, .ref (E.2.2 11 29)), (3, .int y3)]) hx hb dL_arePages_235 hl (by decide) rfl (fun ls hl => ?_)
    exact w_L237 FU _ _ _ _ _ h hP hS (lv_sub hl [1, 2, 3, 0] rfl)
  have w_L5 : ∀ (n5 : Nat)  (y3 y4 : Int32) (H : Heap) (locs : List Loc) (ls : Array Slot), itr (f_L_arePages_L5 M) (fun _ _ => none) n5 y3 y4 = some r0 → va_P E.1 vwCl (wl E M) H → va_S (AA E) s.heap H locs → lv_has ls 7 [(0, .ref (E.2.2 10 27)), (1, .ref (E.2.2 11 29)), (2, .ref (E.2.2 11 30)), (3, .int y3), (4, .int y4)] → W p l e (headSpec (Wm yL_arePages cL_arePages 7 (some .boolean)) ({ frames := 3, cells := 0, slots := 0, locals := 75 } : Room)).room s m ([Value.ref (E.2.2 10 27), Value.ref (E.2.2 11 29), Value.ref (E.2.2 11 30)] : List Value).toArray below meth c H locs 0 0 (MQ below (QI E r0 M) ([Value.ref (E.2.2 10 27), Value.ref (E.2.2 11 29), Value.ref (E.2.2 11 30)] : List Value).toArray s 0 0 (AA E)) (F0 m 5 ls []) := by
    intro n5
    induction n5 with
    | zero => intro y3 y4 H locs ls h; exact (nomatch (show (none : Option Int32) = some _ from h))
    | succ n5 ih5 =>
      intro y3 y4 H locs ls h hP hS hl
      have h : f_L_arePages_L5 M (itr (f_L_arePages_L5 M) (fun _ _ => none) n5) y3 y4 = some r0 := h
      have w_L227 : ∀  (y4 z0 : Int32) (H : Heap) (locs : List Loc) (ls : Array Slot), f_L_arePages_L227 M (itr (f_L_arePages_L5 M) (fun _ _ => none) n5) y4 z0 = some r0 → va_P E.1 vwCl (wl E M) H → va_S (AA E) s.heap H locs → lv_has ls 7 [(0, .ref (E.2.2 10 27)), (1, .ref (E.2.2 11 29)), (2, .ref (E.2.2 11 30)), (4, .int y4)] → W p l e (headSpec (Wm yL_arePages cL_arePages 7 (some .boolean)) ({ frames := 3, cells := 0, slots := 0, locals := 75 } : Room)).room s m ([Value.ref (E.2.2 10 27), Value.ref (E.2.2 11 29), Value.ref (E.2.2 11 30)] : List Value).toArray below meth c H locs 0 0 (MQ below (QI E r0 M) ([Value.ref (E.2.2 10 27), Value.ref (E.2.2 11 29), Value.ref (E.2.2 11 30)] : List Value).toArray s 0 0 (AA E)) (F0 m 227 ls [.int z0]) := by
        intro y4 z0 H locs ls h hP hS hl
        unfold f_L_arePages_L227 at h
        refine lv_istore_n (lv' := [(3, .int z0), (0, .ref (E.2.2 10 27)), (1, .ref (E.2.2 11 29)), (2, .ref (E.2.2 11 30)), (4, .int y4)]) hx hb dL_arePages_227 rfl hl (by decide) rfl (fun ls hl => ?_)
        obtain ⟨x29, ex29⟩ : ∃ y : Int32, y = y4 + (1 : Int32) := ⟨_, rfl⟩
        have h := bd_e h ex29
        refine lv_iinc (v := x29) (lv' := [(4, .int x29), (3, .int z0), (0, .ref (E.2.2 10 27)), (1, .ref (E.2.2 11 29)), (2, .ref (E.2.2 11 30))]) hx hb dL_arePages_228 hl (k := 4) rfl (by rw [ex29]; rfl) (by decide) rfl (fun ls hl => ?_)
        refine lv_goto (tgt := 5) hx hb dL_arePages_231 (by decide) ?_
        exact ih5 _ _ _ _ _ h hP hS (lv_sub hl [2, 3, 4, 1, 0] rfl)
      have w_L226 : ∀  (y4 : Int32) (H : Heap) (locs : List Loc) (ls : Array Slot), f_L_arePages_L226 M (itr (f_L_arePages_L5 M) (fun _ _ => none) n5) y4 = some r0 → va_P E.1 vwCl (wl E M) H → va_S (AA E) s.heap H locs → lv_has ls 7 [(0, .ref (E.2.2 10 27)), (1, .ref (E.2.2 11 29)), (2, .ref (E.2.2 11 30)), (4, .int y4)] → W p l e (headSpec (Wm yL_arePages cL_arePages 7 (some .boolean)) ({ frames := 3, cells := 0, slots := 0, locals := 75 } : Room)).room s m ([Value.ref (E.2.2 10 27), Value.ref (E.2.2 11 29), Value.ref (E.2.2 11 30)] : List Value).toArray below meth c H locs 0 0 (MQ below (QI E r0 M) ([Value.ref (E.2.2 10 27), Value.ref (E.2.2 11 29), Value.ref (E.2.2 11 30)] : List Value).toArray s 0 0 (AA E)) (F0 m 226 ls []) := by
        intro y4 H locs ls h hP hS hl
        unfold f_L_arePages_L226 at h
        refine lv_iconst (v := 0) hx hb dL_arePages_226 (by decide) ?_
        exact w_L227 _ _ _ _ _ h hP hS (lv_sub hl [0, 1, 2, 3] rfl)
      have w_L206 : ∀  (y4 z0 z1 : Int32) (H : Heap) (locs : List Loc) (ls : Array Slot), f_L_arePages_L206 M (itr (f_L_arePages_L5 M) (fun _ _ => none) n5) y4 z0 z1 = some r0 → va_P E.1 vwCl (wl E M) H → va_S (AA E) s.heap H locs → lv_has ls 7 [(0, .ref (E.2.2 10 27)), (1, .ref (E.2.2 11 29)), (2, .ref (E.2.2 11 30)), (4, .int y4)] → W p l e (headSpec (Wm yL_arePages cL_arePages 7 (some .boolean)) ({ frames := 3, cells := 0, slots := 0, locals := 75 } : Room)).room s m ([Value.ref (E.2.2 10 27), Value.ref (E.2.2 11 29), Value.ref (E.2.2 11 30)] : List Value).toArray below meth c H locs 0 0 (MQ below (QI E r0 M) ([Value.ref (E.2.2 10 27), Value.ref (E.2.2 11 29), Value.ref (E.2.2 11 30)] : List Value).toArray s 0 0 (AA E)) (F0 m 206 ls [.int z0, .int z1]) := by
        intro y4 z0 z1 H locs ls h hP hS hl
        unfold f_L_arePages_L206 at h
        refine lv_icmp_ne (tgt := 226) hx hb dL_arePages_206 (by decide) (fun c50 => ?_) (fun c50 => ?_)
        · have h := br_0 h c50
          exact w_L226 _ _ _ _ h hP hS (lv_sub hl [0, 1, 2, 3] rfl)
        · have h := br_1 h c50
          refine lv_aload_n hx hb dL_arePages_209 rfl (lv_at hl 0 rfl) ?_
          refine lv_iload hx hb dL_arePages_210 (lv_at hl 3 rfl) ?_
          refine lv_bipush (v := 9) hx hb dL_arePages_212 (by decide) ?_
          obtain ⟨v51, hv51, h⟩ := bO_e h
          refine mw_callVi X (c_X7_pageOf l E hA hv51) pk_X7_pageOf pv_X7_pageOf wm_101 ⟨Nat.le_of_ble_eq_true rfl, Nat.le_of_ble_eq_true rfl⟩ ⟨rfl, rfl⟩ hP hS ix_27 rfl rfl rfl rfl hl.1 (Nat.le_of_ble_eq_true rfl) ⟨Nat.zero_le _, Nat.zero_le _⟩ rfl dL_arePages_214 (fun H locs hP hS => ?_)
          refine lv_ldc hx hb X.1.2.2.2.1 (X.1.2.2.2.2 _ wm_7) dL_arePages_217 ?_
          refine lv_icmp_ne (tgt := 226) hx hb dL_arePages_219 (by decide) (fun c52 => ?_) (fun c52 => ?_)
          · have h := br_0 h c52
            exact w_L226 _ _ _ _ h hP hS (lv_sub hl [0, 1, 2, 3] rfl)
          · have h := br_1 h c52
            refine lv_iconst (v := 1) hx hb dL_arePages_222 (by decide) ?_
            refine lv_goto (tgt := 227) hx hb dL_arePages_223 (by decide) ?_
            exact w_L227 _ _ _ _ _ h hP hS (lv_sub hl [0, 1, 2, 3] rfl)
      have w_L183 : ∀  (y4 y6 z0 z1 : Int32) (H : Heap) (locs : List Loc) (ls : Array Slot), f_L_arePages_L183 M (itr (f_L_arePages_L5 M) (fun _ _ => none) n5) y4 y6 z0 z1 = some r0 → va_P E.1 vwCl (wl E M) H → va_S (AA E) s.heap H locs → lv_has ls 7 [(0, .ref (E.2.2 10 27)), (1, .ref (E.2.2 11 29)), (2, .ref (E.2.2 11 30)), (4, .int y4), (6, .int y6)] → W p l e (headSpec (Wm yL_arePages cL_arePages 7 (some .boolean)) ({ frames := 3, cells := 0, slots := 0, locals := 75 } : Room)).room s m ([Value.ref (E.2.2 10 27), Value.ref (E.2.2 11 29), Value.ref (E.2.2 11 30)] : List Value).toArray below meth c H locs 0 0 (MQ below (QI E r0 M) ([Value.ref (E.2.2 10 27), Value.ref (E.2.2 11 29), Value.ref (E.2.2 11 30)] : List Value).toArray s 0 0 (AA E)) (F0 m 183 ls [.int z0, .int z1]) := by
        intro y4 y6 z0 z1 H locs ls h hP hS hl
        unfold f_L_arePages_L183 at h
        refine lv_icmp_ne (tgt := 226) hx hb dL_arePages_183 (by decide) (fun c47 => ?_) (fun c47 => ?_)
        · have h := br_0 h c47
          exact w_L226 _ _ _ _ h hP hS (lv_sub hl [0, 1, 2, 3] rfl)
        · have h := br_1 h c47
          refine lv_aload_n hx hb dL_arePages_186 rfl (lv_at hl 0 rfl) ?_
          refine lv_iload hx hb dL_arePages_187 (lv_at hl 3 rfl) ?_
          refine lv_bipush (v := 7) hx hb dL_arePages_189 (by decide) ?_
          obtain ⟨v48, hv48, h⟩ := bO_e h
          refine mw_callVi X (c_X7_pageOf l E hA hv48) pk_X7_pageOf pv_X7_pageOf wm_101 ⟨Nat.le_of_ble_eq_true rfl, Nat.le_of_ble_eq_true rfl⟩ ⟨rfl, rfl⟩ hP hS ix_27 rfl rfl rfl rfl hl.1 (Nat.le_of_ble_eq_true rfl) ⟨Nat.zero_le _, Nat.zero_le _⟩ rfl dL_arePages_191 (fun H locs hP hS => ?_)
          refine lv_iload hx hb dL_arePages_194 (lv_at hl 4 rfl) ?_
          refine lv_if_ge (tgt := 204) hx hb dL_arePages_196 (by decide) (fun c49 => ?_) (fun c49 => ?_)
          · have h := br_1 h c49
            refine lv_iload hx hb dL_arePages_204 (lv_at hl 4 rfl) ?_
            exact w_L206 _ _ _ _ _ _ h hP hS (lv_sub hl [0, 1, 2, 3] rfl)
          · have h := br_0 h c49
            refine lv_ldc hx hb X.1.2.2.2.1 (X.1.2.2.2.2 _ wm_91) dL_arePages_199 ?_
            refine lv_goto (tgt := 206) hx hb dL_arePages_201 (by decide) ?_
            exact w_L206 _ _ _ _ _ _ h hP hS (lv_sub hl [0, 1, 2, 3] rfl)
      have w_L153 : ∀  (y4 y5 y6 z0 z1 : Int32) (H : Heap) (locs : List Loc) (ls : Array Slot), f_L_arePages_L153 M (itr (f_L_arePages_L5 M) (fun _ _ => none) n5) y4 y5 y6 z0 z1 = some r0 → va_P E.1 vwCl (wl E M) H → va_S (AA E) s.heap H locs → lv_has ls 7 [(0, .ref (E.2.2 10 27)), (1, .ref (E.2.2 11 29)), (2, .ref (E.2.2 11 30)), (4, .int y4), (5, .int y5), (6, .int y6)] → W p l e (headSpec (Wm yL_arePages cL_arePages 7 (some .boolean)) ({ frames := 3, cells := 0, slots := 0, locals := 75 } : Room)).room s m ([Value.ref (E.2.2 10 27), Value.ref (E.2.2 11 29), Value.ref (E.2.2 11 30)] : List Value).toArray below meth c H locs 0 0 (MQ below (QI E r0 M) ([Value.ref (E.2.2 10 27), Value.ref (E.2.2 11 29), Value.ref (E.2.2 11 30)] : List Value).toArray s 0 0 (AA E)) (F0 m 153 ls [.int z0, .int z1]) := by
        intro y4 y5 y6 z0 z1 H locs ls h hP hS hl
        unfold f_L_arePages_L153 at h
        refine lv_icmp_ne (tgt := 226) hx hb dL_arePages_153 (by decide) (fun c44 => ?_) (fun c44 => ?_)
        · have h := br_0 h c44
          exact w_L226 _ _ _ _ h hP hS (lv_sub hl [0, 1, 2, 3] rfl)
        · have h := br_1 h c44
          refine lv_aload_n hx hb dL_arePages_156 rfl (lv_at hl 0 rfl) ?_
          refine lv_iload hx hb dL_arePages_157 (lv_at hl 3 rfl) ?_
          refine lv_bipush (v := 6) hx hb dL_arePages_159 (by decide) ?_
          obtain ⟨v45, hv45, h⟩ := bO_e h
          refine mw_callVi X (c_X7_pageOf l E hA hv45) pk_X7_pageOf pv_X7_pageOf wm_101 ⟨Nat.le_of_ble_eq_true rfl, Nat.le_of_ble_eq_true rfl⟩ ⟨rfl, rfl⟩ hP hS ix_27 rfl rfl rfl rfl hl.1 (Nat.le_of_ble_eq_true rfl) ⟨Nat.zero_le _, Nat.zero_le _⟩ rfl dL_arePages_161 (fun H locs hP hS => ?_)
          refine lv_iload hx hb dL_arePages_164 (lv_at hl 4 rfl) ?_
          refine lv_if_eq (tgt := 181) hx hb dL_arePages_166 (by decide) (fun c46 => ?_) (fun c46 => ?_)
          · have h := br_1 h c46
            refine lv_ldc hx hb X.1.2.2.2.1 (X.1.2.2.2.2 _ wm_91) dL_arePages_181 ?_
            exact w_L183 _ _ _ _ _ _ _ h hP hS (lv_sub hl [0, 1, 2, 3, 5] rfl)
          · have h := br_0 h c46
            refine lv_aload_n hx hb dL_arePages_169 rfl (lv_at hl 2 rfl) ?_
            refine lv_bipush (v := 6) hx hb dL_arePages_170 (by decide) ?_
            refine lv_iload hx hb dL_arePages_172 (lv_at hl 3 rfl) ?_
            refine lv_imul hx hb dL_arePages_174 ?_
            refine lv_iconst (v := 5) hx hb dL_arePages_175 (by decide) ?_
            refine lv_iadd hx hb dL_arePages_176 ?_
            obtain ⟨g53, h⟩ := gd_e h
            refine mw_ld X hP ix_30 rfl (inb_vp g53) rfl dL_arePages_177 ?_
            refine lv_goto (tgt := 183) hx hb dL_arePages_178 (by decide) ?_
            exact w_L183 _ _ _ _ _ _ _ h hP hS (lv_sub hl [0, 1, 2, 3, 5] rfl)
      have w_L39 : ∀  (y4 z0 : Int32) (H : Heap) (locs : List Loc) (ls : Array Slot), f_L_arePages_L39 M (itr (f_L_arePages_L5 M) (fun _ _ => none) n5) y4 z0 = some r0 → va_P E.1 vwCl (wl E M) H → va_S (AA E) s.heap H locs → lv_has ls 7 [(0, .ref (E.2.2 10 27)), (1, .ref (E.2.2 11 29)), (2, .ref (E.2.2 11 30)), (4, .int y4)] → W p l e (headSpec (Wm yL_arePages cL_arePages 7 (some .boolean)) ({ frames := 3, cells := 0, slots := 0, locals := 75 } : Room)).room s m ([Value.ref (E.2.2 10 27), Value.ref (E.2.2 11 29), Value.ref (E.2.2 11 30)] : List Value).toArray below meth c H locs 0 0 (MQ below (QI E r0 M) ([Value.ref (E.2.2 10 27), Value.ref (E.2.2 11 29), Value.ref (E.2.2 11 30)] : List Value).toArray s 0 0 (AA E)) (F0 m 39 ls [.int z0]) := by
        intro y4 z0 H locs ls h hP hS hl
        unfold f_L_arePages_L39 at h
        refine lv_istore (lv' := [(5, .int z0), (0, .ref (E.2.2 10 27)), (1, .ref (E.2.2 11 29)), (2, .ref (E.2.2 11 30)), (4, .int y4)]) hx hb dL_arePages_39 hl (by decide) rfl (fun ls hl => ?_)
        refine lv_aload_n hx hb dL_arePages_41 rfl (lv_at hl 2 rfl) ?_
        refine lv_iload hx hb dL_arePages_42 (lv_at hl 4 rfl) ?_
        obtain ⟨v25, hv25, h⟩ := bO_e h
        refine mw_callSi X (c_L_holder l E hA hv25) pk_L_holder wm_99 wm_98 ⟨Nat.le_of_ble_eq_true rfl, Nat.le_of_ble_eq_true rfl⟩ ⟨rfl, rfl⟩ hP hS rfl hl.1 (Nat.le_of_ble_eq_true rfl) ⟨Nat.zero_le _, Nat.zero_le _⟩ rfl dL_arePages_44 (fun H locs hP hS => ?_)
        refine lv_istore (lv' := [(6, .int v25), (5, .int z0), (0, .ref (E.2.2 10 27)), (1, .ref (E.2.2 11 29)), (2, .ref (E.2.2 11 30)), (4, .int y4)]) hx hb dL_arePages_47 hl (by decide) rfl (fun ls hl => ?_)
        refine lv_aload_n hx hb dL_arePages_49 rfl (lv_at hl 2 rfl) ?_
        refine lv_iload hx hb dL_arePages_50 (lv_at hl 5 rfl) ?_
        refine lv_iconst (v := 0) hx hb dL_arePages_52 (by decide) ?_
        obtain ⟨v26, hv26, h⟩ := bO_e h
        refine mw_callVi X (c_X7_pageOf l E hA hv26) pk_X7_pageOf pv_X7_pageOf wm_101 ⟨Nat.le_of_ble_eq_true rfl, Nat.le_of_ble_eq_true rfl⟩ ⟨rfl, rfl⟩ hP hS ix_27 rfl rfl rfl rfl hl.1 (Nat.le_of_ble_eq_true rfl) ⟨Nat.zero_le _, Nat.zero_le _⟩ rfl dL_arePages_53 (fun H locs hP hS => ?_)
        refine lv_aload_n hx hb dL_arePages_56 rfl (lv_at hl 4 rfl) ?_
        refine lv_iload hx hb dL_arePages_57 (lv_at hl 5 rfl) ?_
        obtain ⟨v27, hv27, h⟩ := bO_e h
        refine mw_callSi X (c_L_value l E hA hv27) pk_L_value wm_143 wm_142 ⟨Nat.le_of_ble_eq_true rfl, Nat.le_of_ble_eq_true rfl⟩ ⟨rfl, rfl⟩ hP hS rfl hl.1 (Nat.le_of_ble_eq_true rfl) ⟨Nat.zero_le _, Nat.zero_le _⟩ rfl dL_arePages_59 (fun H locs hP hS => ?_)
        refine lv_icmp_ne (tgt := 226) hx hb dL_arePages_62 (by decide) (fun c28 => ?_) (fun c28 => ?_)
        · have h := br_0 h c28
          exact w_L226 _ _ _ _ h hP hS (lv_sub hl [2, 3, 4, 5] rfl)
        · have h := br_1 h c28
          refine lv_aload_n hx hb dL_arePages_65 rfl (lv_at hl 2 rfl) ?_
          refine lv_iload hx hb dL_arePages_66 (lv_at hl 5 rfl) ?_
          refine lv_iconst (v := 1) hx hb dL_arePages_68 (by decide) ?_
          obtain ⟨v30, hv30, h⟩ := bO_e h
          refine mw_callVi X (c_X7_pageOf l E hA hv30) pk_X7_pageOf pv_X7_pageOf wm_101 ⟨Nat.le_of_ble_eq_true rfl, Nat.le_of_ble_eq_true rfl⟩ ⟨rfl, rfl⟩ hP hS ix_27 rfl rfl rfl rfl hl.1 (Nat.le_of_ble_eq_true rfl) ⟨Nat.zero_le _, Nat.zero_le _⟩ rfl dL_arePages_69 (fun H locs hP hS => ?_)
          refine lv_aload_n hx hb dL_arePages_72 rfl (lv_at hl 4 rfl) ?_
          refine lv_iload hx hb dL_arePages_73 (lv_at hl 5 rfl) ?_
          obtain ⟨v31, hv31, h⟩ := bO_e h
          refine mw_callSi X (c_L_mark l E hA hv31) pk_L_mark wm_96 wm_95 ⟨Nat.le_of_ble_eq_true rfl, Nat.le_of_ble_eq_true rfl⟩ ⟨rfl, rfl⟩ hP hS rfl hl.1 (Nat.le_of_ble_eq_true rfl) ⟨Nat.zero_le _, Nat.zero_le _⟩ rfl dL_arePages_75 (fun H locs hP hS => ?_)
          refine lv_icmp_ne (tgt := 226) hx hb dL_arePages_78 (by decide) (fun c32 => ?_) (fun c32 => ?_)
          · have h := br_0 h c32
            exact w_L226 _ _ _ _ h hP hS (lv_sub hl [2, 3, 4, 5] rfl)
          · have h := br_1 h c32
            refine lv_aload_n hx hb dL_arePages_81 rfl (lv_at hl 2 rfl) ?_
            refine lv_iload hx hb dL_arePages_82 (lv_at hl 5 rfl) ?_
            refine lv_iconst (v := 2) hx hb dL_arePages_84 (by decide) ?_
            obtain ⟨v33, hv33, h⟩ := bO_e h
            refine mw_callVi X (c_X7_pageOf l E hA hv33) pk_X7_pageOf pv_X7_pageOf wm_101 ⟨Nat.le_of_ble_eq_true rfl, Nat.le_of_ble_eq_true rfl⟩ ⟨rfl, rfl⟩ hP hS ix_27 rfl rfl rfl rfl hl.1 (Nat.le_of_ble_eq_true rfl) ⟨Nat.zero_le _, Nat.zero_le _⟩ rfl dL_arePages_85 (fun H locs hP hS => ?_)
            refine lv_aload_n hx hb dL_arePages_88 rfl (lv_at hl 4 rfl) ?_
            refine lv_bipush (v := 6) hx hb dL_arePages_89 (by decide) ?_
            refine lv_iload hx hb dL_arePages_91 (lv_at hl 5 rfl) ?_
            refine lv_imul hx hb dL_arePages_93 ?_
            obtain ⟨g34, h⟩ := gd_e h
            refine mw_ld X hP ix_30 rfl (inb_vp g34) rfl dL_arePages_94 ?_
            refine lv_icmp_ne (tgt := 226) hx hb dL_arePages_95 (by decide) (fun c35 => ?_) (fun c35 => ?_)
            · have h := br_0 h c35
              exact w_L226 _ _ _ _ h hP hS (lv_sub hl [2, 3, 4, 5] rfl)
            · have h := br_1 h c35
              refine lv_aload_n hx hb dL_arePages_98 rfl (lv_at hl 2 rfl) ?_
              refine lv_iload hx hb dL_arePages_99 (lv_at hl 5 rfl) ?_
              refine lv_iconst (v := 3) hx hb dL_arePages_101 (by decide) ?_
              obtain ⟨v36, hv36, h⟩ := bO_e h
              refine mw_callVi X (c_X7_pageOf l E hA hv36) pk_X7_pageOf pv_X7_pageOf wm_101 ⟨Nat.le_of_ble_eq_true rfl, Nat.le_of_ble_eq_true rfl⟩ ⟨rfl, rfl⟩ hP hS ix_27 rfl rfl rfl rfl hl.1 (Nat.le_of_ble_eq_true rfl) ⟨Nat.zero_le _, Nat.zero_le _⟩ rfl dL_arePages_102 (fun H locs hP hS => ?_)
              refine lv_aload_n hx hb dL_arePages_105 rfl (lv_at hl 4 rfl) ?_
              refine lv_bipush (v := 6) hx hb dL_arePages_106 (by decide) ?_
              refine lv_iload hx hb dL_arePages_108 (lv_at hl 5 rfl) ?_
              refine lv_imul hx hb dL_arePages_110 ?_
              refine lv_iconst (v := 1) hx hb dL_arePages_111 (by decide) ?_
              refine lv_iadd hx hb dL_arePages_112 ?_
              obtain ⟨g37, h⟩ := gd_e h
              refine mw_ld X hP ix_30 rfl (inb_vp g37) rfl dL_arePages_113 ?_
              refine lv_icmp_ne (tgt := 226) hx hb dL_arePages_114 (by decide) (fun c38 => ?_) (fun c38 => ?_)
              · have h := br_0 h c38
                exact w_L226 _ _ _ _ h hP hS (lv_sub hl [2, 3, 4, 5] rfl)
              · have h := br_1 h c38
                refine lv_aload_n hx hb dL_arePages_117 rfl (lv_at hl 2 rfl) ?_
                refine lv_iload hx hb dL_arePages_118 (lv_at hl 5 rfl) ?_
                refine lv_iconst (v := 4) hx hb dL_arePages_120 (by decide) ?_
                obtain ⟨v39, hv39, h⟩ := bO_e h
                refine mw_callVi X (c_X7_pageOf l E hA hv39) pk_X7_pageOf pv_X7_pageOf wm_101 ⟨Nat.le_of_ble_eq_true rfl, Nat.le_of_ble_eq_true rfl⟩ ⟨rfl, rfl⟩ hP hS ix_27 rfl rfl rfl rfl hl.1 (Nat.le_of_ble_eq_true rfl) ⟨Nat.zero_le _, Nat.zero_le _⟩ rfl dL_arePages_121 (fun H locs hP hS => ?_)
                refine lv_aload_n hx hb dL_arePages_124 rfl (lv_at hl 4 rfl) ?_
                refine lv_bipush (v := 6) hx hb dL_arePages_125 (by decide) ?_
                refine lv_iload hx hb dL_arePages_127 (lv_at hl 5 rfl) ?_
                refine lv_imul hx hb dL_arePages_129 ?_
                refine lv_iconst (v := 2) hx hb dL_arePages_130 (by decide) ?_
                refine lv_iadd hx hb dL_arePages_131 ?_
                obtain ⟨g40, h⟩ := gd_e h
                refine mw_ld X hP ix_30 rfl (inb_vp g40) rfl dL_arePages_132 ?_
                refine lv_icmp_ne (tgt := 226) hx hb dL_arePages_133 (by decide) (fun c41 => ?_) (fun c41 => ?_)
                · have h := br_0 h c41
                  exact w_L226 _ _ _ _ h hP hS (lv_sub hl [2, 3, 4, 5] rfl)
                · have h := br_1 h c41
                  refine lv_aload_n hx hb dL_arePages_136 rfl (lv_at hl 2 rfl) ?_
                  refine lv_iload hx hb dL_arePages_137 (lv_at hl 5 rfl) ?_
                  refine lv_iconst (v := 5) hx hb dL_arePages_139 (by decide) ?_
                  obtain ⟨v42, hv42, h⟩ := bO_e h
                  refine mw_callVi X (c_X7_pageOf l E hA hv42) pk_X7_pageOf pv_X7_pageOf wm_101 ⟨Nat.le_of_ble_eq_true rfl, Nat.le_of_ble_eq_true rfl⟩ ⟨rfl, rfl⟩ hP hS ix_27 rfl rfl rfl rfl hl.1 (Nat.le_of_ble_eq_true rfl) ⟨Nat.zero_le _, Nat.zero_le _⟩ rfl dL_arePages_140 (fun H locs hP hS => ?_)
                  refine lv_iload hx hb dL_arePages_143 (lv_at hl 1 rfl) ?_
                  refine lv_if_eq (tgt := 152) hx hb dL_arePages_145 (by decide) (fun c43 => ?_) (fun c43 => ?_)
                  · have h := br_1 h c43
                    refine lv_iconst (v := 0) hx hb dL_arePages_152 (by decide) ?_
                    exact w_L153 _ _ _ _ _ _ _ _ h hP hS (lv_sub hl [2, 3, 4, 5, 1, 0] rfl)
                  · have h := br_0 h c43
                    refine lv_iconst (v := 1) hx hb dL_arePages_148 (by decide) ?_
                    refine lv_goto (tgt := 153) hx hb dL_arePages_149 (by decide) ?_
                    exact w_L153 _ _ _ _ _ _ _ _ h hP hS (lv_sub hl [2, 3, 4, 5, 1, 0] rfl)
      unfold f_L_arePages_L5 at h
      refine lv_iload hx hb dL_arePages_5 (lv_at hl 4 rfl) ?_
      refine lv_bipush (v := 8) hx hb dL_arePages_7 (by decide) ?_
      refine lv_icmp_ge (tgt := 234) hx hb dL_arePages_9 (by decide) (fun c1 => ?_) (fun c1 => ?_)
      · have h := br_1 h c1
        exact w_L234 _ _ _ _ h hP hS (lv_sub hl [0, 1, 3] rfl)
      · have h := br_0 h c1
        refine lv_iload_n hx hb dL_arePages_12 rfl (lv_at hl 3 rfl) ?_
        refine lv_if_eq (tgt := 234) hx hb dL_arePages_13 (by decide) (fun c21 => ?_) (fun c21 => ?_)
        · have h := br_1 h c21
          exact w_L234 _ _ _ _ h hP hS (lv_sub hl [0, 1, 3] rfl)
        · have h := br_0 h c21
          refine lv_aload_n hx hb dL_arePages_16 rfl (lv_at hl 2 rfl) ?_
          refine lv_iload hx hb dL_arePages_17 (lv_at hl 4 rfl) ?_
          obtain ⟨v22, hv22, h⟩ := bO_e h
          refine mw_callSi X (c_L_mark l E hA hv22) pk_L_mark wm_96 wm_95 ⟨Nat.le_of_ble_eq_true rfl, Nat.le_of_ble_eq_true rfl⟩ ⟨rfl, rfl⟩ hP hS rfl hl.1 (Nat.le_of_ble_eq_true rfl) ⟨Nat.zero_le _, Nat.zero_le _⟩ rfl dL_arePages_19 (fun H locs hP hS => ?_)
          refine lv_aload_n hx hb dL_arePages_22 rfl (lv_at hl 2 rfl) ?_
          refine lv_bipush (v := 6) hx hb dL_arePages_23 (by decide) ?_
          refine lv_iload hx hb dL_arePages_25 (lv_at hl 4 rfl) ?_
          refine lv_imul hx hb dL_arePages_27 ?_
          refine lv_iconst (v := 1) hx hb dL_arePages_28 (by decide) ?_
          refine lv_iadd hx hb dL_arePages_29 ?_
          obtain ⟨g23, h⟩ := gd_e h
          refine mw_ld X hP ix_30 rfl (inb_vp g23) rfl dL_arePages_30 ?_
          refine lv_icmp_eq (tgt := 38) hx hb dL_arePages_31 (by decide) (fun c24 => ?_) (fun c24 => ?_)
          · have h := br_1 h c24
            refine lv_iconst (v := 0) hx hb dL_arePages_38 (by decide) ?_
            exact w_L39 _ _ _ _ _ h hP hS (lv_sub hl [0, 1, 2, 4] rfl)
          · have h := br_0 h c24
            refine lv_iconst (v := 1) hx hb dL_arePages_34 (by decide) ?_
            refine lv_goto (tgt := 39) hx hb dL_arePages_35 (by decide) ?_
            exact w_L39 _ _ _ _ _ h hP hS (lv_sub hl [0, 1, 2, 4] rfl)
  unfold f_L_arePages at h
  refine lv_iconst (v := 1) hx hb dL_arePages_0 (by decide) ?_
  refine lv_istore_n (lv' := [(3, .int (1 : Int32)), (0, .ref (E.2.2 10 27)), (1, .ref (E.2.2 11 29)), (2, .ref (E.2.2 11 30))]) hx hb dL_arePages_1 rfl hl (by decide) rfl (fun ls hl => ?_)
  refine lv_iconst (v := 0) hx hb dL_arePages_2 (by decide) ?_
  refine lv_istore (lv' := [(4, .int (0 : Int32)), (3, .int (1 : Int32)), (0, .ref (E.2.2 10 27)), (1, .ref (E.2.2 11 29)), (2, .ref (E.2.2 11 30))]) hx hb dL_arePages_3 hl (by decide) rfl (fun ls hl => ?_)
  exact w_L5 FU _ _ _ _ _ h hP hS (lv_sub hl [2, 3, 4, 1, 0] rfl)
/-! SealedGroupsLaw.isSo -/
noncomputable def f_L_isSo_L373  (M : Mem) : Option Int32 :=
bO (f_X7_recordOf M (0 : Int32) (0 : Int32)) (fun v17 =>
(if v17 = (-1000001 : Int32) then
some (1 : Int32)
else
some (0 : Int32)))
noncomputable def f_L_isSo_L307  (M : Mem) (z0 : Int32) : Option Int32 :=
(if z0 = 0 then
some (0 : Int32)
else
bO (f_X7_count M (10 : Int32)) (fun v9 =>
(if v9 = (M 11 28 4) then
bO (f_X7_count M (12 : Int32)) (fun v11 =>
(if v11 = 0 then
bO (f_L_last M) (fun v13 =>
bO (f_X7_recordOf M (v13 + (1 : Int32)) (0 : Int32)) (fun v14 =>
(if v14 = (-1000004 : Int32) then
(if (M 11 28 0) = (1 : Int32) then
f_L_isSo_L373 M
else
bO (f_X7_recordOf M ((M 11 28 0) - (1 : Int32)) (0 : Int32)) (fun v19 =>
(if v19 = (-1000004 : Int32) then
f_L_isSo_L373 M
else
some (0 : Int32))))
else
some (0 : Int32))))
else
some (0 : Int32)))
else
some (0 : Int32))))
noncomputable def f_L_isSo_L306  (M : Mem) : Option Int32 :=
f_L_isSo_L307 M (0 : Int32)
noncomputable def f_L_isSo_L203  (M : Mem) (y8 z0 z1 : Int32) : Option Int32 :=
(if z1 = z0 then
bO (f_X7_count M (3 : Int32)) (fun v30 =>
(if v30 = (((M 11 28 2) - (M 11 28 0)) + (1 : Int32)) then
bO (f_X7_count M (4 : Int32)) (fun v32 =>
bO (f_L_open M) (fun v33 =>
(if v32 = v33 then
bO (f_X7_count M (5 : Int32)) (fun v35 =>
(if v35 = y8 then
bO (f_X7_count M (6 : Int32)) (fun v37 =>
bO (f_L_dirty M) (fun v38 =>
(if v37 = v38 then
bO (f_X7_count M (7 : Int32)) (fun v40 =>
(if v40 = (M 11 28 3) then
bO (f_X7_count M (8 : Int32)) (fun v42 =>
bO (f_L_latest M) (fun v43 =>
(if v42 = v43 then
bO (f_X7_count M (9 : Int32)) (fun v45 =>
bO (f_L_drop M) (fun v46 =>
(if v45 = v46 then
f_L_isSo_L307 M (1 : Int32)
else
f_L_isSo_L306 M)))
else
f_L_isSo_L306 M)))
else
f_L_isSo_L306 M))
else
f_L_isSo_L306 M)))
else
f_L_isSo_L306 M))
else
f_L_isSo_L306 M)))
else
f_L_isSo_L306 M))
else
f_L_isSo_L306 M)
noncomputable def f_L_isSo_L182  (M : Mem) (y8 y9 z0 z1 : Int32) : Option Int32 :=
(if z1 = z0 then
bO (f_X7_count M (2 : Int32)) (fun v26 =>
(if y9 = 0 then
bO (f_L_last M) (fun v28 =>
f_L_isSo_L203 M y8 v28 v26)
else
f_L_isSo_L203 M y8 (0 : Int32) v26))
else
f_L_isSo_L306 M)
noncomputable def f_L_isSo_L147  (M : Mem) (y7 y8 z0 : Int32) : Option Int32 :=
(if y7 = 0 then
f_L_isSo_L306 M
else
bO (f_X7_count M (0 : Int32)) (fun v21 =>
(if v21 = (M 11 28 1) then
bO (f_X7_count M (1 : Int32)) (fun v23 =>
(if z0 = 0 then
f_L_isSo_L182 M y8 z0 (M 11 28 0) v23
else
f_L_isSo_L182 M y8 z0 (0 : Int32) v23))
else
f_L_isSo_L306 M)))
noncomputable def f_L_isSo_L128  (M : Mem) (K79 : Int32 → Int32 → Int32 → Option Int32) (y8 y9 z0 : Int32) : Option Int32 :=
bd (y9 + (1 : Int32)) (fun x51 =>
K79 z0 y8 x51)
noncomputable def f_L_isSo_L127  (M : Mem) (K79 : Int32 → Int32 → Int32 → Option Int32) (y8 y9 : Int32) : Option Int32 :=
f_L_isSo_L128 M K79 y8 y9 (0 : Int32)
noncomputable def f_L_isSo_L79  (M : Mem) (K79 : Int32 → Int32 → Int32 → Option Int32) (y7 y8 y9 : Int32) : Option Int32 :=
(if (8 : Int32) ≤ y9 then
(if (M 11 28 1) = 0 then
f_L_isSo_L147 M y7 y8 (1 : Int32)
else
f_L_isSo_L147 M y7 y8 (0 : Int32))
else
gd (inb (((6 : Int32) * y9) + (2 : Int32)) 48) (
bd ((y8 + ((M 11 30 ((((6 : Int32) * y9) + (2 : Int32))).toNatClampNeg) <<< (y9 &&& 31)))) (fun x49 =>
(if y7 = 0 then
f_L_isSo_L127 M K79 x49 y9
else
gd (inb (((6 : Int32) * y9) + (1 : Int32)) 48) (
(if (M 11 28 2) < (M 11 30 ((((6 : Int32) * y9) + (1 : Int32))).toNatClampNeg) then
f_L_isSo_L127 M K79 x49 y9
else
f_L_isSo_L128 M K79 x49 y9 (1 : Int32)))))))
noncomputable def f_L_isSo_L73  (M : Mem) (y7 : Int32) : Option Int32 :=
itr (f_L_isSo_L79 M) (fun _ _ _ => none) FU y7 (0 : Int32) (0 : Int32)
noncomputable def f_L_isSo_L65  (M : Mem) (K13 : Int32 → Int32 → Int32 → Option Int32) (y6 y8 z0 : Int32) : Option Int32 :=
bd (y8 + (1 : Int32)) (fun x59 =>
K13 y6 z0 x59)
noncomputable def f_L_isSo_L60  (M : Mem) (K13 : Int32 → Int32 → Int32 → Option Int32) (y6 y8 : Int32) : Option Int32 :=
f_L_isSo_L65 M K13 y6 y8 (1 : Int32)
noncomputable def f_L_isSo_L48  (M : Mem) (K13 : Int32 → Int32 → Int32 → Option Int32) (y6 y8 : Int32) : Option Int32 :=
bO (f_L_isRecord M y8) (fun v57 =>
(if v57 = 0 then
f_L_isSo_L65 M K13 y6 y8 (0 : Int32)
else
f_L_isSo_L60 M K13 y6 y8))
noncomputable def f_L_isSo_L13  (M : Mem) (K13 : Int32 → Int32 → Int32 → Option Int32) (y6 y7 y8 : Int32) : Option Int32 :=
bO (f_L_last M) (fun v3 =>
(if v3 < y8 then
f_L_isSo_L73 M y7
else
(if y7 = 0 then
f_L_isSo_L73 M y7
else
gd (¬ (4 : Int32) = 0) (
(if ((y8 + y6) - (y8 + y6) / (4 : Int32) * (4 : Int32)) ≤ 0 then
f_L_isSo_L48 M K13 y6 y8
else
bO (f_L_last M) (fun v60 =>
(if y8 < (v60 - (2 : Int32)) then
f_L_isSo_L60 M K13 y6 y8
else
f_L_isSo_L48 M K13 y6 y8)))))))
noncomputable def f_L_isSo  (M : Mem) (a1 : Int32) : Option Int32 :=
bO (f_L_arePages M) (fun v1 =>
bd ((M 11 28 0)) (fun x2 =>
itr (f_L_isSo_L13 M) (fun _ _ _ => none) FU a1 v1 x2))
theorem pk_L_isSo : Pk "SealedGroupsLaw" yL_isSo cL_isSo 10 (some .boolean) 7 := ⟨wm_90, wm_89, rfl, by decide +kernel⟩
set_option maxHeartbeats 4000000 in
set_option maxRecDepth 100000 in
theorem c_L_isSo (l : Launch) (E : En) (hA : AdOK E) {M : Mem} {a1 : Int32} {r0 : Int32}  (h : f_L_isSo M a1 = some r0) : Met l yL_isSo (Wm yL_isSo cL_isSo 10 (some .boolean)) ({ frames := 4, cells := 0, slots := 0, locals := 111 } : Room) (va_Pc [Value.ref (E.2.2 10 27), Value.ref (E.2.2 11 28), Value.ref (E.2.2 11 29), Value.ref (E.2.2 11 30), Value.ref (E.2.2 11 31), Value.ref (E.2.2 11 32), Value.int a1] (Wd E M)) (QI E r0 M) 0 0 (AA E) := by
  refine Met.ofW (cc := cL_isSo) (maxL := 10) (ret := (some .boolean)) (by decide +kernel) rfl ?_
  intro p e s m args below meth c s₁ B hml hv
  obtain ⟨rfl, hP, hK⟩ := hv
  have X : Cx E (AA E) p s m c _ cL_isSo 10 RL := ⟨⟨B.exec, B.bytes, hml, findClass_of_methodNamed B.named, fun w hw => atoms_spec (ws := Wm yL_isSo cL_isSo 10 (some .boolean)) B.pre w (List.mem_cons_of_mem _ hw)⟩, hK, hA, fun _ h => h⟩
  have hx := B.exec
  have hb := B.bytes
  have hr := B.returns
  have hlocks := B.notSynchronized
  clear B hml
  have hS : va_S (AA E) s.heap s.heap [] := va_S.rf
  have hl := lv_entry ([Value.ref (E.2.2 10 27), Value.ref (E.2.2 11 28), Value.ref (E.2.2 11 29), Value.ref (E.2.2 11 30), Value.ref (E.2.2 11 31), Value.ref (E.2.2 11 32), Value.int a1]) (n := 10) (Nat.le_of_ble_eq_true rfl)
  rw [lg_entry_eq]
  generalize (lg_sl ([Value.ref (E.2.2 10 27), Value.ref (E.2.2 11 28), Value.ref (E.2.2 11 29), Value.ref (E.2.2 11 30), Value.ref (E.2.2 11 31), Value.ref (E.2.2 11 32), Value.int a1]) ++ List.replicate (10 - (lg_sl ([Value.ref (E.2.2 10 27), Value.ref (E.2.2 11 28), Value.ref (E.2.2 11 29), Value.ref (E.2.2 11 30), Value.ref (E.2.2 11 31), Value.ref (E.2.2 11 32), Value.int a1])).length) Slot.unset).toArray = ls at hl ⊢
  have hl : lv_has ls 10 [(0, .ref (E.2.2 10 27)), (1, .ref (E.2.2 11 28)), (2, .ref (E.2.2 11 29)), (3, .ref (E.2.2 11 30)), (4, .ref (E.2.2 11 31)), (5, .ref (E.2.2 11 32)), (6, .int a1)] := hl
  have w_L373 : ∀  (H : Heap) (locs : List Loc) (ls : Array Slot), f_L_isSo_L373 M  = some r0 → va_P E.1 vwCl (wl E M) H → va_S (AA E) s.heap H locs → lv_has ls 10 [(0, .ref (E.2.2 10 27))] → W p l e (headSpec (Wm yL_isSo cL_isSo 10 (some .boolean)) ({ frames := 4, cells := 0, slots := 0, locals := 111 } : Room)).room s m ([Value.ref (E.2.2 10 27), Value.ref (E.2.2 11 28), Value.ref (E.2.2 11 29), Value.ref (E.2.2 11 30), Value.ref (E.2.2 11 31), Value.ref (E.2.2 11 32), Value.int a1] : List Value).toArray below meth c H locs 0 0 (MQ below (QI E r0 M) ([Value.ref (E.2.2 10 27), Value.ref (E.2.2 11 28), Value.ref (E.2.2 11 29), Value.ref (E.2.2 11 30), Value.ref (E.2.2 11 31), Value.ref (E.2.2 11 32), Value.int a1] : List Value).toArray s 0 0 (AA E)) (F0 m 373 ls []) := by
    intro  H locs ls h hP hS hl
    unfold f_L_isSo_L373 at h
    refine lv_aload_n hx hb dL_isSo_373 rfl (lv_at hl 0 rfl) ?_
    refine lv_iconst (v := 0) hx hb dL_isSo_374 (by decide) ?_
    refine lv_iconst (v := 0) hx hb dL_isSo_375 (by decide) ?_
    obtain ⟨v17, hv17, h⟩ := bO_e h
    refine mw_callVi X (c_X7_recordOf l E hA hv17) pk_X7_recordOf pv_X7_recordOf wm_178 ⟨Nat.le_of_ble_eq_true rfl, Nat.le_of_ble_eq_true rfl⟩ ⟨rfl, rfl⟩ hP hS ix_27 rfl rfl rfl rfl hl.1 (Nat.le_of_ble_eq_true rfl) ⟨Nat.zero_le _, Nat.zero_le _⟩ rfl dL_isSo_376 (fun H locs hP hS => ?_)
    refine lv_ldc hx hb X.1.2.2.2.1 (X.1.2.2.2.2 _ wm_7) dL_isSo_379 ?_
    refine lv_icmp_ne (tgt := 388) hx hb dL_isSo_381 (by decide) (fun c18 => ?_) (fun c18 => ?_)
    · have h := br_0 h c18
      refine lv_iconst (v := 0) hx hb dL_isSo_388 (by decide) ?_
      exact mw_zret X hr hlocks hP hS (by decide) (Option.some.inj h) rfl dL_isSo_389
    · have h := br_1 h c18
      refine lv_iconst (v := 1) hx hb dL_isSo_384 (by decide) ?_
      refine lv_goto (tgt := 389) hx hb dL_isSo_385 (by decide) ?_
      exact mw_zret X hr hlocks hP hS (by decide) (Option.some.inj h) rfl dL_isSo_389
  have w_L307 : ∀  (z0 : Int32) (H : Heap) (locs : List Loc) (ls : Array Slot), f_L_isSo_L307 M z0 = some r0 → va_P E.1 vwCl (wl E M) H → va_S (AA E) s.heap H locs → lv_has ls 10 [(0, .ref (E.2.2 10 27)), (1, .ref (E.2.2 11 28))] → W p l e (headSpec (Wm yL_isSo cL_isSo 10 (some .boolean)) ({ frames := 4, cells := 0, slots := 0, locals := 111 } : Room)).room s m ([Value.ref (E.2.2 10 27), Value.ref (E.2.2 11 28), Value.ref (E.2.2 11 29), Value.ref (E.2.2 11 30), Value.ref (E.2.2 11 31), Value.ref (E.2.2 11 32), Value.int a1] : List Value).toArray below meth c H locs 0 0 (MQ below (QI E r0 M) ([Value.ref (E.2.2 10 27), Value.ref (E.2.2 11 28), Value.ref (E.2.2 11 29), Value.ref (E.2.2 11 30), Value.ref (E.2.2 11 31), Value.ref (E.2.2 11 32), Value.int a1] : List Value).toArray s 0 0 (AA E)) (F0 m 307 ls [.int z0]) := by
    intro z0 H locs ls h hP hS hl
    unfold f_L_isSo_L307 at h
    refine lv_istore (lv' := [(7, .int z0), (0, .ref (E.2.2 10 27)), (1, .ref (E.2.2 11 28))]) hx hb dL_isSo_307 hl (by decide) rfl (fun ls hl => ?_)
    refine lv_iload hx hb dL_isSo_309 (lv_at hl 0 rfl) ?_
    refine lv_if_eq (tgt := 388) hx hb dL_isSo_311 (by decide) (fun c8 => ?_) (fun c8 => ?_)
    · have h := br_1 h c8
      refine lv_iconst (v := 0) hx hb dL_isSo_388 (by decide) ?_
      exact mw_zret X hr hlocks hP hS (by decide) (Option.some.inj h) rfl dL_isSo_389
    · have h := br_0 h c8
      refine lv_aload_n hx hb dL_isSo_314 rfl (lv_at hl 1 rfl) ?_
      refine lv_bipush (v := 10) hx hb dL_isSo_315 (by decide) ?_
      obtain ⟨v9, hv9, h⟩ := bO_e h
      refine mw_callVi X (c_X7_count l E hA hv9) pk_X7_count pv_X7_count wm_195 ⟨Nat.le_of_ble_eq_true rfl, Nat.le_of_ble_eq_true rfl⟩ ⟨rfl, rfl⟩ hP hS ix_27 rfl rfl rfl rfl hl.1 (Nat.le_of_ble_eq_true rfl) ⟨Nat.zero_le _, Nat.zero_le _⟩ rfl dL_isSo_317 (fun H locs hP hS => ?_)
      refine lv_aload_n hx hb dL_isSo_320 rfl (lv_at hl 2 rfl) ?_
      refine lv_iconst (v := 4) hx hb dL_isSo_321 (by decide) ?_
      refine mw_ld X hP ix_28 rfl (v := (M 11 28 4)) (inb_vp (by decide)) rfl dL_isSo_322 ?_
      refine lv_icmp_ne (tgt := 388) hx hb dL_isSo_323 (by decide) (fun c10 => ?_) (fun c10 => ?_)
      · have h := br_0 h c10
        refine lv_iconst (v := 0) hx hb dL_isSo_388 (by decide) ?_
        exact mw_zret X hr hlocks hP hS (by decide) (Option.some.inj h) rfl dL_isSo_389
      · have h := br_1 h c10
        refine lv_aload_n hx hb dL_isSo_326 rfl (lv_at hl 1 rfl) ?_
        refine lv_bipush (v := 12) hx hb dL_isSo_327 (by decide) ?_
        obtain ⟨v11, hv11, h⟩ := bO_e h
        refine mw_callVi X (c_X7_count l E hA hv11) pk_X7_count pv_X7_count wm_195 ⟨Nat.le_of_ble_eq_true rfl, Nat.le_of_ble_eq_true rfl⟩ ⟨rfl, rfl⟩ hP hS ix_27 rfl rfl rfl rfl hl.1 (Nat.le_of_ble_eq_true rfl) ⟨Nat.zero_le _, Nat.zero_le _⟩ rfl dL_isSo_329 (fun H locs hP hS => ?_)
        refine lv_if_ne (tgt := 388) hx hb dL_isSo_332 (by decide) (fun c12 => ?_) (fun c12 => ?_)
        · have h := br_0 h c12
          refine lv_iconst (v := 0) hx hb dL_isSo_388 (by decide) ?_
          exact mw_zret X hr hlocks hP hS (by decide) (Option.some.inj h) rfl dL_isSo_389
        · have h := br_1 h c12
          refine lv_aload_n hx hb dL_isSo_335 rfl (lv_at hl 1 rfl) ?_
          refine lv_aload_n hx hb dL_isSo_336 rfl (lv_at hl 2 rfl) ?_
          obtain ⟨v13, hv13, h⟩ := bO_e h
          refine mw_callSi X (c_L_last l E hA hv13) pk_L_last wm_170 wm_169 ⟨Nat.le_of_ble_eq_true rfl, Nat.le_of_ble_eq_true rfl⟩ ⟨rfl, rfl⟩ hP hS rfl hl.1 (Nat.le_of_ble_eq_true rfl) ⟨Nat.zero_le _, Nat.zero_le _⟩ rfl dL_isSo_337 (fun H locs hP hS => ?_)
          refine lv_iconst (v := 1) hx hb dL_isSo_340 (by decide) ?_
          refine lv_iadd hx hb dL_isSo_341 ?_
          refine lv_iconst (v := 0) hx hb dL_isSo_342 (by decide) ?_
          obtain ⟨v14, hv14, h⟩ := bO_e h
          refine mw_callVi X (c_X7_recordOf l E hA hv14) pk_X7_recordOf pv_X7_recordOf wm_178 ⟨Nat.le_of_ble_eq_true rfl, Nat.le_of_ble_eq_true rfl⟩ ⟨rfl, rfl⟩ hP hS ix_27 rfl rfl rfl rfl hl.1 (Nat.le_of_ble_eq_true rfl) ⟨Nat.zero_le _, Nat.zero_le _⟩ rfl dL_isSo_343 (fun H locs hP hS => ?_)
          refine lv_ldc hx hb X.1.2.2.2.1 (X.1.2.2.2.2 _ wm_91) dL_isSo_346 ?_
          refine lv_icmp_ne (tgt := 388) hx hb dL_isSo_348 (by decide) (fun c15 => ?_) (fun c15 => ?_)
          · have h := br_0 h c15
            refine lv_iconst (v := 0) hx hb dL_isSo_388 (by decide) ?_
            exact mw_zret X hr hlocks hP hS (by decide) (Option.some.inj h) rfl dL_isSo_389
          · have h := br_1 h c15
            refine lv_aload_n hx hb dL_isSo_351 rfl (lv_at hl 2 rfl) ?_
            refine lv_iconst (v := 0) hx hb dL_isSo_352 (by decide) ?_
            refine mw_ld X hP ix_28 rfl (v := (M 11 28 0)) (inb_vp (by decide)) rfl dL_isSo_353 ?_
            refine lv_iconst (v := 1) hx hb dL_isSo_354 (by decide) ?_
            refine lv_icmp_eq (tgt := 373) hx hb dL_isSo_355 (by decide) (fun c16 => ?_) (fun c16 => ?_)
            · have h := br_1 h c16
              exact w_L373  _ _ _ h hP hS (lv_sub hl [1] rfl)
            · have h := br_0 h c16
              refine lv_aload_n hx hb dL_isSo_358 rfl (lv_at hl 1 rfl) ?_
              refine lv_aload_n hx hb dL_isSo_359 rfl (lv_at hl 2 rfl) ?_
              refine lv_iconst (v := 0) hx hb dL_isSo_360 (by decide) ?_
              refine mw_ld X hP ix_28 rfl (v := (M 11 28 0)) (inb_vp (by decide)) rfl dL_isSo_361 ?_
              refine lv_iconst (v := 1) hx hb dL_isSo_362 (by decide) ?_
              refine lv_isub hx hb dL_isSo_363 ?_
              refine lv_iconst (v := 0) hx hb dL_isSo_364 (by decide) ?_
              obtain ⟨v19, hv19, h⟩ := bO_e h
              refine mw_callVi X (c_X7_recordOf l E hA hv19) pk_X7_recordOf pv_X7_recordOf wm_178 ⟨Nat.le_of_ble_eq_true rfl, Nat.le_of_ble_eq_true rfl⟩ ⟨rfl, rfl⟩ hP hS ix_27 rfl rfl rfl rfl hl.1 (Nat.le_of_ble_eq_true rfl) ⟨Nat.zero_le _, Nat.zero_le _⟩ rfl dL_isSo_365 (fun H locs hP hS => ?_)
              refine lv_ldc hx hb X.1.2.2.2.1 (X.1.2.2.2.2 _ wm_91) dL_isSo_368 ?_
              refine lv_icmp_ne (tgt := 388) hx hb dL_isSo_370 (by decide) (fun c20 => ?_) (fun c20 => ?_)
              · have h := br_0 h c20
                refine lv_iconst (v := 0) hx hb dL_isSo_388 (by decide) ?_
                exact mw_zret X hr hlocks hP hS (by decide) (Option.some.inj h) rfl dL_isSo_389
              · have h := br_1 h c20
                exact w_L373  _ _ _ h hP hS (lv_sub hl [1] rfl)
  have w_L306 : ∀  (H : Heap) (locs : List Loc) (ls : Array Slot), f_L_isSo_L306 M  = some r0 → va_P E.1 vwCl (wl E M) H → va_S (AA E) s.heap H locs → lv_has ls 10 [(0, .ref (E.2.2 10 27)), (1, .ref (E.2.2 11 28))] → W p l e (headSpec (Wm yL_isSo cL_isSo 10 (some .boolean)) ({ frames := 4, cells := 0, slots := 0, locals := 111 } : Room)).room s m ([Value.ref (E.2.2 10 27), Value.ref (E.2.2 11 28), Value.ref (E.2.2 11 29), Value.ref (E.2.2 11 30), Value.ref (E.2.2 11 31), Value.ref (E.2.2 11 32), Value.int a1] : List Value).toArray below meth c H locs 0 0 (MQ below (QI E r0 M) ([Value.ref (E.2.2 10 27), Value.ref (E.2.2 11 28), Value.ref (E.2.2 11 29), Value.ref (E.2.2 11 30), Value.ref (E.2.2 11 31), Value.ref (E.2.2 11 32), Value.int a1] : List Value).toArray s 0 0 (AA E)) (F0 m 306 ls []) := by
    intro  H locs ls h hP hS hl
    unfold f_L_isSo_L306 at h
    refine lv_iconst (v := 0) hx hb dL_isSo_306 (by decide) ?_
    exact w_L307 _ _ _ _ h hP hS (lv_sub hl [0, 1] rfl)
  have w_L203 : ∀  (y8 z0 z1 : Int32) (H : Heap) (locs : List Loc) (ls : Array Slot), f_L_isSo_L203 M y8 z0 z1 = some r0 → va_P E.1 vwCl (wl E M) H → va_S (AA E) s.heap H locs → lv_has ls 10 [(0, .ref (E.2.2 10 27)), (1, .ref (E.2.2 11 28)), (2, .ref (E.2.2 11 29)), (3, .ref (E.2.2 11 30)), (4, .ref (E.2.2 11 31)), (5, .ref (E.2.2 11 32)), (8, .int y8)] → W p l e (headSpec (Wm yL_isSo cL_isSo 10 (some .boolean)) ({ frames := 4, cells := 0, slots := 0, locals := 111 } : Room)).room s m ([Value.ref (E.2.2 10 27), Value.ref (E.2.2 11 28), Value.ref (E.2.2 11 29), Value.ref (E.2.2 11 30), Value.ref (E.2.2 11 31), Value.ref (E.2.2 11 32), Value.int a1] : List Value).toArray below meth c H locs 0 0 (MQ below (QI E r0 M) ([Value.ref (E.2.2 10 27), Value.ref (E.2.2 11 28), Value.ref (E.2.2 11 29), Value.ref (E.2.2 11 30), Value.ref (E.2.2 11 31), Value.ref (E.2.2 11 32), Value.int a1] : List Value).toArray s 0 0 (AA E)) (F0 m 203 ls [.int z0, .int z1]) := by
    intro y8 z0 z1 H locs ls h hP hS hl
    unfold f_L_isSo_L203 at h
    refine lv_icmp_ne (tgt := 306) hx hb dL_isSo_203 (by decide) (fun c29 => ?_) (fun c29 => ?_)
    · have h := br_0 h c29
      exact w_L306  _ _ _ h hP hS (lv_sub hl [0, 1] rfl)
    · have h := br_1 h c29
      refine lv_aload_n hx hb dL_isSo_206 rfl (lv_at hl 0 rfl) ?_
      refine lv_iconst (v := 3) hx hb dL_isSo_207 (by decide) ?_
      obtain ⟨v30, hv30, h⟩ := bO_e h
      refine mw_callVi X (c_X7_count l E hA hv30) pk_X7_count pv_X7_count wm_195 ⟨Nat.le_of_ble_eq_true rfl, Nat.le_of_ble_eq_true rfl⟩ ⟨rfl, rfl⟩ hP hS ix_27 rfl rfl rfl rfl hl.1 (Nat.le_of_ble_eq_true rfl) ⟨Nat.zero_le _, Nat.zero_le _⟩ rfl dL_isSo_208 (fun H locs hP hS => ?_)
      refine lv_aload_n hx hb dL_isSo_211 rfl (lv_at hl 1 rfl) ?_
      refine lv_iconst (v := 2) hx hb dL_isSo_212 (by decide) ?_
      refine mw_ld X hP ix_28 rfl (v := (M 11 28 2)) (inb_vp (by decide)) rfl dL_isSo_213 ?_
      refine lv_aload_n hx hb dL_isSo_214 rfl (lv_at hl 1 rfl) ?_
      refine lv_iconst (v := 0) hx hb dL_isSo_215 (by decide) ?_
      refine mw_ld X hP ix_28 rfl (v := (M 11 28 0)) (inb_vp (by decide)) rfl dL_isSo_216 ?_
      refine lv_isub hx hb dL_isSo_217 ?_
      refine lv_iconst (v := 1) hx hb dL_isSo_218 (by decide) ?_
      refine lv_iadd hx hb dL_isSo_219 ?_
      refine lv_icmp_ne (tgt := 306) hx hb dL_isSo_220 (by decide) (fun c31 => ?_) (fun c31 => ?_)
      · have h := br_0 h c31
        exact w_L306  _ _ _ h hP hS (lv_sub hl [0, 1] rfl)
      · have h := br_1 h c31
        refine lv_aload_n hx hb dL_isSo_223 rfl (lv_at hl 0 rfl) ?_
        refine lv_iconst (v := 4) hx hb dL_isSo_224 (by decide) ?_
        obtain ⟨v32, hv32, h⟩ := bO_e h
        refine mw_callVi X (c_X7_count l E hA hv32) pk_X7_count pv_X7_count wm_195 ⟨Nat.le_of_ble_eq_true rfl, Nat.le_of_ble_eq_true rfl⟩ ⟨rfl, rfl⟩ hP hS ix_27 rfl rfl rfl rfl hl.1 (Nat.le_of_ble_eq_true rfl) ⟨Nat.zero_le _, Nat.zero_le _⟩ rfl dL_isSo_225 (fun H locs hP hS => ?_)
        refine lv_aload_n hx hb dL_isSo_228 rfl (lv_at hl 2 rfl) ?_
        obtain ⟨v33, hv33, h⟩ := bO_e h
        refine mw_callSi X (c_L_open l E hA hv33) pk_L_open wm_218 wm_217 ⟨Nat.le_of_ble_eq_true rfl, Nat.le_of_ble_eq_true rfl⟩ ⟨rfl, rfl⟩ hP hS rfl hl.1 (Nat.le_of_ble_eq_true rfl) ⟨Nat.zero_le _, Nat.zero_le _⟩ rfl dL_isSo_229 (fun H locs hP hS => ?_)
        refine lv_icmp_ne (tgt := 306) hx hb dL_isSo_232 (by decide) (fun c34 => ?_) (fun c34 => ?_)
        · have h := br_0 h c34
          exact w_L306  _ _ _ h hP hS (lv_sub hl [0, 1] rfl)
        · have h := br_1 h c34
          refine lv_aload_n hx hb dL_isSo_235 rfl (lv_at hl 0 rfl) ?_
          refine lv_iconst (v := 5) hx hb dL_isSo_236 (by decide) ?_
          obtain ⟨v35, hv35, h⟩ := bO_e h
          refine mw_callVi X (c_X7_count l E hA hv35) pk_X7_count pv_X7_count wm_195 ⟨Nat.le_of_ble_eq_true rfl, Nat.le_of_ble_eq_true rfl⟩ ⟨rfl, rfl⟩ hP hS ix_27 rfl rfl rfl rfl hl.1 (Nat.le_of_ble_eq_true rfl) ⟨Nat.zero_le _, Nat.zero_le _⟩ rfl dL_isSo_237 (fun H locs hP hS => ?_)
          refine lv_iload hx hb dL_isSo_240 (lv_at hl 6 rfl) ?_
          refine lv_icmp_ne (tgt := 306) hx hb dL_isSo_242 (by decide) (fun c36 => ?_) (fun c36 => ?_)
          · have h := br_0 h c36
            exact w_L306  _ _ _ h hP hS (lv_sub hl [0, 1] rfl)
          · have h := br_1 h c36
            refine lv_aload_n hx hb dL_isSo_245 rfl (lv_at hl 0 rfl) ?_
            refine lv_bipush (v := 6) hx hb dL_isSo_246 (by decide) ?_
            obtain ⟨v37, hv37, h⟩ := bO_e h
            refine mw_callVi X (c_X7_count l E hA hv37) pk_X7_count pv_X7_count wm_195 ⟨Nat.le_of_ble_eq_true rfl, Nat.le_of_ble_eq_true rfl⟩ ⟨rfl, rfl⟩ hP hS ix_27 rfl rfl rfl rfl hl.1 (Nat.le_of_ble_eq_true rfl) ⟨Nat.zero_le _, Nat.zero_le _⟩ rfl dL_isSo_248 (fun H locs hP hS => ?_)
            refine lv_aload_n hx hb dL_isSo_251 rfl (lv_at hl 3 rfl) ?_
            obtain ⟨v38, hv38, h⟩ := bO_e h
            refine mw_callSi X (c_L_dirty l E hA hv38) pk_L_dirty wm_221 wm_220 ⟨Nat.le_of_ble_eq_true rfl, Nat.le_of_ble_eq_true rfl⟩ ⟨rfl, rfl⟩ hP hS rfl hl.1 (Nat.le_of_ble_eq_true rfl) ⟨Nat.zero_le _, Nat.zero_le _⟩ rfl dL_isSo_252 (fun H locs hP hS => ?_)
            refine lv_icmp_ne (tgt := 306) hx hb dL_isSo_255 (by decide) (fun c39 => ?_) (fun c39 => ?_)
            · have h := br_0 h c39
              exact w_L306  _ _ _ h hP hS (lv_sub hl [0, 1] rfl)
            · have h := br_1 h c39
              refine lv_aload_n hx hb dL_isSo_258 rfl (lv_at hl 0 rfl) ?_
              refine lv_bipush (v := 7) hx hb dL_isSo_259 (by decide) ?_
              obtain ⟨v40, hv40, h⟩ := bO_e h
              refine mw_callVi X (c_X7_count l E hA hv40) pk_X7_count pv_X7_count wm_195 ⟨Nat.le_of_ble_eq_true rfl, Nat.le_of_ble_eq_true rfl⟩ ⟨rfl, rfl⟩ hP hS ix_27 rfl rfl rfl rfl hl.1 (Nat.le_of_ble_eq_true rfl) ⟨Nat.zero_le _, Nat.zero_le _⟩ rfl dL_isSo_261 (fun H locs hP hS => ?_)
              refine lv_aload_n hx hb dL_isSo_264 rfl (lv_at hl 1 rfl) ?_
              refine lv_iconst (v := 3) hx hb dL_isSo_265 (by decide) ?_
              refine mw_ld X hP ix_28 rfl (v := (M 11 28 3)) (inb_vp (by decide)) rfl dL_isSo_266 ?_
              refine lv_icmp_ne (tgt := 306) hx hb dL_isSo_267 (by decide) (fun c41 => ?_) (fun c41 => ?_)
              · have h := br_0 h c41
                exact w_L306  _ _ _ h hP hS (lv_sub hl [0, 1] rfl)
              · have h := br_1 h c41
                refine lv_aload_n hx hb dL_isSo_270 rfl (lv_at hl 0 rfl) ?_
                refine lv_bipush (v := 8) hx hb dL_isSo_271 (by decide) ?_
                obtain ⟨v42, hv42, h⟩ := bO_e h
                refine mw_callVi X (c_X7_count l E hA hv42) pk_X7_count pv_X7_count wm_195 ⟨Nat.le_of_ble_eq_true rfl, Nat.le_of_ble_eq_true rfl⟩ ⟨rfl, rfl⟩ hP hS ix_27 rfl rfl rfl rfl hl.1 (Nat.le_of_ble_eq_true rfl) ⟨Nat.zero_le _, Nat.zero_le _⟩ rfl dL_isSo_273 (fun H locs hP hS => ?_)
                refine lv_aload_n hx hb dL_isSo_276 rfl (lv_at hl 1 rfl) ?_
                refine lv_aload hx hb dL_isSo_277 (lv_at hl 4 rfl) ?_
                obtain ⟨v43, hv43, h⟩ := bO_e h
                refine mw_callSi X (c_L_latest l E hA hv43) pk_L_latest wm_224 wm_223 ⟨Nat.le_of_ble_eq_true rfl, Nat.le_of_ble_eq_true rfl⟩ ⟨rfl, rfl⟩ hP hS rfl hl.1 (Nat.le_of_ble_eq_true rfl) ⟨Nat.zero_le _, Nat.zero_le _⟩ rfl dL_isSo_279 (fun H locs hP hS => ?_)
                refine lv_icmp_ne (tgt := 306) hx hb dL_isSo_282 (by decide) (fun c44 => ?_) (fun c44 => ?_)
                · have h := br_0 h c44
                  exact w_L306  _ _ _ h hP hS (lv_sub hl [0, 1] rfl)
                · have h := br_1 h c44
                  refine lv_aload_n hx hb dL_isSo_285 rfl (lv_at hl 0 rfl) ?_
                  refine lv_bipush (v := 9) hx hb dL_isSo_286 (by decide) ?_
                  obtain ⟨v45, hv45, h⟩ := bO_e h
                  refine mw_callVi X (c_X7_count l E hA hv45) pk_X7_count pv_X7_count wm_195 ⟨Nat.le_of_ble_eq_true rfl, Nat.le_of_ble_eq_true rfl⟩ ⟨rfl, rfl⟩ hP hS ix_27 rfl rfl rfl rfl hl.1 (Nat.le_of_ble_eq_true rfl) ⟨Nat.zero_le _, Nat.zero_le _⟩ rfl dL_isSo_288 (fun H locs hP hS => ?_)
                  refine lv_aload_n hx hb dL_isSo_291 rfl (lv_at hl 1 rfl) ?_
                  refine lv_aload hx hb dL_isSo_292 (lv_at hl 4 rfl) ?_
                  refine lv_aload hx hb dL_isSo_294 (lv_at hl 5 rfl) ?_
                  obtain ⟨v46, hv46, h⟩ := bO_e h
                  refine mw_callSi X (c_L_drop l E hA hv46) pk_L_drop wm_227 wm_226 ⟨Nat.le_of_ble_eq_true rfl, Nat.le_of_ble_eq_true rfl⟩ ⟨rfl, rfl⟩ hP hS rfl hl.1 (Nat.le_of_ble_eq_true rfl) ⟨Nat.zero_le _, Nat.zero_le _⟩ rfl dL_isSo_296 (fun H locs hP hS => ?_)
                  refine lv_icmp_ne (tgt := 306) hx hb dL_isSo_299 (by decide) (fun c47 => ?_) (fun c47 => ?_)
                  · have h := br_0 h c47
                    exact w_L306  _ _ _ h hP hS (lv_sub hl [0, 1] rfl)
                  · have h := br_1 h c47
                    refine lv_iconst (v := 1) hx hb dL_isSo_302 (by decide) ?_
                    refine lv_goto (tgt := 307) hx hb dL_isSo_303 (by decide) ?_
                    exact w_L307 _ _ _ _ h hP hS (lv_sub hl [0, 1] rfl)
  have w_L182 : ∀  (y8 y9 z0 z1 : Int32) (H : Heap) (locs : List Loc) (ls : Array Slot), f_L_isSo_L182 M y8 y9 z0 z1 = some r0 → va_P E.1 vwCl (wl E M) H → va_S (AA E) s.heap H locs → lv_has ls 10 [(0, .ref (E.2.2 10 27)), (1, .ref (E.2.2 11 28)), (2, .ref (E.2.2 11 29)), (3, .ref (E.2.2 11 30)), (4, .ref (E.2.2 11 31)), (5, .ref (E.2.2 11 32)), (8, .int y8), (9, .int y9)] → W p l e (headSpec (Wm yL_isSo cL_isSo 10 (some .boolean)) ({ frames := 4, cells := 0, slots := 0, locals := 111 } : Room)).room s m ([Value.ref (E.2.2 10 27), Value.ref (E.2.2 11 28), Value.ref (E.2.2 11 29), Value.ref (E.2.2 11 30), Value.ref (E.2.2 11 31), Value.ref (E.2.2 11 32), Value.int a1] : List Value).toArray below meth c H locs 0 0 (MQ below (QI E r0 M) ([Value.ref (E.2.2 10 27), Value.ref (E.2.2 11 28), Value.ref (E.2.2 11 29), Value.ref (E.2.2 11 30), Value.ref (E.2.2 11 31), Value.ref (E.2.2 11 32), Value.int a1] : List Value).toArray s 0 0 (AA E)) (F0 m 182 ls [.int z0, .int z1]) := by
    intro y8 y9 z0 z1 H locs ls h hP hS hl
    unfold f_L_isSo_L182 at h
    refine lv_icmp_ne (tgt := 306) hx hb dL_isSo_182 (by decide) (fun c25 => ?_) (fun c25 => ?_)
    · have h := br_0 h c25
      exact w_L306  _ _ _ h hP hS (lv_sub hl [0, 1] rfl)
    · have h := br_1 h c25
      refine lv_aload_n hx hb dL_isSo_185 rfl (lv_at hl 0 rfl) ?_
      refine lv_iconst (v := 2) hx hb dL_isSo_186 (by decide) ?_
      obtain ⟨v26, hv26, h⟩ := bO_e h
      refine mw_callVi X (c_X7_count l E hA hv26) pk_X7_count pv_X7_count wm_195 ⟨Nat.le_of_ble_eq_true rfl, Nat.le_of_ble_eq_true rfl⟩ ⟨rfl, rfl⟩ hP hS ix_27 rfl rfl rfl rfl hl.1 (Nat.le_of_ble_eq_true rfl) ⟨Nat.zero_le _, Nat.zero_le _⟩ rfl dL_isSo_187 (fun H locs hP hS => ?_)
      refine lv_iload hx hb dL_isSo_190 (lv_at hl 7 rfl) ?_
      refine lv_if_eq (tgt := 199) hx hb dL_isSo_192 (by decide) (fun c27 => ?_) (fun c27 => ?_)
      · have h := br_1 h c27
        refine lv_aload_n hx hb dL_isSo_199 rfl (lv_at hl 1 rfl) ?_
        obtain ⟨v28, hv28, h⟩ := bO_e h
        refine mw_callSi X (c_L_last l E hA hv28) pk_L_last wm_170 wm_169 ⟨Nat.le_of_ble_eq_true rfl, Nat.le_of_ble_eq_true rfl⟩ ⟨rfl, rfl⟩ hP hS rfl hl.1 (Nat.le_of_ble_eq_true rfl) ⟨Nat.zero_le _, Nat.zero_le _⟩ rfl dL_isSo_200 (fun H locs hP hS => ?_)
        exact w_L203 _ _ _ _ _ _ h hP hS (lv_sub hl [0, 1, 2, 3, 4, 5, 6] rfl)
      · have h := br_0 h c27
        refine lv_iconst (v := 0) hx hb dL_isSo_195 (by decide) ?_
        refine lv_goto (tgt := 203) hx hb dL_isSo_196 (by decide) ?_
        exact w_L203 _ _ _ _ _ _ h hP hS (lv_sub hl [0, 1, 2, 3, 4, 5, 6] rfl)
  have w_L147 : ∀  (y7 y8 z0 : Int32) (H : Heap) (locs : List Loc) (ls : Array Slot), f_L_isSo_L147 M y7 y8 z0 = some r0 → va_P E.1 vwCl (wl E M) H → va_S (AA E) s.heap H locs → lv_has ls 10 [(0, .ref (E.2.2 10 27)), (1, .ref (E.2.2 11 28)), (2, .ref (E.2.2 11 29)), (3, .ref (E.2.2 11 30)), (4, .ref (E.2.2 11 31)), (5, .ref (E.2.2 11 32)), (7, .int y7), (8, .int y8)] → W p l e (headSpec (Wm yL_isSo cL_isSo 10 (some .boolean)) ({ frames := 4, cells := 0, slots := 0, locals := 111 } : Room)).room s m ([Value.ref (E.2.2 10 27), Value.ref (E.2.2 11 28), Value.ref (E.2.2 11 29), Value.ref (E.2.2 11 30), Value.ref (E.2.2 11 31), Value.ref (E.2.2 11 32), Value.int a1] : List Value).toArray below meth c H locs 0 0 (MQ below (QI E r0 M) ([Value.ref (E.2.2 10 27), Value.ref (E.2.2 11 28), Value.ref (E.2.2 11 29), Value.ref (E.2.2 11 30), Value.ref (E.2.2 11 31), Value.ref (E.2.2 11 32), Value.int a1] : List Value).toArray s 0 0 (AA E)) (F0 m 147 ls [.int z0]) := by
    intro y7 y8 z0 H locs ls h hP hS hl
    unfold f_L_isSo_L147 at h
    refine lv_istore (lv' := [(9, .int z0), (0, .ref (E.2.2 10 27)), (1, .ref (E.2.2 11 28)), (2, .ref (E.2.2 11 29)), (3, .ref (E.2.2 11 30)), (4, .ref (E.2.2 11 31)), (5, .ref (E.2.2 11 32)), (7, .int y7), (8, .int y8)]) hx hb dL_isSo_147 hl (by decide) rfl (fun ls hl => ?_)
    refine lv_iload hx hb dL_isSo_149 (lv_at hl 7 rfl) ?_
    refine lv_if_eq (tgt := 306) hx hb dL_isSo_151 (by decide) (fun c7 => ?_) (fun c7 => ?_)
    · have h := br_1 h c7
      exact w_L306  _ _ _ h hP hS (lv_sub hl [1, 2] rfl)
    · have h := br_0 h c7
      refine lv_aload_n hx hb dL_isSo_154 rfl (lv_at hl 1 rfl) ?_
      refine lv_iconst (v := 0) hx hb dL_isSo_155 (by decide) ?_
      obtain ⟨v21, hv21, h⟩ := bO_e h
      refine mw_callVi X (c_X7_count l E hA hv21) pk_X7_count pv_X7_count wm_195 ⟨Nat.le_of_ble_eq_true rfl, Nat.le_of_ble_eq_true rfl⟩ ⟨rfl, rfl⟩ hP hS ix_27 rfl rfl rfl rfl hl.1 (Nat.le_of_ble_eq_true rfl) ⟨Nat.zero_le _, Nat.zero_le _⟩ rfl dL_isSo_156 (fun H locs hP hS => ?_)
      refine lv_aload_n hx hb dL_isSo_159 rfl (lv_at hl 2 rfl) ?_
      refine lv_iconst (v := 1) hx hb dL_isSo_160 (by decide) ?_
      refine mw_ld X hP ix_28 rfl (v := (M 11 28 1)) (inb_vp (by decide)) rfl dL_isSo_161 ?_
      refine lv_icmp_ne (tgt := 306) hx hb dL_isSo_162 (by decide) (fun c22 => ?_) (fun c22 => ?_)
      · have h := br_0 h c22
        exact w_L306  _ _ _ h hP hS (lv_sub hl [1, 2] rfl)
      · have h := br_1 h c22
        refine lv_aload_n hx hb dL_isSo_165 rfl (lv_at hl 1 rfl) ?_
        refine lv_iconst (v := 1) hx hb dL_isSo_166 (by decide) ?_
        obtain ⟨v23, hv23, h⟩ := bO_e h
        refine mw_callVi X (c_X7_count l E hA hv23) pk_X7_count pv_X7_count wm_195 ⟨Nat.le_of_ble_eq_true rfl, Nat.le_of_ble_eq_true rfl⟩ ⟨rfl, rfl⟩ hP hS ix_27 rfl rfl rfl rfl hl.1 (Nat.le_of_ble_eq_true rfl) ⟨Nat.zero_le _, Nat.zero_le _⟩ rfl dL_isSo_167 (fun H locs hP hS => ?_)
        refine lv_iload hx hb dL_isSo_170 (lv_at hl 0 rfl) ?_
        refine lv_if_eq (tgt := 179) hx hb dL_isSo_172 (by decide) (fun c24 => ?_) (fun c24 => ?_)
        · have h := br_1 h c24
          refine lv_aload_n hx hb dL_isSo_179 rfl (lv_at hl 2 rfl) ?_
          refine lv_iconst (v := 0) hx hb dL_isSo_180 (by decide) ?_
          refine mw_ld X hP ix_28 rfl (v := (M 11 28 0)) (inb_vp (by decide)) rfl dL_isSo_181 ?_
          exact w_L182 _ _ _ _ _ _ _ h hP hS (lv_sub hl [1, 2, 3, 4, 5, 6, 8, 0] rfl)
        · have h := br_0 h c24
          refine lv_iconst (v := 0) hx hb dL_isSo_175 (by decide) ?_
          refine lv_goto (tgt := 182) hx hb dL_isSo_176 (by decide) ?_
          exact w_L182 _ _ _ _ _ _ _ h hP hS (lv_sub hl [1, 2, 3, 4, 5, 6, 8, 0] rfl)
  have w_L79 : ∀ (n79 : Nat)  (y7 y8 y9 : Int32) (H : Heap) (locs : List Loc) (ls : Array Slot), itr (f_L_isSo_L79 M) (fun _ _ _ => none) n79 y7 y8 y9 = some r0 → va_P E.1 vwCl (wl E M) H → va_S (AA E) s.heap H locs → lv_has ls 10 [(0, .ref (E.2.2 10 27)), (1, .ref (E.2.2 11 28)), (2, .ref (E.2.2 11 29)), (3, .ref (E.2.2 11 30)), (4, .ref (E.2.2 11 31)), (5, .ref (E.2.2 11 32)), (7, .int y7), (8, .int y8), (9, .int y9)] → W p l e (headSpec (Wm yL_isSo cL_isSo 10 (some .boolean)) ({ frames := 4, cells := 0, slots := 0, locals := 111 } : Room)).room s m ([Value.ref (E.2.2 10 27), Value.ref (E.2.2 11 28), Value.ref (E.2.2 11 29), Value.ref (E.2.2 11 30), Value.ref (E.2.2 11 31), Value.ref (E.2.2 11 32), Value.int a1] : List Value).toArray below meth c H locs 0 0 (MQ below (QI E r0 M) ([Value.ref (E.2.2 10 27), Value.ref (E.2.2 11 28), Value.ref (E.2.2 11 29), Value.ref (E.2.2 11 30), Value.ref (E.2.2 11 31), Value.ref (E.2.2 11 32), Value.int a1] : List Value).toArray s 0 0 (AA E)) (F0 m 79 ls []) := by
    intro n79
    induction n79 with
    | zero => intro y7 y8 y9 H locs ls h; exact (nomatch (show (none : Option Int32) = some _ from h))
    | succ n79 ih79 =>
      intro y7 y8 y9 H locs ls h hP hS hl
      have h : f_L_isSo_L79 M (itr (f_L_isSo_L79 M) (fun _ _ _ => none) n79) y7 y8 y9 = some r0 := h
      have w_L128 : ∀  (y8 y9 z0 : Int32) (H : Heap) (locs : List Loc) (ls : Array Slot), f_L_isSo_L128 M (itr (f_L_isSo_L79 M) (fun _ _ _ => none) n79) y8 y9 z0 = some r0 → va_P E.1 vwCl (wl E M) H → va_S (AA E) s.heap H locs → lv_has ls 10 [(0, .ref (E.2.2 10 27)), (1, .ref (E.2.2 11 28)), (2, .ref (E.2.2 11 29)), (3, .ref (E.2.2 11 30)), (4, .ref (E.2.2 11 31)), (5, .ref (E.2.2 11 32)), (8, .int y8), (9, .int y9)] → W p l e (headSpec (Wm yL_isSo cL_isSo 10 (some .boolean)) ({ frames := 4, cells := 0, slots := 0, locals := 111 } : Room)).room s m ([Value.ref (E.2.2 10 27), Value.ref (E.2.2 11 28), Value.ref (E.2.2 11 29), Value.ref (E.2.2 11 30), Value.ref (E.2.2 11 31), Value.ref (E.2.2 11 32), Value.int a1] : List Value).toArray below meth c H locs 0 0 (MQ below (QI E r0 M) ([Value.ref (E.2.2 10 27), Value.ref (E.2.2 11 28), Value.ref (E.2.2 11 29), Value.ref (E.2.2 11 30), Value.ref (E.2.2 11 31), Value.ref (E.2.2 11 32), Value.int a1] : List Value).toArray s 0 0 (AA E)) (F0 m 128 ls [.int z0]) := by
        intro y8 y9 z0 H locs ls h hP hS hl
        unfold f_L_isSo_L128 at h
        refine lv_istore (lv' := [(7, .int z0), (0, .ref (E.2.2 10 27)), (1, .ref (E.2.2 11 28)), (2, .ref (E.2.2 11 29)), (3, .ref (E.2.2 11 30)), (4, .ref (E.2.2 11 31)), (5, .ref (E.2.2 11 32)), (8, .int y8), (9, .int y9)]) hx hb dL_isSo_128 hl (by decide) rfl (fun ls hl => ?_)
        obtain ⟨x51, ex51⟩ : ∃ y : Int32, y = y9 + (1 : Int32) := ⟨_, rfl⟩
        have h := bd_e h ex51
        refine lv_iinc (v := x51) (lv' := [(9, .int x51), (7, .int z0), (0, .ref (E.2.2 10 27)), (1, .ref (E.2.2 11 28)), (2, .ref (E.2.2 11 29)), (3, .ref (E.2.2 11 30)), (4, .ref (E.2.2 11 31)), (5, .ref (E.2.2 11 32)), (8, .int y8)]) hx hb dL_isSo_130 hl (k := 8) rfl (by rw [ex51]; rfl) (by decide) rfl (fun ls hl => ?_)
        refine lv_goto (tgt := 79) hx hb dL_isSo_133 (by decide) ?_
        exact ih79 _ _ _ _ _ _ h hP hS (lv_sub hl [2, 3, 4, 5, 6, 7, 1, 8, 0] rfl)
      have w_L127 : ∀  (y8 y9 : Int32) (H : Heap) (locs : List Loc) (ls : Array Slot), f_L_isSo_L127 M (itr (f_L_isSo_L79 M) (fun _ _ _ => none) n79) y8 y9 = some r0 → va_P E.1 vwCl (wl E M) H → va_S (AA E) s.heap H locs → lv_has ls 10 [(0, .ref (E.2.2 10 27)), (1, .ref (E.2.2 11 28)), (2, .ref (E.2.2 11 29)), (3, .ref (E.2.2 11 30)), (4, .ref (E.2.2 11 31)), (5, .ref (E.2.2 11 32)), (8, .int y8), (9, .int y9)] → W p l e (headSpec (Wm yL_isSo cL_isSo 10 (some .boolean)) ({ frames := 4, cells := 0, slots := 0, locals := 111 } : Room)).room s m ([Value.ref (E.2.2 10 27), Value.ref (E.2.2 11 28), Value.ref (E.2.2 11 29), Value.ref (E.2.2 11 30), Value.ref (E.2.2 11 31), Value.ref (E.2.2 11 32), Value.int a1] : List Value).toArray below meth c H locs 0 0 (MQ below (QI E r0 M) ([Value.ref (E.2.2 10 27), Value.ref (E.2.2 11 28), Value.ref (E.2.2 11 29), Value.ref (E.2.2 11 30), Value.ref (E.2.2 11 31), Value.ref (E.2.2 11 32), Value.int a1] : List Value).toArray s 0 0 (AA E)) (F0 m 127 ls []) := by
        intro y8 y9 H locs ls h hP hS hl
        unfold f_L_isSo_L127 at h
        refine lv_iconst (v := 0) hx hb dL_isSo_127 (by decide) ?_
        exact w_L128 _ _ _ _ _ _ h hP hS (lv_sub hl [0, 1, 2, 3, 4, 5, 6, 7] rfl)
      unfold f_L_isSo_L79 at h
      refine lv_iload hx hb dL_isSo_79 (lv_at hl 8 rfl) ?_
      refine lv_bipush (v := 8) hx hb dL_isSo_81 (by decide) ?_
      refine lv_icmp_ge (tgt := 136) hx hb dL_isSo_83 (by decide) (fun c5 => ?_) (fun c5 => ?_)
      · have h := br_1 h c5
        refine lv_aload_n hx hb dL_isSo_136 rfl (lv_at hl 1 rfl) ?_
        refine lv_iconst (v := 1) hx hb dL_isSo_137 (by decide) ?_
        refine mw_ld X hP ix_28 rfl (v := (M 11 28 1)) (inb_vp (by decide)) rfl dL_isSo_138 ?_
        refine lv_if_ne (tgt := 146) hx hb dL_isSo_139 (by decide) (fun c6 => ?_) (fun c6 => ?_)
        · have h := br_0 h c6
          refine lv_iconst (v := 0) hx hb dL_isSo_146 (by decide) ?_
          exact w_L147 _ _ _ _ _ _ h hP hS (lv_sub hl [0, 1, 2, 3, 4, 5, 6, 7] rfl)
        · have h := br_1 h c6
          refine lv_iconst (v := 1) hx hb dL_isSo_142 (by decide) ?_
          refine lv_goto (tgt := 147) hx hb dL_isSo_143 (by decide) ?_
          exact w_L147 _ _ _ _ _ _ h hP hS (lv_sub hl [0, 1, 2, 3, 4, 5, 6, 7] rfl)
      · have h := br_0 h c5
        refine lv_iload hx hb dL_isSo_86 (lv_at hl 7 rfl) ?_
        refine lv_aload_n hx hb dL_isSo_88 rfl (lv_at hl 3 rfl) ?_
        refine lv_bipush (v := 6) hx hb dL_isSo_89 (by decide) ?_
        refine lv_iload hx hb dL_isSo_91 (lv_at hl 8 rfl) ?_
        refine lv_imul hx hb dL_isSo_93 ?_
        refine lv_iconst (v := 2) hx hb dL_isSo_94 (by decide) ?_
        refine lv_iadd hx hb dL_isSo_95 ?_
        obtain ⟨g48, h⟩ := gd_e h
        refine mw_ld X hP ix_30 rfl (inb_vp g48) rfl dL_isSo_96 ?_
        refine lv_iload hx hb dL_isSo_97 (lv_at hl 8 rfl) ?_
        refine lv_ishl hx hb dL_isSo_99 ?_
        refine lv_iadd hx hb dL_isSo_100 ?_
        refine lv_topi (fun x49 ex49 => ?_)
        have h := bd_e h ex49
        refine lv_istore (lv' := [(8, .int x49), (0, .ref (E.2.2 10 27)), (1, .ref (E.2.2 11 28)), (2, .ref (E.2.2 11 29)), (3, .ref (E.2.2 11 30)), (4, .ref (E.2.2 11 31)), (5, .ref (E.2.2 11 32)), (7, .int y7), (9, .int y9)]) hx hb dL_isSo_101 hl (by decide) rfl (fun ls hl => ?_)
        refine lv_iload hx hb dL_isSo_103 (lv_at hl 7 rfl) ?_
        refine lv_if_eq (tgt := 127) hx hb dL_isSo_105 (by decide) (fun c50 => ?_) (fun c50 => ?_)
        · have h := br_1 h c50
          exact w_L127 _ _ _ _ _ h hP hS (lv_sub hl [1, 2, 3, 4, 5, 6, 0, 8] rfl)
        · have h := br_0 h c50
          refine lv_aload_n hx hb dL_isSo_108 rfl (lv_at hl 4 rfl) ?_
          refine lv_bipush (v := 6) hx hb dL_isSo_109 (by decide) ?_
          refine lv_iload hx hb dL_isSo_111 (lv_at hl 8 rfl) ?_
          refine lv_imul hx hb dL_isSo_113 ?_
          refine lv_iconst (v := 1) hx hb dL_isSo_114 (by decide) ?_
          refine lv_iadd hx hb dL_isSo_115 ?_
          obtain ⟨g52, h⟩ := gd_e h
          refine mw_ld X hP ix_30 rfl (inb_vp g52) rfl dL_isSo_116 ?_
          refine lv_aload_n hx hb dL_isSo_117 rfl (lv_at hl 2 rfl) ?_
          refine lv_iconst (v := 2) hx hb dL_isSo_118 (by decide) ?_
          refine mw_ld X hP ix_28 rfl (v := (M 11 28 2)) (inb_vp (by decide)) rfl dL_isSo_119 ?_
          refine lv_icmp_gt (tgt := 127) hx hb dL_isSo_120 (by decide) (fun c53 => ?_) (fun c53 => ?_)
          · have h := br_1 h c53
            exact w_L127 _ _ _ _ _ h hP hS (lv_sub hl [1, 2, 3, 4, 5, 6, 0, 8] rfl)
          · have h := br_0 h c53
            refine lv_iconst (v := 1) hx hb dL_isSo_123 (by decide) ?_
            refine lv_goto (tgt := 128) hx hb dL_isSo_124 (by decide) ?_
            exact w_L128 _ _ _ _ _ _ h hP hS (lv_sub hl [1, 2, 3, 4, 5, 6, 0, 8] rfl)
  have w_L73 : ∀  (y7 : Int32) (H : Heap) (locs : List Loc) (ls : Array Slot), f_L_isSo_L73 M y7 = some r0 → va_P E.1 vwCl (wl E M) H → va_S (AA E) s.heap H locs → lv_has ls 10 [(0, .ref (E.2.2 10 27)), (1, .ref (E.2.2 11 28)), (2, .ref (E.2.2 11 29)), (3, .ref (E.2.2 11 30)), (4, .ref (E.2.2 11 31)), (5, .ref (E.2.2 11 32)), (7, .int y7)] → W p l e (headSpec (Wm yL_isSo cL_isSo 10 (some .boolean)) ({ frames := 4, cells := 0, slots := 0, locals := 111 } : Room)).room s m ([Value.ref (E.2.2 10 27), Value.ref (E.2.2 11 28), Value.ref (E.2.2 11 29), Value.ref (E.2.2 11 30), Value.ref (E.2.2 11 31), Value.ref (E.2.2 11 32), Value.int a1] : List Value).toArray below meth c H locs 0 0 (MQ below (QI E r0 M) ([Value.ref (E.2.2 10 27), Value.ref (E.2.2 11 28), Value.ref (E.2.2 11 29), Value.ref (E.2.2 11 30), Value.ref (E.2.2 11 31), Value.ref (E.2.2 11 32), Value.int a1] : List Value).toArray s 0 0 (AA E)) (F0 m 73 ls []) := by
    intro y7 H locs ls h hP hS hl
    unfold f_L_isSo_L73 at h
    refine lv_iconst (v := 0) hx hb dL_isSo_73 (by decide) ?_
    refine lv_istore (lv' := [(8, .int (0 : Int32)), (0, .ref (E.2.2 10 27)), (1, .ref (E.2.2 11 28)), (2, .ref (E.2.2 11 29)), (3, .ref (E.2.2 11 30)), (4, .ref (E.2.2 11 31)), (5, .ref (E.2.2 11 32)), (7, .int y7)]) hx hb dL_isSo_74 hl (by decide) rfl (fun ls hl => ?_)
    refine lv_iconst (v := 0) hx hb dL_isSo_76 (by decide) ?_
    refine lv_istore (lv' := [(9, .int (0 : Int32)), (8, .int (0 : Int32)), (0, .ref (E.2.2 10 27)), (1, .ref (E.2.2 11 28)), (2, .ref (E.2.2 11 29)), (3, .ref (E.2.2 11 30)), (4, .ref (E.2.2 11 31)), (5, .ref (E.2.2 11 32)), (7, .int y7)]) hx hb dL_isSo_77 hl (by decide) rfl (fun ls hl => ?_)
    exact w_L79 FU _ _ _ _ _ _ h hP hS (lv_sub hl [2, 3, 4, 5, 6, 7, 8, 1, 0] rfl)
  have w_L13 : ∀ (n13 : Nat)  (y6 y7 y8 : Int32) (H : Heap) (locs : List Loc) (ls : Array Slot), itr (f_L_isSo_L13 M) (fun _ _ _ => none) n13 y6 y7 y8 = some r0 → va_P E.1 vwCl (wl E M) H → va_S (AA E) s.heap H locs → lv_has ls 10 [(0, .ref (E.2.2 10 27)), (1, .ref (E.2.2 11 28)), (2, .ref (E.2.2 11 29)), (3, .ref (E.2.2 11 30)), (4, .ref (E.2.2 11 31)), (5, .ref (E.2.2 11 32)), (6, .int y6), (7, .int y7), (8, .int y8)] → W p l e (headSpec (Wm yL_isSo cL_isSo 10 (some .boolean)) ({ frames := 4, cells := 0, slots := 0, locals := 111 } : Room)).room s m ([Value.ref (E.2.2 10 27), Value.ref (E.2.2 11 28), Value.ref (E.2.2 11 29), Value.ref (E.2.2 11 30), Value.ref (E.2.2 11 31), Value.ref (E.2.2 11 32), Value.int a1] : List Value).toArray below meth c H locs 0 0 (MQ below (QI E r0 M) ([Value.ref (E.2.2 10 27), Value.ref (E.2.2 11 28), Value.ref (E.2.2 11 29), Value.ref (E.2.2 11 30), Value.ref (E.2.2 11 31), Value.ref (E.2.2 11 32), Value.int a1] : List Value).toArray s 0 0 (AA E)) (F0 m 13 ls []) := by
    intro n13
    induction n13 with
    | zero => intro y6 y7 y8 H locs ls h; exact (nomatch (show (none : Option Int32) = some _ from h))
    | succ n13 ih13 =>
      intro y6 y7 y8 H locs ls h hP hS hl
      have h : f_L_isSo_L13 M (itr (f_L_isSo_L13 M) (fun _ _ _ => none) n13) y6 y7 y8 = some r0 := h
      have w_L65 : ∀  (y6 y8 z0 : Int32) (H : Heap) (locs : List Loc) (ls : Array Slot), f_L_isSo_L65 M (itr (f_L_isSo_L13 M) (fun _ _ _ => none) n13) y6 y8 z0 = some r0 → va_P E.1 vwCl (wl E M) H → va_S (AA E) s.heap H locs → lv_has ls 10 [(0, .ref (E.2.2 10 27)), (1, .ref (E.2.2 11 28)), (2, .ref (E.2.2 11 29)), (3, .ref (E.2.2 11 30)), (4, .ref (E.2.2 11 31)), (5, .ref (E.2.2 11 32)), (6, .int y6), (8, .int y8)] → W p l e (headSpec (Wm yL_isSo cL_isSo 10 (some .boolean)) ({ frames := 4, cells := 0, slots := 0, locals := 111 } : Room)).room s m ([Value.ref (E.2.2 10 27), Value.ref (E.2.2 11 28), Value.ref (E.2.2 11 29), Value.ref (E.2.2 11 30), Value.ref (E.2.2 11 31), Value.ref (E.2.2 11 32), Value.int a1] : List Value).toArray below meth c H locs 0 0 (MQ below (QI E r0 M) ([Value.ref (E.2.2 10 27), Value.ref (E.2.2 11 28), Value.ref (E.2.2 11 29), Value.ref (E.2.2 11 30), Value.ref (E.2.2 11 31), Value.ref (E.2.2 11 32), Value.int a1] : List Value).toArray s 0 0 (AA E)) (F0 m 65 ls [.int z0]) := by
        intro y6 y8 z0 H locs ls h hP hS hl
        unfold f_L_isSo_L65 at h
        refine lv_istore (lv' := [(7, .int z0), (0, .ref (E.2.2 10 27)), (1, .ref (E.2.2 11 28)), (2, .ref (E.2.2 11 29)), (3, .ref (E.2.2 11 30)), (4, .ref (E.2.2 11 31)), (5, .ref (E.2.2 11 32)), (6, .int y6), (8, .int y8)]) hx hb dL_isSo_65 hl (by decide) rfl (fun ls hl => ?_)
        obtain ⟨x59, ex59⟩ : ∃ y : Int32, y = y8 + (1 : Int32) := ⟨_, rfl⟩
        have h := bd_e h ex59
        refine lv_iinc (v := x59) (lv' := [(8, .int x59), (7, .int z0), (0, .ref (E.2.2 10 27)), (1, .ref (E.2.2 11 28)), (2, .ref (E.2.2 11 29)), (3, .ref (E.2.2 11 30)), (4, .ref (E.2.2 11 31)), (5, .ref (E.2.2 11 32)), (6, .int y6)]) hx hb dL_isSo_67 hl (k := 8) rfl (by rw [ex59]; rfl) (by decide) rfl (fun ls hl => ?_)
        refine lv_goto (tgt := 13) hx hb dL_isSo_70 (by decide) ?_
        exact ih13 _ _ _ _ _ _ h hP hS (lv_sub hl [2, 3, 4, 5, 6, 7, 8, 1, 0] rfl)
      have w_L60 : ∀  (y6 y8 : Int32) (H : Heap) (locs : List Loc) (ls : Array Slot), f_L_isSo_L60 M (itr (f_L_isSo_L13 M) (fun _ _ _ => none) n13) y6 y8 = some r0 → va_P E.1 vwCl (wl E M) H → va_S (AA E) s.heap H locs → lv_has ls 10 [(0, .ref (E.2.2 10 27)), (1, .ref (E.2.2 11 28)), (2, .ref (E.2.2 11 29)), (3, .ref (E.2.2 11 30)), (4, .ref (E.2.2 11 31)), (5, .ref (E.2.2 11 32)), (6, .int y6), (8, .int y8)] → W p l e (headSpec (Wm yL_isSo cL_isSo 10 (some .boolean)) ({ frames := 4, cells := 0, slots := 0, locals := 111 } : Room)).room s m ([Value.ref (E.2.2 10 27), Value.ref (E.2.2 11 28), Value.ref (E.2.2 11 29), Value.ref (E.2.2 11 30), Value.ref (E.2.2 11 31), Value.ref (E.2.2 11 32), Value.int a1] : List Value).toArray below meth c H locs 0 0 (MQ below (QI E r0 M) ([Value.ref (E.2.2 10 27), Value.ref (E.2.2 11 28), Value.ref (E.2.2 11 29), Value.ref (E.2.2 11 30), Value.ref (E.2.2 11 31), Value.ref (E.2.2 11 32), Value.int a1] : List Value).toArray s 0 0 (AA E)) (F0 m 60 ls []) := by
        intro y6 y8 H locs ls h hP hS hl
        unfold f_L_isSo_L60 at h
        refine lv_iconst (v := 1) hx hb dL_isSo_60 (by decide) ?_
        refine lv_goto (tgt := 65) hx hb dL_isSo_61 (by decide) ?_
        exact w_L65 _ _ _ _ _ _ h hP hS (lv_sub hl [0, 1, 2, 3, 4, 5, 6, 7] rfl)
      have w_L48 : ∀  (y6 y8 : Int32) (H : Heap) (locs : List Loc) (ls : Array Slot), f_L_isSo_L48 M (itr (f_L_isSo_L13 M) (fun _ _ _ => none) n13) y6 y8 = some r0 → va_P E.1 vwCl (wl E M) H → va_S (AA E) s.heap H locs → lv_has ls 10 [(0, .ref (E.2.2 10 27)), (1, .ref (E.2.2 11 28)), (2, .ref (E.2.2 11 29)), (3, .ref (E.2.2 11 30)), (4, .ref (E.2.2 11 31)), (5, .ref (E.2.2 11 32)), (6, .int y6), (8, .int y8)] → W p l e (headSpec (Wm yL_isSo cL_isSo 10 (some .boolean)) ({ frames := 4, cells := 0, slots := 0, locals := 111 } : Room)).room s m ([Value.ref (E.2.2 10 27), Value.ref (E.2.2 11 28), Value.ref (E.2.2 11 29), Value.ref (E.2.2 11 30), Value.ref (E.2.2 11 31), Value.ref (E.2.2 11 32), Value.int a1] : List Value).toArray below meth c H locs 0 0 (MQ below (QI E r0 M) ([Value.ref (E.2.2 10 27), Value.ref (E.2.2 11 28), Value.ref (E.2.2 11 29), Value.ref (E.2.2 11 30), Value.ref (E.2.2 11 31), Value.ref (E.2.2 11 32), Value.int a1] : List Value).toArray s 0 0 (AA E)) (F0 m 48 ls []) := by
        intro y6 y8 H locs ls h hP hS hl
        unfold f_L_isSo_L48 at h
        refine lv_aload_n hx hb dL_isSo_48 rfl (lv_at hl 0 rfl) ?_
        refine lv_aload_n hx hb dL_isSo_49 rfl (lv_at hl 1 rfl) ?_
        refine lv_aload hx hb dL_isSo_50 (lv_at hl 4 rfl) ?_
        refine lv_iload hx hb dL_isSo_52 (lv_at hl 7 rfl) ?_
        obtain ⟨v57, hv57, h⟩ := bO_e h
        refine mw_callSi X (c_L_isRecord l E hA hv57) pk_L_isRecord wm_173 wm_172 ⟨Nat.le_of_ble_eq_true rfl, Nat.le_of_ble_eq_true rfl⟩ ⟨rfl, rfl⟩ hP hS rfl hl.1 (Nat.le_of_ble_eq_true rfl) ⟨Nat.zero_le _, Nat.zero_le _⟩ rfl dL_isSo_54 (fun H locs hP hS => ?_)
        refine lv_if_eq (tgt := 64) hx hb dL_isSo_57 (by decide) (fun c58 => ?_) (fun c58 => ?_)
        · have h := br_1 h c58
          refine lv_iconst (v := 0) hx hb dL_isSo_64 (by decide) ?_
          exact w_L65 _ _ _ _ _ _ h hP hS (lv_sub hl [0, 1, 2, 3, 4, 5, 6, 7] rfl)
        · have h := br_0 h c58
          exact w_L60 _ _ _ _ _ h hP hS (lv_sub hl [0, 1, 2, 3, 4, 5, 6, 7] rfl)
      unfold f_L_isSo_L13 at h
      refine lv_iload hx hb dL_isSo_13 (lv_at hl 8 rfl) ?_
      refine lv_aload_n hx hb dL_isSo_15 rfl (lv_at hl 1 rfl) ?_
      obtain ⟨v3, hv3, h⟩ := bO_e h
      refine mw_callSi X (c_L_last l E hA hv3) pk_L_last wm_170 wm_169 ⟨Nat.le_of_ble_eq_true rfl, Nat.le_of_ble_eq_true rfl⟩ ⟨rfl, rfl⟩ hP hS rfl hl.1 (Nat.le_of_ble_eq_true rfl) ⟨Nat.zero_le _, Nat.zero_le _⟩ rfl dL_isSo_16 (fun H locs hP hS => ?_)
      refine lv_icmp_gt (tgt := 73) hx hb dL_isSo_19 (by decide) (fun c4 => ?_) (fun c4 => ?_)
      · have h := br_1 h c4
        exact w_L73 _ _ _ _ h hP hS (lv_sub hl [0, 1, 2, 3, 4, 5, 7] rfl)
      · have h := br_0 h c4
        refine lv_iload hx hb dL_isSo_22 (lv_at hl 7 rfl) ?_
        refine lv_if_eq (tgt := 73) hx hb dL_isSo_24 (by decide) (fun c54 => ?_) (fun c54 => ?_)
        · have h := br_1 h c54
          exact w_L73 _ _ _ _ h hP hS (lv_sub hl [0, 1, 2, 3, 4, 5, 7] rfl)
        · have h := br_0 h c54
          refine lv_iload hx hb dL_isSo_27 (lv_at hl 8 rfl) ?_
          refine lv_iload hx hb dL_isSo_29 (lv_at hl 6 rfl) ?_
          refine lv_iadd hx hb dL_isSo_31 ?_
          refine lv_iconst (v := 4) hx hb dL_isSo_32 (by decide) ?_
          obtain ⟨g55, h⟩ := gd_e h
          refine lv_irem hx hb dL_isSo_33 g55 ?_
          refine lv_if_le (tgt := 48) hx hb dL_isSo_34 (by decide) (fun c56 => ?_) (fun c56 => ?_)
          · have h := br_1 h c56
            exact w_L48 _ _ _ _ _ h hP hS (lv_sub hl [0, 1, 2, 3, 4, 5, 6, 8] rfl)
          · have h := br_0 h c56
            refine lv_iload hx hb dL_isSo_37 (lv_at hl 8 rfl) ?_
            refine lv_aload_n hx hb dL_isSo_39 rfl (lv_at hl 1 rfl) ?_
            obtain ⟨v60, hv60, h⟩ := bO_e h
            refine mw_callSi X (c_L_last l E hA hv60) pk_L_last wm_170 wm_169 ⟨Nat.le_of_ble_eq_true rfl, Nat.le_of_ble_eq_true rfl⟩ ⟨rfl, rfl⟩ hP hS rfl hl.1 (Nat.le_of_ble_eq_true rfl) ⟨Nat.zero_le _, Nat.zero_le _⟩ rfl dL_isSo_40 (fun H locs hP hS => ?_)
            refine lv_iconst (v := 2) hx hb dL_isSo_43 (by decide) ?_
            refine lv_isub hx hb dL_isSo_44 ?_
            refine lv_icmp_lt (tgt := 60) hx hb dL_isSo_45 (by decide) (fun c61 => ?_) (fun c61 => ?_)
            · have h := br_1 h c61
              exact w_L60 _ _ _ _ _ h hP hS (lv_sub hl [0, 1, 2, 3, 4, 5, 6, 8] rfl)
            · have h := br_0 h c61
              exact w_L48 _ _ _ _ _ h hP hS (lv_sub hl [0, 1, 2, 3, 4, 5, 6, 8] rfl)
  unfold f_L_isSo at h
  refine lv_aload_n hx hb dL_isSo_0 rfl (lv_at hl 0 rfl) ?_
  refine lv_aload_n hx hb dL_isSo_1 rfl (lv_at hl 2 rfl) ?_
  refine lv_aload_n hx hb dL_isSo_2 rfl (lv_at hl 3 rfl) ?_
  obtain ⟨v1, hv1, h⟩ := bO_e h
  refine mw_callSi X (c_L_arePages l E hA hv1) pk_L_arePages wm_93 wm_92 ⟨Nat.le_of_ble_eq_true rfl, Nat.le_of_ble_eq_true rfl⟩ ⟨rfl, rfl⟩ hP hS rfl hl.1 (Nat.le_of_ble_eq_true rfl) ⟨Nat.zero_le _, Nat.zero_le _⟩ rfl dL_isSo_3 (fun H locs hP hS => ?_)
  refine lv_istore (lv' := [(7, .int v1), (0, .ref (E.2.2 10 27)), (1, .ref (E.2.2 11 28)), (2, .ref (E.2.2 11 29)), (3, .ref (E.2.2 11 30)), (4, .ref (E.2.2 11 31)), (5, .ref (E.2.2 11 32)), (6, .int a1)]) hx hb dL_isSo_6 hl (by decide) rfl (fun ls hl => ?_)
  refine lv_aload_n hx hb dL_isSo_8 rfl (lv_at hl 2 rfl) ?_
  refine lv_iconst (v := 0) hx hb dL_isSo_9 (by decide) ?_
  refine mw_ld X hP ix_28 rfl (v := (M 11 28 0)) (inb_vp (by decide)) rfl dL_isSo_10 ?_
  refine lv_topi (fun x2 ex2 => ?_)
  have h := bd_e h ex2
  refine lv_istore (lv' := [(8, .int x2), (7, .int v1), (0, .ref (E.2.2 10 27)), (1, .ref (E.2.2 11 28)), (2, .ref (E.2.2 11 29)), (3, .ref (E.2.2 11 30)), (4, .ref (E.2.2 11 31)), (5, .ref (E.2.2 11 32)), (6, .int a1)]) hx hb dL_isSo_11 hl (by decide) rfl (fun ls hl => ?_)
  exact w_L13 FU _ _ _ _ _ _ h hP hS (lv_sub hl [2, 3, 4, 5, 6, 7, 8, 1, 0] rfl)
