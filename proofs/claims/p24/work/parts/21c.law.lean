/-! SealedGroupsLaw.start -/
noncomputable def f_L_start_L309  (K220 : Mem → Int32 → Int32 → Option (Int32 × Mem)) (M : Mem) (y7 y8 : Int32) : Option (Int32 × Mem) :=
bd (y8 + (1 : Int32)) (fun x27 =>
K220 M y7 x27)
noncomputable def f_L_start_L261  (K220 : Mem → Int32 → Int32 → Option (Int32 × Mem)) (M : Mem) (y7 y8 y10 : Int32) : Option (Int32 × Mem) :=
gd (inb y10 8) (
(if (M 11 34 (y10).toNatClampNeg) ≤ 0 then
f_L_start_L309 K220 M y7 y8
else
gd (inb y10 8) (
(if y8 < (M 11 34 (y10).toNatClampNeg) then
f_L_start_L309 K220 M y7 y8
else
bO (f_L_mark M y10) (fun v30 =>
(if y8 ≤ v30 then
f_L_start_L309 K220 M y7 y8
else
bO (f_L_of M y8 (4 : Int32)) (fun v32 =>
bO (f_L_come M y10 v32 y8) (fun M34 =>
bd (y7 + (1 : Int32)) (fun x35 =>
f_L_start_L309 K220 M34 x35 y8)))))))))
noncomputable def f_L_start_L220  (K220 : Mem → Int32 → Int32 → Option (Int32 × Mem)) (M : Mem) (y7 y8 : Int32) : Option (Int32 × Mem) :=
bO (f_L_last M) (fun v12 =>
(if v12 < y8 then
bP (f_L_back M (M 11 33 0)) (fun v14 M15 =>
bd (st M15 11 33 1 v14) (fun M16 =>
bO (f_L_last M16) (fun v17 =>
bP (f_L_force M16 v17) (fun v18 M19 =>
bd (st M19 11 28 3 (0 : Int32)) (fun M20 =>
bd (st M20 11 28 4 ((M20 11 28 4) + y7)) (fun M21 =>
some (y7, M21)))))))
else
bO (f_L_of M y8 (0 : Int32)) (fun v22 =>
bO (f_L_of M y8 (2 : Int32)) (fun v23 =>
(if v22 = (1 : Int32) then
f_L_start_L261 K220 M y7 y8 v23
else
(if v22 = (3 : Int32) then
f_L_start_L261 K220 M y7 y8 v23
else
f_L_start_L309 K220 M y7 y8))))))
noncomputable def f_L_start_L206  (K86 : Mem → Int32 → Option (Int32 × Mem)) (M : Mem) (y7 : Int32) : Option (Int32 × Mem) :=
bd (y7 + (1 : Int32)) (fun x46 =>
K86 M x46)
noncomputable def f_L_start_L164  (K86 : Mem → Int32 → Option (Int32 × Mem)) (M : Mem) (y7 y8 z0 z1 : Int32) : Option (Int32 × Mem) :=
gd (inb z1 2) (
bd (st M 11 33 (z1).toNatClampNeg z0) (fun M42 =>
gd (¬ (2 : Int32) = 0) (
(if (y8 - y8 / (2 : Int32) * (2 : Int32)) = (1 : Int32) then
(if (5 : Int32) ≤ y8 then
f_L_start_L206 K86 M42 y7
else
bO (f_L_of M42 y7 (2 : Int32)) (fun v48 =>
gd (inb v48 8) (
(if (M42 11 34 (v48).toNatClampNeg) = 0 then
bO (f_L_of M42 y7 (2 : Int32)) (fun v51 =>
gd (inb v51 8) (
bd (st M42 11 34 (v51).toNatClampNeg y7) (fun M52 =>
f_L_start_L206 K86 M52 y7)))
else
f_L_start_L206 K86 M42 y7))))
else
f_L_start_L206 K86 M42 y7))))
noncomputable def f_L_start_L147  (K86 : Mem → Int32 → Option (Int32 × Mem)) (M : Mem) (y7 y8 y9 z0 : Int32) : Option (Int32 × Mem) :=
f_L_start_L164 K86 M y7 y8 ((M 11 33 0) &&& ((15 : Int32) - y9)) z0
noncomputable def f_L_start_L86  (K86 : Mem → Int32 → Option (Int32 × Mem)) (M : Mem) (y7 : Int32) : Option (Int32 × Mem) :=
bO (f_L_last M) (fun v9 =>
(if v9 < y7 then
bd ((M 11 28 0)) (fun x11 =>
itr (f_L_start_L220 ) (fun _ _ _ => none) FU M (0 : Int32) x11)
else
bO (f_L_of M y7 (0 : Int32)) (fun v37 =>
bO (f_L_of M y7 (1 : Int32)) (fun v38 =>
bd (((1 : Int32) <<< (v38 &&& 31))) (fun x39 =>
(if v37 = 0 then
f_L_start_L164 K86 M y7 v37 ((M 11 33 0) ||| x39) (0 : Int32)
else
(if v37 = (2 : Int32) then
f_L_start_L147 K86 M y7 v37 x39 (0 : Int32)
else
(if v37 = (4 : Int32) then
f_L_start_L147 K86 M y7 v37 x39 (0 : Int32)
else
f_L_start_L164 K86 M y7 v37 (M 11 33 0) (0 : Int32)))))))))
noncomputable def f_L_start_L84  (M : Mem) (z0 : Int32) : Option (Int32 × Mem) :=
itr (f_L_start_L86 ) (fun _ _ => none) FU M z0
noncomputable def f_L_start_L62  (K38 : Mem → Int32 → Int32 → Option (Int32 × Mem)) (M : Mem) (y6 y7 z0 z1 : Int32) : Option (Int32 × Mem) :=
gd (inb z1 8) (
bd (st M 11 34 (z1).toNatClampNeg z0) (fun M57 =>
bd (y7 + (1 : Int32)) (fun x59 =>
K38 M57 y6 x59)))
noncomputable def f_L_start_L38  (K38 : Mem → Int32 → Int32 → Option (Int32 × Mem)) (M : Mem) (y6 y7 : Int32) : Option (Int32 × Mem) :=
(if (8 : Int32) ≤ y7 then
(if y6 = 0 then
f_L_start_L84 M (M 11 28 0)
else
f_L_start_L84 M (y6 + (1 : Int32)))
else
(if y6 = 0 then
f_L_start_L62 K38 M y6 y7 (0 : Int32) y7
else
gd (inb y7 8) (
f_L_start_L62 K38 M y6 y7 (M 11 32 (y7).toNatClampNeg) y7)))
noncomputable def f_L_start_L34  (M : Mem) (y6 z0 z1 : Int32) : Option (Int32 × Mem) :=
gd (inb z1 2) (
bd (st M 11 33 (z1).toNatClampNeg z0) (fun M5 =>
itr (f_L_start_L38 ) (fun _ _ _ => none) FU M5 y6 (0 : Int32)))
noncomputable def f_L_start  (M : Mem) : Option (Int32 × Mem) :=
bd (sr M 11 34 (fun _ => 0)) (fun M1 =>
bO (f_L_latest M1) (fun v2 =>
(if v2 = 0 then
f_L_start_L34 M1 v2 (0 : Int32) (0 : Int32)
else
bO (f_L_of M1 v2 (6 : Int32)) (fun v4 =>
f_L_start_L34 M1 v2 v4 (0 : Int32)))))
theorem pk_L_start : Pk "SealedGroupsLaw" yL_start cL_start 11 (some .int) 5 := ⟨wm_517, wm_89, rfl, by decide +kernel⟩
set_option maxHeartbeats 4000000 in
set_option maxRecDepth 100000 in
theorem c_L_start (l : Launch) (E : En) (hA : AdOK E) (sz : Nat) (hτ : tau E = 1) {M : Mem} {r0 : Int32} {M0 : Mem}  (h : f_L_start M = some (r0, M0)) : Met l yL_start (Wm yL_start cL_start 11 (some .int)) ({ frames := 3, cells := 1, slots := 8, locals := 101 } : Room) (va_Pc [Value.ref (E.2.2 11 28), Value.ref (E.2.2 11 30), Value.ref (E.2.2 11 31), Value.ref (E.2.2 11 32), Value.ref (E.2.2 11 33)] (WdS E M sz)) (QIs E sz r0 M0) 1 8 (AS E sz) := by
  refine Met.ofW (cc := cL_start) (maxL := 11) (ret := (some .int)) (by decide +kernel) rfl ?_
  intro p e s m args below meth c s₁ B hml hv
  obtain ⟨rfl, hsz, hP, hK⟩ := hv
  subst hsz
  have X : Cx E (AS E s.heap.size) p s m c _ cL_start 11 RL := ⟨⟨B.exec, B.bytes, hml, findClass_of_methodNamed B.named, fun w hw => atoms_spec (ws := Wm yL_start cL_start 11 (some .int)) B.pre w (List.mem_cons_of_mem _ hw)⟩, hK, hA, fun _ h => Or.inl h⟩
  have X0 := X
  have hAA : ∀ x : Nat, s.heap.size ≤ x → AS E s.heap.size x := fun x h => Or.inr h
  have tE : tmpl[tau E]? = some (11, 34) := by rw [hτ]; rfl
  have h33 : (11, 33) ∈ ix E := tm_33 (by omega)
  have hx := B.exec
  have hb := B.bytes
  have hr := B.returns
  have hlocks := B.notSynchronized
  clear B hml
  have hS : va_S (AS E s.heap.size) s.heap s.heap [] := va_S.rf
  have hl := lv_entry ([Value.ref (E.2.2 11 28), Value.ref (E.2.2 11 30), Value.ref (E.2.2 11 31), Value.ref (E.2.2 11 32), Value.ref (E.2.2 11 33)]) (n := 11) (Nat.le_of_ble_eq_true rfl)
  rw [lg_entry_eq]
  generalize (lg_sl ([Value.ref (E.2.2 11 28), Value.ref (E.2.2 11 30), Value.ref (E.2.2 11 31), Value.ref (E.2.2 11 32), Value.ref (E.2.2 11 33)]) ++ List.replicate (11 - (lg_sl ([Value.ref (E.2.2 11 28), Value.ref (E.2.2 11 30), Value.ref (E.2.2 11 31), Value.ref (E.2.2 11 32), Value.ref (E.2.2 11 33)])).length) Slot.unset).toArray = ls at hl ⊢
  have hl : lv_has ls 11 [(0, .ref (E.2.2 11 28)), (1, .ref (E.2.2 11 30)), (2, .ref (E.2.2 11 31)), (3, .ref (E.2.2 11 32)), (4, .ref (E.2.2 11 33))] := hl
  unfold f_L_start at h
  refine lv_bipush (v := 8) hx hb dL_start_0 (by decide) ?_
  refine mw_new X (r := 34) tE wm_3 hP hS hAA (n := 8) (N' := 8) (by decide) (by decide) (by decide) (Nat.le_of_ble_eq_true rfl) (Nat.le_of_ble_eq_true rfl) rfl dL_start_2 (fun E1 q1 H M1 eE1 eM1 X hP hS => ?_)
  have h := bd_e h eM1
  have hl : lv_has ls 11 [(0, .ref (E1.2.2 11 28)), (1, .ref (E1.2.2 11 30)), (2, .ref (E1.2.2 11 31)), (3, .ref (E1.2.2 11 32)), (4, .ref (E1.2.2 11 33))] := by rw [eE1]; exact hl
  have hA : AdOK E1 := X.2.2.1
  have hτ1 : tau E1 = 2 := by rw [eE1]; exact congrArg (· + 1) hτ
  have h33 : (11, 33) ∈ ix E1 := tm_33 (by omega)
  have h34 : (11, 34) ∈ ix E1 := tm_34 (by omega)
  have w_L220 : ∀ (n220 : Nat) (M : Mem) (y7 y8 : Int32) (H : Heap) (locs : List Loc) (ls : Array Slot), itr (f_L_start_L220 ) (fun _ _ _ => none) n220 M y7 y8 = some (r0, M0) → va_P E1.1 vwCl (wl E1 M) H → va_S (AS E s.heap.size) s.heap H locs → lv_has ls 11 [(0, .ref (E1.2.2 11 28)), (1, .ref (E1.2.2 11 30)), (2, .ref (E1.2.2 11 31)), (4, .ref (E1.2.2 11 33)), (5, .ref (E1.2.2 11 34)), (7, .int y7), (8, .int y8)] → W p l e (headSpec (Wm yL_start cL_start 11 (some .int)) ({ frames := 3, cells := 1, slots := 8, locals := 101 } : Room)).room s m ([Value.ref (E.2.2 11 28), Value.ref (E.2.2 11 30), Value.ref (E.2.2 11 31), Value.ref (E.2.2 11 32), Value.ref (E.2.2 11 33)] : List Value).toArray below meth c H locs 1 8 (MQ below (QIs E s.heap.size r0 M0) ([Value.ref (E.2.2 11 28), Value.ref (E.2.2 11 30), Value.ref (E.2.2 11 31), Value.ref (E.2.2 11 32), Value.ref (E.2.2 11 33)] : List Value).toArray s 1 8 (AS E s.heap.size)) (F0 m 220 ls []) := by
    intro n220
    induction n220 with
    | zero => intro M y7 y8 H locs ls h; exact (nomatch (show (none : Option (Int32 × Mem)) = some _ from h))
    | succ n220 ih220 =>
      intro M y7 y8 H locs ls h hP hS hl
      have h : f_L_start_L220 (itr (f_L_start_L220 ) (fun _ _ _ => none) n220) M y7 y8 = some (r0, M0) := h
      have w_L309 : ∀ (M : Mem) (y7 y8 : Int32) (H : Heap) (locs : List Loc) (ls : Array Slot), f_L_start_L309 (itr (f_L_start_L220 ) (fun _ _ _ => none) n220) M y7 y8 = some (r0, M0) → va_P E1.1 vwCl (wl E1 M) H → va_S (AS E s.heap.size) s.heap H locs → lv_has ls 11 [(0, .ref (E1.2.2 11 28)), (1, .ref (E1.2.2 11 30)), (2, .ref (E1.2.2 11 31)), (4, .ref (E1.2.2 11 33)), (5, .ref (E1.2.2 11 34)), (7, .int y7), (8, .int y8)] → W p l e (headSpec (Wm yL_start cL_start 11 (some .int)) ({ frames := 3, cells := 1, slots := 8, locals := 101 } : Room)).room s m ([Value.ref (E.2.2 11 28), Value.ref (E.2.2 11 30), Value.ref (E.2.2 11 31), Value.ref (E.2.2 11 32), Value.ref (E.2.2 11 33)] : List Value).toArray below meth c H locs 1 8 (MQ below (QIs E s.heap.size r0 M0) ([Value.ref (E.2.2 11 28), Value.ref (E.2.2 11 30), Value.ref (E.2.2 11 31), Value.ref (E.2.2 11 32), Value.ref (E.2.2 11 33)] : List Value).toArray s 1 8 (AS E s.heap.size)) (F0 m 309 ls []) := by
        intro M y7 y8 H locs ls h hP hS hl
        unfold f_L_start_L309 at h
        obtain ⟨x27, ex27⟩ : ∃ y : Int32, y = y8 + (1 : Int32) := ⟨_, rfl⟩
        have h := bd_e h ex27
        refine lv_iinc (v := x27) (lv' := [(8, .int x27), (0, .ref (E1.2.2 11 28)), (1, .ref (E1.2.2 11 30)), (2, .ref (E1.2.2 11 31)), (4, .ref (E1.2.2 11 33)), (5, .ref (E1.2.2 11 34)), (7, .int y7)]) hx hb dL_start_309 hl (k := 6) rfl (by rw [ex27]; rfl) (by decide) rfl (fun ls hl => ?_)
        refine lv_goto (tgt := 220) hx hb dL_start_312 (by decide) ?_
        exact ih220 _ _ _ _ _ _ h hP hS (lv_sub hl [1, 2, 3, 4, 5, 6, 0] rfl)
      have w_L261 : ∀ (M : Mem) (y7 y8 y10 : Int32) (H : Heap) (locs : List Loc) (ls : Array Slot), f_L_start_L261 (itr (f_L_start_L220 ) (fun _ _ _ => none) n220) M y7 y8 y10 = some (r0, M0) → va_P E1.1 vwCl (wl E1 M) H → va_S (AS E s.heap.size) s.heap H locs → lv_has ls 11 [(0, .ref (E1.2.2 11 28)), (1, .ref (E1.2.2 11 30)), (2, .ref (E1.2.2 11 31)), (4, .ref (E1.2.2 11 33)), (5, .ref (E1.2.2 11 34)), (7, .int y7), (8, .int y8), (10, .int y10)] → W p l e (headSpec (Wm yL_start cL_start 11 (some .int)) ({ frames := 3, cells := 1, slots := 8, locals := 101 } : Room)).room s m ([Value.ref (E.2.2 11 28), Value.ref (E.2.2 11 30), Value.ref (E.2.2 11 31), Value.ref (E.2.2 11 32), Value.ref (E.2.2 11 33)] : List Value).toArray below meth c H locs 1 8 (MQ below (QIs E s.heap.size r0 M0) ([Value.ref (E.2.2 11 28), Value.ref (E.2.2 11 30), Value.ref (E.2.2 11 31), Value.ref (E.2.2 11 32), Value.ref (E.2.2 11 33)] : List Value).toArray s 1 8 (AS E s.heap.size)) (F0 m 261 ls []) := by
        intro M y7 y8 y10 H locs ls h hP hS hl
        unfold f_L_start_L261 at h
        refine lv_aload hx hb dL_start_261 (lv_at hl 4 rfl) ?_
        refine lv_iload hx hb dL_start_263 (lv_at hl 7 rfl) ?_
        obtain ⟨g25, h⟩ := gd_e h
        refine mw_ld X hP h34 rfl (inb_vp g25) rfl dL_start_265 ?_
        refine lv_if_le (tgt := 309) hx hb dL_start_266 (by decide) (fun c26 => ?_) (fun c26 => ?_)
        · have h := br_1 h c26
          exact w_L309 _ _ _ _ _ _ h hP hS (lv_sub hl [0, 1, 2, 3, 4, 5, 6] rfl)
        · have h := br_0 h c26
          refine lv_aload hx hb dL_start_269 (lv_at hl 4 rfl) ?_
          refine lv_iload hx hb dL_start_271 (lv_at hl 7 rfl) ?_
          obtain ⟨g28, h⟩ := gd_e h
          refine mw_ld X hP h34 rfl (inb_vp g28) rfl dL_start_273 ?_
          refine lv_iload hx hb dL_start_274 (lv_at hl 6 rfl) ?_
          refine lv_icmp_gt (tgt := 309) hx hb dL_start_276 (by decide) (fun c29 => ?_) (fun c29 => ?_)
          · have h := br_1 h c29
            exact w_L309 _ _ _ _ _ _ h hP hS (lv_sub hl [0, 1, 2, 3, 4, 5, 6] rfl)
          · have h := br_0 h c29
            refine lv_aload_n hx hb dL_start_279 rfl (lv_at hl 1 rfl) ?_
            refine lv_iload hx hb dL_start_280 (lv_at hl 7 rfl) ?_
            obtain ⟨v30, hv30, h⟩ := bO_e h
            refine mw_callSi X (c_L_mark l E1 hA hv30) pk_L_mark wm_96 wm_95 ⟨Nat.le_of_ble_eq_true rfl, Nat.le_of_ble_eq_true rfl⟩ ⟨rfl, rfl⟩ hP hS rfl hl.1 (Nat.le_of_ble_eq_true rfl) ⟨Nat.le_of_ble_eq_true rfl, Nat.le_of_ble_eq_true rfl⟩ rfl dL_start_282 (fun H locs hP hS => ?_)
            refine lv_iload hx hb dL_start_285 (lv_at hl 6 rfl) ?_
            refine lv_icmp_ge (tgt := 309) hx hb dL_start_287 (by decide) (fun c31 => ?_) (fun c31 => ?_)
            · have h := br_1 h c31
              exact w_L309 _ _ _ _ _ _ h hP hS (lv_sub hl [0, 1, 2, 3, 4, 5, 6] rfl)
            · have h := br_0 h c31
              refine lv_aload_n hx hb dL_start_290 rfl (lv_at hl 1 rfl) ?_
              refine lv_iload hx hb dL_start_291 (lv_at hl 7 rfl) ?_
              refine lv_aload_n hx hb dL_start_293 rfl (lv_at hl 2 rfl) ?_
              refine lv_aload_n hx hb dL_start_294 rfl (lv_at hl 0 rfl) ?_
              refine lv_iload hx hb dL_start_295 (lv_at hl 6 rfl) ?_
              refine lv_iconst (v := 4) hx hb dL_start_297 (by decide) ?_
              obtain ⟨v32, hv32, h⟩ := bO_e h
              refine mw_callSi X (c_L_of l E1 hA hv32) pk_L_of wm_176 wm_175 ⟨Nat.le_of_ble_eq_true rfl, Nat.le_of_ble_eq_true rfl⟩ ⟨rfl, rfl⟩ hP hS rfl hl.1 (Nat.le_of_ble_eq_true rfl) ⟨Nat.le_of_ble_eq_true rfl, Nat.le_of_ble_eq_true rfl⟩ rfl dL_start_298 (fun H locs hP hS => ?_)
              refine lv_iload hx hb dL_start_301 (lv_at hl 6 rfl) ?_
              obtain ⟨M34, hv33, h⟩ := bO_e h
              refine mw_callSv X (c_L_come l E1 hA hv33) pk_L_come wm_519 wm_518 ⟨Nat.le_of_ble_eq_true rfl, Nat.le_of_ble_eq_true rfl⟩ ⟨rfl, rfl⟩ hP hS rfl hl.1 (Nat.le_of_ble_eq_true rfl) ⟨Nat.le_of_ble_eq_true rfl, Nat.le_of_ble_eq_true rfl⟩ rfl dL_start_303 (fun H locs hP hS => ?_)
              obtain ⟨x35, ex35⟩ : ∃ y : Int32, y = y7 + (1 : Int32) := ⟨_, rfl⟩
              have h := bd_e h ex35
              refine lv_iinc (v := x35) (lv' := [(7, .int x35), (0, .ref (E1.2.2 11 28)), (1, .ref (E1.2.2 11 30)), (2, .ref (E1.2.2 11 31)), (4, .ref (E1.2.2 11 33)), (5, .ref (E1.2.2 11 34)), (8, .int y8), (10, .int y10)]) hx hb dL_start_306 hl (k := 5) rfl (by rw [ex35]; rfl) (by decide) rfl (fun ls hl => ?_)
              exact w_L309 _ _ _ _ _ _ h hP hS (lv_sub hl [1, 2, 3, 4, 5, 0, 6] rfl)
      unfold f_L_start_L220 at h
      refine lv_iload hx hb dL_start_220 (lv_at hl 6 rfl) ?_
      refine lv_aload_n hx hb dL_start_222 rfl (lv_at hl 0 rfl) ?_
      obtain ⟨v12, hv12, h⟩ := bO_e h
      refine mw_callSi X (c_L_last l E1 hA hv12) pk_L_last wm_170 wm_169 ⟨Nat.le_of_ble_eq_true rfl, Nat.le_of_ble_eq_true rfl⟩ ⟨rfl, rfl⟩ hP hS rfl hl.1 (Nat.le_of_ble_eq_true rfl) ⟨Nat.le_of_ble_eq_true rfl, Nat.le_of_ble_eq_true rfl⟩ rfl dL_start_223 (fun H locs hP hS => ?_)
      refine lv_icmp_gt (tgt := 315) hx hb dL_start_226 (by decide) (fun c13 => ?_) (fun c13 => ?_)
      · have h := br_1 h c13
        refine lv_aload hx hb dL_start_315 (lv_at hl 3 rfl) ?_
        refine lv_iconst (v := 1) hx hb dL_start_317 (by decide) ?_
        refine lv_aload_n hx hb dL_start_318 rfl (lv_at hl 0 rfl) ?_
        refine lv_aload_n hx hb dL_start_319 rfl (lv_at hl 1 rfl) ?_
        refine lv_aload_n hx hb dL_start_320 rfl (lv_at hl 2 rfl) ?_
        refine lv_aload hx hb dL_start_321 (lv_at hl 3 rfl) ?_
        refine lv_iconst (v := 0) hx hb dL_start_323 (by decide) ?_
        refine mw_ld X hP h33 rfl (v := (M 11 33 0)) (inb_vp (by decide)) rfl dL_start_324 ?_
        obtain ⟨v14, M15, hv14, h⟩ := bP_e h
        refine mw_callSi X (c_L_back l E1 hA hv14) pk_L_back wm_522 wm_521 ⟨Nat.le_of_ble_eq_true rfl, Nat.le_of_ble_eq_true rfl⟩ ⟨rfl, rfl⟩ hP hS rfl hl.1 (Nat.le_of_ble_eq_true rfl) ⟨Nat.le_of_ble_eq_true rfl, Nat.le_of_ble_eq_true rfl⟩ rfl dL_start_325 (fun H locs hP hS => ?_)
        refine mw_st X hP hS h33 (fun _ => rfl) (j := 1) (inb_vp (by decide)) rfl dL_start_328 (fun H locs M16 eM16 hP hS => ?_)
        have h := bd_e h eM16
        refine lv_aload_n hx hb dL_start_329 rfl (lv_at hl 0 rfl) ?_
        refine lv_aload_n hx hb dL_start_330 rfl (lv_at hl 0 rfl) ?_
        obtain ⟨v17, hv17, h⟩ := bO_e h
        refine mw_callSi X (c_L_last l E1 hA hv17) pk_L_last wm_170 wm_169 ⟨Nat.le_of_ble_eq_true rfl, Nat.le_of_ble_eq_true rfl⟩ ⟨rfl, rfl⟩ hP hS rfl hl.1 (Nat.le_of_ble_eq_true rfl) ⟨Nat.le_of_ble_eq_true rfl, Nat.le_of_ble_eq_true rfl⟩ rfl dL_start_331 (fun H locs hP hS => ?_)
        obtain ⟨v18, M19, hv18, h⟩ := bP_e h
        refine mw_callSi X (c_L_force l E1 hA hv18) pk_L_force wm_528 wm_527 ⟨Nat.le_of_ble_eq_true rfl, Nat.le_of_ble_eq_true rfl⟩ ⟨rfl, rfl⟩ hP hS rfl hl.1 (Nat.le_of_ble_eq_true rfl) ⟨Nat.le_of_ble_eq_true rfl, Nat.le_of_ble_eq_true rfl⟩ rfl dL_start_334 (fun H locs hP hS => ?_)
        refine lv_pop hx hb dL_start_337 rfl ?_
        refine lv_aload_n hx hb dL_start_338 rfl (lv_at hl 0 rfl) ?_
        refine lv_iconst (v := 3) hx hb dL_start_339 (by decide) ?_
        refine lv_iconst (v := 0) hx hb dL_start_340 (by decide) ?_
        refine mw_st X hP hS ix_28 (fun _ => rfl) (j := 3) (inb_vp (by decide)) rfl dL_start_341 (fun H locs M20 eM20 hP hS => ?_)
        have h := bd_e h eM20
        refine lv_aload_n hx hb dL_start_342 rfl (lv_at hl 0 rfl) ?_
        refine lv_iconst (v := 4) hx hb dL_start_343 (by decide) ?_
        refine lv_dup2_11 hx hb dL_start_344 rfl rfl ?_
        refine mw_ld X hP ix_28 rfl (v := (M20 11 28 4)) (inb_vp (by decide)) rfl dL_start_345 ?_
        refine lv_iload hx hb dL_start_346 (lv_at hl 5 rfl) ?_
        refine lv_iadd hx hb dL_start_348 ?_
        refine mw_st X hP hS ix_28 (fun _ => rfl) (j := 4) (inb_vp (by decide)) rfl dL_start_349 (fun H locs M21 eM21 hP hS => ?_)
        have h := bd_e h eM21
        refine lv_iload hx hb dL_start_350 (lv_at hl 5 rfl) ?_
        have h := Option.some.inj h
        exact mw_iretS X0 hr hlocks (ex_back eE1 tE hP) hS (congrArg Prod.fst h) (congrArg Prod.snd h) dL_start_352
      · have h := br_0 h c13
        refine lv_aload_n hx hb dL_start_229 rfl (lv_at hl 2 rfl) ?_
        refine lv_aload_n hx hb dL_start_230 rfl (lv_at hl 0 rfl) ?_
        refine lv_iload hx hb dL_start_231 (lv_at hl 6 rfl) ?_
        refine lv_iconst (v := 0) hx hb dL_start_233 (by decide) ?_
        obtain ⟨v22, hv22, h⟩ := bO_e h
        refine mw_callSi X (c_L_of l E1 hA hv22) pk_L_of wm_176 wm_175 ⟨Nat.le_of_ble_eq_true rfl, Nat.le_of_ble_eq_true rfl⟩ ⟨rfl, rfl⟩ hP hS rfl hl.1 (Nat.le_of_ble_eq_true rfl) ⟨Nat.le_of_ble_eq_true rfl, Nat.le_of_ble_eq_true rfl⟩ rfl dL_start_234 (fun H locs hP hS => ?_)
        refine lv_istore (lv' := [(9, .int v22), (0, .ref (E1.2.2 11 28)), (1, .ref (E1.2.2 11 30)), (2, .ref (E1.2.2 11 31)), (4, .ref (E1.2.2 11 33)), (5, .ref (E1.2.2 11 34)), (7, .int y7), (8, .int y8)]) hx hb dL_start_237 hl (by decide) rfl (fun ls hl => ?_)
        refine lv_aload_n hx hb dL_start_239 rfl (lv_at hl 3 rfl) ?_
        refine lv_aload_n hx hb dL_start_240 rfl (lv_at hl 1 rfl) ?_
        refine lv_iload hx hb dL_start_241 (lv_at hl 7 rfl) ?_
        refine lv_iconst (v := 2) hx hb dL_start_243 (by decide) ?_
        obtain ⟨v23, hv23, h⟩ := bO_e h
        refine mw_callSi X (c_L_of l E1 hA hv23) pk_L_of wm_176 wm_175 ⟨Nat.le_of_ble_eq_true rfl, Nat.le_of_ble_eq_true rfl⟩ ⟨rfl, rfl⟩ hP hS rfl hl.1 (Nat.le_of_ble_eq_true rfl) ⟨Nat.le_of_ble_eq_true rfl, Nat.le_of_ble_eq_true rfl⟩ rfl dL_start_244 (fun H locs hP hS => ?_)
        refine lv_istore (lv' := [(10, .int v23), (9, .int v22), (0, .ref (E1.2.2 11 28)), (1, .ref (E1.2.2 11 30)), (2, .ref (E1.2.2 11 31)), (4, .ref (E1.2.2 11 33)), (5, .ref (E1.2.2 11 34)), (7, .int y7), (8, .int y8)]) hx hb dL_start_247 hl (by decide) rfl (fun ls hl => ?_)
        refine lv_iload hx hb dL_start_249 (lv_at hl 1 rfl) ?_
        refine lv_iconst (v := 1) hx hb dL_start_251 (by decide) ?_
        refine lv_icmp_eq (tgt := 261) hx hb dL_start_252 (by decide) (fun c24 => ?_) (fun c24 => ?_)
        · have h := br_1 h c24
          exact w_L261 _ _ _ _ _ _ _ h hP hS (lv_sub hl [2, 3, 4, 5, 6, 7, 8, 0] rfl)
        · have h := br_0 h c24
          refine lv_iload hx hb dL_start_255 (lv_at hl 1 rfl) ?_
          refine lv_iconst (v := 3) hx hb dL_start_257 (by decide) ?_
          refine lv_icmp_ne (tgt := 309) hx hb dL_start_258 (by decide) (fun c36 => ?_) (fun c36 => ?_)
          · have h := br_0 h c36
            exact w_L309 _ _ _ _ _ _ h hP hS (lv_sub hl [2, 3, 4, 5, 6, 7, 8] rfl)
          · have h := br_1 h c36
            exact w_L261 _ _ _ _ _ _ _ h hP hS (lv_sub hl [2, 3, 4, 5, 6, 7, 8, 0] rfl)
  have w_L86 : ∀ (n86 : Nat) (M : Mem) (y7 : Int32) (H : Heap) (locs : List Loc) (ls : Array Slot), itr (f_L_start_L86 ) (fun _ _ => none) n86 M y7 = some (r0, M0) → va_P E1.1 vwCl (wl E1 M) H → va_S (AS E s.heap.size) s.heap H locs → lv_has ls 11 [(0, .ref (E1.2.2 11 28)), (1, .ref (E1.2.2 11 30)), (2, .ref (E1.2.2 11 31)), (4, .ref (E1.2.2 11 33)), (5, .ref (E1.2.2 11 34)), (7, .int y7)] → W p l e (headSpec (Wm yL_start cL_start 11 (some .int)) ({ frames := 3, cells := 1, slots := 8, locals := 101 } : Room)).room s m ([Value.ref (E.2.2 11 28), Value.ref (E.2.2 11 30), Value.ref (E.2.2 11 31), Value.ref (E.2.2 11 32), Value.ref (E.2.2 11 33)] : List Value).toArray below meth c H locs 1 8 (MQ below (QIs E s.heap.size r0 M0) ([Value.ref (E.2.2 11 28), Value.ref (E.2.2 11 30), Value.ref (E.2.2 11 31), Value.ref (E.2.2 11 32), Value.ref (E.2.2 11 33)] : List Value).toArray s 1 8 (AS E s.heap.size)) (F0 m 86 ls []) := by
    intro n86
    induction n86 with
    | zero => intro M y7 H locs ls h; exact (nomatch (show (none : Option (Int32 × Mem)) = some _ from h))
    | succ n86 ih86 =>
      intro M y7 H locs ls h hP hS hl
      have h : f_L_start_L86 (itr (f_L_start_L86 ) (fun _ _ => none) n86) M y7 = some (r0, M0) := h
      have w_L206 : ∀ (M : Mem) (y7 : Int32) (H : Heap) (locs : List Loc) (ls : Array Slot), f_L_start_L206 (itr (f_L_start_L86 ) (fun _ _ => none) n86) M y7 = some (r0, M0) → va_P E1.1 vwCl (wl E1 M) H → va_S (AS E s.heap.size) s.heap H locs → lv_has ls 11 [(0, .ref (E1.2.2 11 28)), (1, .ref (E1.2.2 11 30)), (2, .ref (E1.2.2 11 31)), (4, .ref (E1.2.2 11 33)), (5, .ref (E1.2.2 11 34)), (7, .int y7)] → W p l e (headSpec (Wm yL_start cL_start 11 (some .int)) ({ frames := 3, cells := 1, slots := 8, locals := 101 } : Room)).room s m ([Value.ref (E.2.2 11 28), Value.ref (E.2.2 11 30), Value.ref (E.2.2 11 31), Value.ref (E.2.2 11 32), Value.ref (E.2.2 11 33)] : List Value).toArray below meth c H locs 1 8 (MQ below (QIs E s.heap.size r0 M0) ([Value.ref (E.2.2 11 28), Value.ref (E.2.2 11 30), Value.ref (E.2.2 11 31), Value.ref (E.2.2 11 32), Value.ref (E.2.2 11 33)] : List Value).toArray s 1 8 (AS E s.heap.size)) (F0 m 206 ls []) := by
        intro M y7 H locs ls h hP hS hl
        unfold f_L_start_L206 at h
        obtain ⟨x46, ex46⟩ : ∃ y : Int32, y = y7 + (1 : Int32) := ⟨_, rfl⟩
        have h := bd_e h ex46
        refine lv_iinc (v := x46) (lv' := [(7, .int x46), (0, .ref (E1.2.2 11 28)), (1, .ref (E1.2.2 11 30)), (2, .ref (E1.2.2 11 31)), (4, .ref (E1.2.2 11 33)), (5, .ref (E1.2.2 11 34))]) hx hb dL_start_206 hl (k := 5) rfl (by rw [ex46]; rfl) (by decide) rfl (fun ls hl => ?_)
        refine lv_goto (tgt := 86) hx hb dL_start_209 (by decide) ?_
        exact ih86 _ _ _ _ _ h hP hS (lv_sub hl [1, 2, 3, 4, 5, 0] rfl)
      have w_L164 : ∀ (M : Mem) (y7 y8 z0 z1 : Int32) (H : Heap) (locs : List Loc) (ls : Array Slot), f_L_start_L164 (itr (f_L_start_L86 ) (fun _ _ => none) n86) M y7 y8 z0 z1 = some (r0, M0) → va_P E1.1 vwCl (wl E1 M) H → va_S (AS E s.heap.size) s.heap H locs → lv_has ls 11 [(0, .ref (E1.2.2 11 28)), (1, .ref (E1.2.2 11 30)), (2, .ref (E1.2.2 11 31)), (4, .ref (E1.2.2 11 33)), (5, .ref (E1.2.2 11 34)), (7, .int y7), (8, .int y8)] → W p l e (headSpec (Wm yL_start cL_start 11 (some .int)) ({ frames := 3, cells := 1, slots := 8, locals := 101 } : Room)).room s m ([Value.ref (E.2.2 11 28), Value.ref (E.2.2 11 30), Value.ref (E.2.2 11 31), Value.ref (E.2.2 11 32), Value.ref (E.2.2 11 33)] : List Value).toArray below meth c H locs 1 8 (MQ below (QIs E s.heap.size r0 M0) ([Value.ref (E.2.2 11 28), Value.ref (E.2.2 11 30), Value.ref (E.2.2 11 31), Value.ref (E.2.2 11 32), Value.ref (E.2.2 11 33)] : List Value).toArray s 1 8 (AS E s.heap.size)) (F0 m 164 ls [.int z0, .int z1, .ref (E1.2.2 11 33)]) := by
        intro M y7 y8 z0 z1 H locs ls h hP hS hl
        unfold f_L_start_L164 at h
        obtain ⟨g43, h⟩ := gd_e h
        refine mw_st X hP hS h33 (fun _ => rfl) (inb_vp g43) rfl dL_start_164 (fun H locs M42 eM42 hP hS => ?_)
        have h := bd_e h eM42
        refine lv_iload hx hb dL_start_165 (lv_at hl 6 rfl) ?_
        refine lv_iconst (v := 2) hx hb dL_start_167 (by decide) ?_
        obtain ⟨g44, h⟩ := gd_e h
        refine lv_irem hx hb dL_start_168 g44 ?_
        refine lv_iconst (v := 1) hx hb dL_start_169 (by decide) ?_
        refine lv_icmp_ne (tgt := 206) hx hb dL_start_170 (by decide) (fun c45 => ?_) (fun c45 => ?_)
        · have h := br_0 h c45
          exact w_L206 _ _ _ _ _ h hP hS (lv_sub hl [0, 1, 2, 3, 4, 5] rfl)
        · have h := br_1 h c45
          refine lv_iload hx hb dL_start_173 (lv_at hl 6 rfl) ?_
          refine lv_iconst (v := 5) hx hb dL_start_175 (by decide) ?_
          refine lv_icmp_ge (tgt := 206) hx hb dL_start_176 (by decide) (fun c47 => ?_) (fun c47 => ?_)
          · have h := br_1 h c47
            exact w_L206 _ _ _ _ _ h hP hS (lv_sub hl [0, 1, 2, 3, 4, 5] rfl)
          · have h := br_0 h c47
            refine lv_aload hx hb dL_start_179 (lv_at hl 4 rfl) ?_
            refine lv_aload_n hx hb dL_start_181 rfl (lv_at hl 2 rfl) ?_
            refine lv_aload_n hx hb dL_start_182 rfl (lv_at hl 0 rfl) ?_
            refine lv_iload hx hb dL_start_183 (lv_at hl 5 rfl) ?_
            refine lv_iconst (v := 2) hx hb dL_start_185 (by decide) ?_
            obtain ⟨v48, hv48, h⟩ := bO_e h
            refine mw_callSi X (c_L_of l E1 hA hv48) pk_L_of wm_176 wm_175 ⟨Nat.le_of_ble_eq_true rfl, Nat.le_of_ble_eq_true rfl⟩ ⟨rfl, rfl⟩ hP hS rfl hl.1 (Nat.le_of_ble_eq_true rfl) ⟨Nat.le_of_ble_eq_true rfl, Nat.le_of_ble_eq_true rfl⟩ rfl dL_start_186 (fun H locs hP hS => ?_)
            obtain ⟨g49, h⟩ := gd_e h
            refine mw_ld X hP h34 rfl (inb_vp g49) rfl dL_start_189 ?_
            refine lv_if_ne (tgt := 206) hx hb dL_start_190 (by decide) (fun c50 => ?_) (fun c50 => ?_)
            · have h := br_0 h c50
              exact w_L206 _ _ _ _ _ h hP hS (lv_sub hl [0, 1, 2, 3, 4, 5] rfl)
            · have h := br_1 h c50
              refine lv_aload hx hb dL_start_193 (lv_at hl 4 rfl) ?_
              refine lv_aload_n hx hb dL_start_195 rfl (lv_at hl 2 rfl) ?_
              refine lv_aload_n hx hb dL_start_196 rfl (lv_at hl 0 rfl) ?_
              refine lv_iload hx hb dL_start_197 (lv_at hl 5 rfl) ?_
              refine lv_iconst (v := 2) hx hb dL_start_199 (by decide) ?_
              obtain ⟨v51, hv51, h⟩ := bO_e h
              refine mw_callSi X (c_L_of l E1 hA hv51) pk_L_of wm_176 wm_175 ⟨Nat.le_of_ble_eq_true rfl, Nat.le_of_ble_eq_true rfl⟩ ⟨rfl, rfl⟩ hP hS rfl hl.1 (Nat.le_of_ble_eq_true rfl) ⟨Nat.le_of_ble_eq_true rfl, Nat.le_of_ble_eq_true rfl⟩ rfl dL_start_200 (fun H locs hP hS => ?_)
              refine lv_iload hx hb dL_start_203 (lv_at hl 5 rfl) ?_
              obtain ⟨g53, h⟩ := gd_e h
              refine mw_st X hP hS h34 (fun _ => rfl) (inb_vp g53) rfl dL_start_205 (fun H locs M52 eM52 hP hS => ?_)
              have h := bd_e h eM52
              exact w_L206 _ _ _ _ _ h hP hS (lv_sub hl [0, 1, 2, 3, 4, 5] rfl)
      have w_L147 : ∀ (M : Mem) (y7 y8 y9 z0 : Int32) (H : Heap) (locs : List Loc) (ls : Array Slot), f_L_start_L147 (itr (f_L_start_L86 ) (fun _ _ => none) n86) M y7 y8 y9 z0 = some (r0, M0) → va_P E1.1 vwCl (wl E1 M) H → va_S (AS E s.heap.size) s.heap H locs → lv_has ls 11 [(0, .ref (E1.2.2 11 28)), (1, .ref (E1.2.2 11 30)), (2, .ref (E1.2.2 11 31)), (4, .ref (E1.2.2 11 33)), (5, .ref (E1.2.2 11 34)), (7, .int y7), (8, .int y8), (9, .int y9)] → W p l e (headSpec (Wm yL_start cL_start 11 (some .int)) ({ frames := 3, cells := 1, slots := 8, locals := 101 } : Room)).room s m ([Value.ref (E.2.2 11 28), Value.ref (E.2.2 11 30), Value.ref (E.2.2 11 31), Value.ref (E.2.2 11 32), Value.ref (E.2.2 11 33)] : List Value).toArray below meth c H locs 1 8 (MQ below (QIs E s.heap.size r0 M0) ([Value.ref (E.2.2 11 28), Value.ref (E.2.2 11 30), Value.ref (E.2.2 11 31), Value.ref (E.2.2 11 32), Value.ref (E.2.2 11 33)] : List Value).toArray s 1 8 (AS E s.heap.size)) (F0 m 147 ls [.int z0, .ref (E1.2.2 11 33)]) := by
        intro M y7 y8 y9 z0 H locs ls h hP hS hl
        unfold f_L_start_L147 at h
        refine lv_aload hx hb dL_start_147 (lv_at hl 3 rfl) ?_
        refine lv_iconst (v := 0) hx hb dL_start_149 (by decide) ?_
        refine mw_ld X hP h33 rfl (v := (M 11 33 0)) (inb_vp (by decide)) rfl dL_start_150 ?_
        refine lv_bipush (v := 15) hx hb dL_start_151 (by decide) ?_
        refine lv_iload hx hb dL_start_153 (lv_at hl 7 rfl) ?_
        refine lv_isub hx hb dL_start_155 ?_
        refine lv_iand hx hb dL_start_156 ?_
        refine lv_goto (tgt := 164) hx hb dL_start_157 (by decide) ?_
        exact w_L164 _ _ _ _ _ _ _ _ h hP hS (lv_sub hl [0, 1, 2, 3, 4, 5, 6] rfl)
      unfold f_L_start_L86 at h
      refine lv_iload hx hb dL_start_86 (lv_at hl 5 rfl) ?_
      refine lv_aload_n hx hb dL_start_88 rfl (lv_at hl 0 rfl) ?_
      obtain ⟨v9, hv9, h⟩ := bO_e h
      refine mw_callSi X (c_L_last l E1 hA hv9) pk_L_last wm_170 wm_169 ⟨Nat.le_of_ble_eq_true rfl, Nat.le_of_ble_eq_true rfl⟩ ⟨rfl, rfl⟩ hP hS rfl hl.1 (Nat.le_of_ble_eq_true rfl) ⟨Nat.le_of_ble_eq_true rfl, Nat.le_of_ble_eq_true rfl⟩ rfl dL_start_89 (fun H locs hP hS => ?_)
      refine lv_icmp_gt (tgt := 212) hx hb dL_start_92 (by decide) (fun c10 => ?_) (fun c10 => ?_)
      · have h := br_1 h c10
        refine lv_iconst (v := 0) hx hb dL_start_212 (by decide) ?_
        refine lv_istore (lv' := [(7, .int (0 : Int32)), (0, .ref (E1.2.2 11 28)), (1, .ref (E1.2.2 11 30)), (2, .ref (E1.2.2 11 31)), (4, .ref (E1.2.2 11 33)), (5, .ref (E1.2.2 11 34))]) hx hb dL_start_213 hl (by decide) rfl (fun ls hl => ?_)
        refine lv_aload_n hx hb dL_start_215 rfl (lv_at hl 1 rfl) ?_
        refine lv_iconst (v := 0) hx hb dL_start_216 (by decide) ?_
        refine mw_ld X hP ix_28 rfl (v := (M 11 28 0)) (inb_vp (by decide)) rfl dL_start_217 ?_
        refine lv_topi (fun x11 ex11 => ?_)
        have h := bd_e h ex11
        refine lv_istore (lv' := [(8, .int x11), (7, .int (0 : Int32)), (0, .ref (E1.2.2 11 28)), (1, .ref (E1.2.2 11 30)), (2, .ref (E1.2.2 11 31)), (4, .ref (E1.2.2 11 33)), (5, .ref (E1.2.2 11 34))]) hx hb dL_start_218 hl (by decide) rfl (fun ls hl => ?_)
        exact w_L220 FU _ _ _ _ _ _ h hP hS (lv_sub hl [2, 3, 4, 5, 6, 1, 0] rfl)
      · have h := br_0 h c10
        refine lv_aload_n hx hb dL_start_95 rfl (lv_at hl 2 rfl) ?_
        refine lv_aload_n hx hb dL_start_96 rfl (lv_at hl 0 rfl) ?_
        refine lv_iload hx hb dL_start_97 (lv_at hl 5 rfl) ?_
        refine lv_iconst (v := 0) hx hb dL_start_99 (by decide) ?_
        obtain ⟨v37, hv37, h⟩ := bO_e h
        refine mw_callSi X (c_L_of l E1 hA hv37) pk_L_of wm_176 wm_175 ⟨Nat.le_of_ble_eq_true rfl, Nat.le_of_ble_eq_true rfl⟩ ⟨rfl, rfl⟩ hP hS rfl hl.1 (Nat.le_of_ble_eq_true rfl) ⟨Nat.le_of_ble_eq_true rfl, Nat.le_of_ble_eq_true rfl⟩ rfl dL_start_100 (fun H locs hP hS => ?_)
        refine lv_istore (lv' := [(8, .int v37), (0, .ref (E1.2.2 11 28)), (1, .ref (E1.2.2 11 30)), (2, .ref (E1.2.2 11 31)), (4, .ref (E1.2.2 11 33)), (5, .ref (E1.2.2 11 34)), (7, .int y7)]) hx hb dL_start_103 hl (by decide) rfl (fun ls hl => ?_)
        refine lv_iconst (v := 1) hx hb dL_start_105 (by decide) ?_
        refine lv_aload_n hx hb dL_start_106 rfl (lv_at hl 3 rfl) ?_
        refine lv_aload_n hx hb dL_start_107 rfl (lv_at hl 1 rfl) ?_
        refine lv_iload hx hb dL_start_108 (lv_at hl 6 rfl) ?_
        refine lv_iconst (v := 1) hx hb dL_start_110 (by decide) ?_
        obtain ⟨v38, hv38, h⟩ := bO_e h
        refine mw_callSi X (c_L_of l E1 hA hv38) pk_L_of wm_176 wm_175 ⟨Nat.le_of_ble_eq_true rfl, Nat.le_of_ble_eq_true rfl⟩ ⟨rfl, rfl⟩ hP hS rfl hl.1 (Nat.le_of_ble_eq_true rfl) ⟨Nat.le_of_ble_eq_true rfl, Nat.le_of_ble_eq_true rfl⟩ rfl dL_start_111 (fun H locs hP hS => ?_)
        refine lv_ishl hx hb dL_start_114 ?_
        refine lv_topi (fun x39 ex39 => ?_)
        have h := bd_e h ex39
        refine lv_istore (lv' := [(9, .int x39), (8, .int v37), (0, .ref (E1.2.2 11 28)), (1, .ref (E1.2.2 11 30)), (2, .ref (E1.2.2 11 31)), (4, .ref (E1.2.2 11 33)), (5, .ref (E1.2.2 11 34)), (7, .int y7)]) hx hb dL_start_115 hl (by decide) rfl (fun ls hl => ?_)
        refine lv_aload hx hb dL_start_117 (lv_at hl 5 rfl) ?_
        refine lv_iconst (v := 0) hx hb dL_start_119 (by decide) ?_
        refine lv_iload hx hb dL_start_120 (lv_at hl 1 rfl) ?_
        refine lv_if_ne (tgt := 135) hx hb dL_start_122 (by decide) (fun c40 => ?_) (fun c40 => ?_)
        · have h := br_0 h c40
          refine lv_iload hx hb dL_start_135 (lv_at hl 1 rfl) ?_
          refine lv_iconst (v := 2) hx hb dL_start_137 (by decide) ?_
          refine lv_icmp_eq (tgt := 147) hx hb dL_start_138 (by decide) (fun c41 => ?_) (fun c41 => ?_)
          · have h := br_1 h c41
            exact w_L147 _ _ _ _ _ _ _ _ h hP hS (lv_sub hl [2, 3, 4, 5, 6, 7, 1, 0] rfl)
          · have h := br_0 h c41
            refine lv_iload hx hb dL_start_141 (lv_at hl 1 rfl) ?_
            refine lv_iconst (v := 4) hx hb dL_start_143 (by decide) ?_
            refine lv_icmp_ne (tgt := 160) hx hb dL_start_144 (by decide) (fun c54 => ?_) (fun c54 => ?_)
            · have h := br_0 h c54
              refine lv_aload hx hb dL_start_160 (lv_at hl 5 rfl) ?_
              refine lv_iconst (v := 0) hx hb dL_start_162 (by decide) ?_
              refine mw_ld X hP h33 rfl (v := (M 11 33 0)) (inb_vp (by decide)) rfl dL_start_163 ?_
              exact w_L164 _ _ _ _ _ _ _ _ h hP hS (lv_sub hl [2, 3, 4, 5, 6, 7, 1] rfl)
            · have h := br_1 h c54
              exact w_L147 _ _ _ _ _ _ _ _ h hP hS (lv_sub hl [2, 3, 4, 5, 6, 7, 1, 0] rfl)
        · have h := br_1 h c40
          refine lv_aload hx hb dL_start_125 (lv_at hl 5 rfl) ?_
          refine lv_iconst (v := 0) hx hb dL_start_127 (by decide) ?_
          refine mw_ld X hP h33 rfl (v := (M 11 33 0)) (inb_vp (by decide)) rfl dL_start_128 ?_
          refine lv_iload hx hb dL_start_129 (lv_at hl 0 rfl) ?_
          refine lv_ior hx hb dL_start_131 ?_
          refine lv_goto (tgt := 164) hx hb dL_start_132 (by decide) ?_
          exact w_L164 _ _ _ _ _ _ _ _ h hP hS (lv_sub hl [2, 3, 4, 5, 6, 7, 1] rfl)
  have w_L84 : ∀ (M : Mem) (z0 : Int32) (H : Heap) (locs : List Loc) (ls : Array Slot), f_L_start_L84  M z0 = some (r0, M0) → va_P E1.1 vwCl (wl E1 M) H → va_S (AS E s.heap.size) s.heap H locs → lv_has ls 11 [(0, .ref (E1.2.2 11 28)), (1, .ref (E1.2.2 11 30)), (2, .ref (E1.2.2 11 31)), (4, .ref (E1.2.2 11 33)), (5, .ref (E1.2.2 11 34))] → W p l e (headSpec (Wm yL_start cL_start 11 (some .int)) ({ frames := 3, cells := 1, slots := 8, locals := 101 } : Room)).room s m ([Value.ref (E.2.2 11 28), Value.ref (E.2.2 11 30), Value.ref (E.2.2 11 31), Value.ref (E.2.2 11 32), Value.ref (E.2.2 11 33)] : List Value).toArray below meth c H locs 1 8 (MQ below (QIs E s.heap.size r0 M0) ([Value.ref (E.2.2 11 28), Value.ref (E.2.2 11 30), Value.ref (E.2.2 11 31), Value.ref (E.2.2 11 32), Value.ref (E.2.2 11 33)] : List Value).toArray s 1 8 (AS E s.heap.size)) (F0 m 84 ls [.int z0]) := by
    intro M z0 H locs ls h hP hS hl
    unfold f_L_start_L84 at h
    refine lv_istore (lv' := [(7, .int z0), (0, .ref (E1.2.2 11 28)), (1, .ref (E1.2.2 11 30)), (2, .ref (E1.2.2 11 31)), (4, .ref (E1.2.2 11 33)), (5, .ref (E1.2.2 11 34))]) hx hb dL_start_84 hl (by decide) rfl (fun ls hl => ?_)
    exact w_L86 FU _ _ _ _ _ h hP hS (lv_sub hl [1, 2, 3, 4, 5, 0] rfl)
  have w_L38 : ∀ (n38 : Nat) (M : Mem) (y6 y7 : Int32) (H : Heap) (locs : List Loc) (ls : Array Slot), itr (f_L_start_L38 ) (fun _ _ _ => none) n38 M y6 y7 = some (r0, M0) → va_P E1.1 vwCl (wl E1 M) H → va_S (AS E s.heap.size) s.heap H locs → lv_has ls 11 [(0, .ref (E1.2.2 11 28)), (1, .ref (E1.2.2 11 30)), (2, .ref (E1.2.2 11 31)), (3, .ref (E1.2.2 11 32)), (4, .ref (E1.2.2 11 33)), (5, .ref (E1.2.2 11 34)), (6, .int y6), (7, .int y7)] → W p l e (headSpec (Wm yL_start cL_start 11 (some .int)) ({ frames := 3, cells := 1, slots := 8, locals := 101 } : Room)).room s m ([Value.ref (E.2.2 11 28), Value.ref (E.2.2 11 30), Value.ref (E.2.2 11 31), Value.ref (E.2.2 11 32), Value.ref (E.2.2 11 33)] : List Value).toArray below meth c H locs 1 8 (MQ below (QIs E s.heap.size r0 M0) ([Value.ref (E.2.2 11 28), Value.ref (E.2.2 11 30), Value.ref (E.2.2 11 31), Value.ref (E.2.2 11 32), Value.ref (E.2.2 11 33)] : List Value).toArray s 1 8 (AS E s.heap.size)) (F0 m 38 ls []) := by
    intro n38
    induction n38 with
    | zero => intro M y6 y7 H locs ls h; exact (nomatch (show (none : Option (Int32 × Mem)) = some _ from h))
    | succ n38 ih38 =>
      intro M y6 y7 H locs ls h hP hS hl
      have h : f_L_start_L38 (itr (f_L_start_L38 ) (fun _ _ _ => none) n38) M y6 y7 = some (r0, M0) := h
      have w_L62 : ∀ (M : Mem) (y6 y7 z0 z1 : Int32) (H : Heap) (locs : List Loc) (ls : Array Slot), f_L_start_L62 (itr (f_L_start_L38 ) (fun _ _ _ => none) n38) M y6 y7 z0 z1 = some (r0, M0) → va_P E1.1 vwCl (wl E1 M) H → va_S (AS E s.heap.size) s.heap H locs → lv_has ls 11 [(0, .ref (E1.2.2 11 28)), (1, .ref (E1.2.2 11 30)), (2, .ref (E1.2.2 11 31)), (3, .ref (E1.2.2 11 32)), (4, .ref (E1.2.2 11 33)), (5, .ref (E1.2.2 11 34)), (6, .int y6), (7, .int y7)] → W p l e (headSpec (Wm yL_start cL_start 11 (some .int)) ({ frames := 3, cells := 1, slots := 8, locals := 101 } : Room)).room s m ([Value.ref (E.2.2 11 28), Value.ref (E.2.2 11 30), Value.ref (E.2.2 11 31), Value.ref (E.2.2 11 32), Value.ref (E.2.2 11 33)] : List Value).toArray below meth c H locs 1 8 (MQ below (QIs E s.heap.size r0 M0) ([Value.ref (E.2.2 11 28), Value.ref (E.2.2 11 30), Value.ref (E.2.2 11 31), Value.ref (E.2.2 11 32), Value.ref (E.2.2 11 33)] : List Value).toArray s 1 8 (AS E s.heap.size)) (F0 m 62 ls [.int z0, .int z1, .ref (E1.2.2 11 34)]) := by
        intro M y6 y7 z0 z1 H locs ls h hP hS hl
        unfold f_L_start_L62 at h
        obtain ⟨g58, h⟩ := gd_e h
        refine mw_st X hP hS h34 (fun _ => rfl) (inb_vp g58) rfl dL_start_62 (fun H locs M57 eM57 hP hS => ?_)
        have h := bd_e h eM57
        obtain ⟨x59, ex59⟩ : ∃ y : Int32, y = y7 + (1 : Int32) := ⟨_, rfl⟩
        have h := bd_e h ex59
        refine lv_iinc (v := x59) (lv' := [(7, .int x59), (0, .ref (E1.2.2 11 28)), (1, .ref (E1.2.2 11 30)), (2, .ref (E1.2.2 11 31)), (3, .ref (E1.2.2 11 32)), (4, .ref (E1.2.2 11 33)), (5, .ref (E1.2.2 11 34)), (6, .int y6)]) hx hb dL_start_63 hl (k := 7) rfl (by rw [ex59]; rfl) (by decide) rfl (fun ls hl => ?_)
        refine lv_goto (tgt := 38) hx hb dL_start_66 (by decide) ?_
        exact ih38 _ _ _ _ _ _ h hP hS (lv_sub hl [1, 2, 3, 4, 5, 6, 7, 0] rfl)
      unfold f_L_start_L38 at h
      refine lv_iload hx hb dL_start_38 (lv_at hl 7 rfl) ?_
      refine lv_bipush (v := 8) hx hb dL_start_40 (by decide) ?_
      refine lv_icmp_ge (tgt := 69) hx hb dL_start_42 (by decide) (fun c7 => ?_) (fun c7 => ?_)
      · have h := br_1 h c7
        refine lv_iload hx hb dL_start_69 (lv_at hl 6 rfl) ?_
        refine lv_if_ne (tgt := 80) hx hb dL_start_71 (by decide) (fun c8 => ?_) (fun c8 => ?_)
        · have h := br_0 h c8
          refine lv_iload hx hb dL_start_80 (lv_at hl 6 rfl) ?_
          refine lv_iconst (v := 1) hx hb dL_start_82 (by decide) ?_
          refine lv_iadd hx hb dL_start_83 ?_
          exact w_L84 _ _ _ _ _ h hP hS (lv_sub hl [0, 1, 2, 4, 5] rfl)
        · have h := br_1 h c8
          refine lv_aload_n hx hb dL_start_74 rfl (lv_at hl 0 rfl) ?_
          refine lv_iconst (v := 0) hx hb dL_start_75 (by decide) ?_
          refine mw_ld X hP ix_28 rfl (v := (M 11 28 0)) (inb_vp (by decide)) rfl dL_start_76 ?_
          refine lv_goto (tgt := 84) hx hb dL_start_77 (by decide) ?_
          exact w_L84 _ _ _ _ _ h hP hS (lv_sub hl [0, 1, 2, 4, 5] rfl)
      · have h := br_0 h c7
        refine lv_aload hx hb dL_start_45 (lv_at hl 5 rfl) ?_
        refine lv_iload hx hb dL_start_47 (lv_at hl 7 rfl) ?_
        refine lv_iload hx hb dL_start_49 (lv_at hl 6 rfl) ?_
        refine lv_if_ne (tgt := 58) hx hb dL_start_51 (by decide) (fun c55 => ?_) (fun c55 => ?_)
        · have h := br_0 h c55
          refine lv_aload_n hx hb dL_start_58 rfl (lv_at hl 3 rfl) ?_
          refine lv_iload hx hb dL_start_59 (lv_at hl 7 rfl) ?_
          obtain ⟨g56, h⟩ := gd_e h
          refine mw_ld X hP ix_32 rfl (inb_vp g56) rfl dL_start_61 ?_
          exact w_L62 _ _ _ _ _ _ _ _ h hP hS (lv_sub hl [0, 1, 2, 3, 4, 5, 6, 7] rfl)
        · have h := br_1 h c55
          refine lv_iconst (v := 0) hx hb dL_start_54 (by decide) ?_
          refine lv_goto (tgt := 62) hx hb dL_start_55 (by decide) ?_
          exact w_L62 _ _ _ _ _ _ _ _ h hP hS (lv_sub hl [0, 1, 2, 3, 4, 5, 6, 7] rfl)
  have w_L34 : ∀ (M : Mem) (y6 z0 z1 : Int32) (H : Heap) (locs : List Loc) (ls : Array Slot), f_L_start_L34  M y6 z0 z1 = some (r0, M0) → va_P E1.1 vwCl (wl E1 M) H → va_S (AS E s.heap.size) s.heap H locs → lv_has ls 11 [(0, .ref (E1.2.2 11 28)), (1, .ref (E1.2.2 11 30)), (2, .ref (E1.2.2 11 31)), (3, .ref (E1.2.2 11 32)), (4, .ref (E1.2.2 11 33)), (5, .ref (E1.2.2 11 34)), (6, .int y6)] → W p l e (headSpec (Wm yL_start cL_start 11 (some .int)) ({ frames := 3, cells := 1, slots := 8, locals := 101 } : Room)).room s m ([Value.ref (E.2.2 11 28), Value.ref (E.2.2 11 30), Value.ref (E.2.2 11 31), Value.ref (E.2.2 11 32), Value.ref (E.2.2 11 33)] : List Value).toArray below meth c H locs 1 8 (MQ below (QIs E s.heap.size r0 M0) ([Value.ref (E.2.2 11 28), Value.ref (E.2.2 11 30), Value.ref (E.2.2 11 31), Value.ref (E.2.2 11 32), Value.ref (E.2.2 11 33)] : List Value).toArray s 1 8 (AS E s.heap.size)) (F0 m 34 ls [.int z0, .int z1, .ref (E1.2.2 11 33)]) := by
    intro M y6 z0 z1 H locs ls h hP hS hl
    unfold f_L_start_L34 at h
    obtain ⟨g6, h⟩ := gd_e h
    refine mw_st X hP hS h33 (fun _ => rfl) (inb_vp g6) rfl dL_start_34 (fun H locs M5 eM5 hP hS => ?_)
    have h := bd_e h eM5
    refine lv_iconst (v := 0) hx hb dL_start_35 (by decide) ?_
    refine lv_istore (lv' := [(7, .int (0 : Int32)), (0, .ref (E1.2.2 11 28)), (1, .ref (E1.2.2 11 30)), (2, .ref (E1.2.2 11 31)), (3, .ref (E1.2.2 11 32)), (4, .ref (E1.2.2 11 33)), (5, .ref (E1.2.2 11 34)), (6, .int y6)]) hx hb dL_start_36 hl (by decide) rfl (fun ls hl => ?_)
    exact w_L38 FU _ _ _ _ _ _ h hP hS (lv_sub hl [1, 2, 3, 4, 5, 6, 7, 0] rfl)
  refine lv_astore (lv' := [(5, .ref (E1.2.2 11 34)), (0, .ref (E1.2.2 11 28)), (1, .ref (E1.2.2 11 30)), (2, .ref (E1.2.2 11 31)), (3, .ref (E1.2.2 11 32)), (4, .ref (E1.2.2 11 33))]) hx hb dL_start_4 hl (by decide) rfl (fun ls hl => ?_)
  refine lv_aload_n hx hb dL_start_6 rfl (lv_at hl 1 rfl) ?_
  refine lv_aload_n hx hb dL_start_7 rfl (lv_at hl 3 rfl) ?_
  obtain ⟨v2, hv2, h⟩ := bO_e h
  refine mw_callSi X (c_L_latest l E1 hA hv2) pk_L_latest wm_224 wm_223 ⟨Nat.le_of_ble_eq_true rfl, Nat.le_of_ble_eq_true rfl⟩ ⟨rfl, rfl⟩ hP hS rfl hl.1 (Nat.le_of_ble_eq_true rfl) ⟨Nat.le_of_ble_eq_true rfl, Nat.le_of_ble_eq_true rfl⟩ rfl dL_start_8 (fun H locs hP hS => ?_)
  refine lv_istore (lv' := [(6, .int v2), (5, .ref (E1.2.2 11 34)), (0, .ref (E1.2.2 11 28)), (1, .ref (E1.2.2 11 30)), (2, .ref (E1.2.2 11 31)), (3, .ref (E1.2.2 11 32)), (4, .ref (E1.2.2 11 33))]) hx hb dL_start_11 hl (by decide) rfl (fun ls hl => ?_)
  refine lv_aload hx hb dL_start_13 (lv_at hl 6 rfl) ?_
  refine lv_iconst (v := 0) hx hb dL_start_15 (by decide) ?_
  refine lv_iload hx hb dL_start_16 (lv_at hl 0 rfl) ?_
  refine lv_if_ne (tgt := 25) hx hb dL_start_18 (by decide) (fun c3 => ?_) (fun c3 => ?_)
  · have h := br_0 h c3
    refine lv_aload_n hx hb dL_start_25 rfl (lv_at hl 4 rfl) ?_
    refine lv_aload_n hx hb dL_start_26 rfl (lv_at hl 2 rfl) ?_
    refine lv_iload hx hb dL_start_27 (lv_at hl 0 rfl) ?_
    refine lv_bipush (v := 6) hx hb dL_start_29 (by decide) ?_
    obtain ⟨v4, hv4, h⟩ := bO_e h
    refine mw_callSi X (c_L_of l E1 hA hv4) pk_L_of wm_176 wm_175 ⟨Nat.le_of_ble_eq_true rfl, Nat.le_of_ble_eq_true rfl⟩ ⟨rfl, rfl⟩ hP hS rfl hl.1 (Nat.le_of_ble_eq_true rfl) ⟨Nat.le_of_ble_eq_true rfl, Nat.le_of_ble_eq_true rfl⟩ rfl dL_start_31 (fun H locs hP hS => ?_)
    exact w_L34 _ _ _ _ _ _ _ h hP hS (lv_sub hl [2, 3, 4, 5, 6, 1, 0] rfl)
  · have h := br_1 h c3
    refine lv_iconst (v := 0) hx hb dL_start_21 (by decide) ?_
    refine lv_goto (tgt := 34) hx hb dL_start_22 (by decide) ?_
    exact w_L34 _ _ _ _ _ _ _ h hP hS (lv_sub hl [2, 3, 4, 5, 6, 1, 0] rfl)
