theorem pk_X0_init : Pk "SealedGroups$Groups" yX0_init cX0_init 1 none 0 := ⟨wm_55, wm_40, rfl, by decide +kernel⟩
set_option maxHeartbeats 16000000 in
set_option maxRecDepth 100000 in
theorem c_X0_init (l : Launch) (E : En) (h0 sz : Nat) : Met l yX0_init (Wm yX0_init cX0_init 1 none) ({ frames := 1, cells := 3, slots := 12, locals := 20 } : Room) (va_Pc [Value.ref h0] (CPre E h0 (.inr (0, [.null, .null, .null, .int 0])) sz)) (CQ E h0 (.inr (0, [.null, .null, .null, .int 0])) sz (fun A : Nat → Nat => A 7 = h0) (fun A => bk E A 7 4)) 3 12 (va_A [(h0, .inr (0, [.null, .null, .null, .int 0]))] sz) := by
  refine Met.ofW (cc := cX0_init) (maxL := 1) (ret := none) (by decide +kernel) rfl ?_
  intro p e s m args below meth c s₁ B hml hv
  obtain ⟨rfl, hsz, hP, hK⟩ := hv
  subst hsz
  have X : Cy E p s m c _ cX0_init 1 RX0 := ⟨⟨B.exec, B.bytes, hml, findClass_of_methodNamed B.named, fun w hw => atoms_spec (ws := Wm yX0_init cX0_init 1 none) B.pre w (List.mem_cons_of_mem _ hw)⟩, hK⟩
  have hx := B.exec
  have hb := B.bytes
  have hr := B.returns
  have hlocks := B.notSynchronized
  have hin : meth.name = "<init>" := (name_of_methodNamed B.named B.method).1
  clear B
  have hD : va_D (va_A [(h0, .inr (0, [.null, .null, .null, .int 0]))] s.heap.size) [(h0, .inr (0, [.null, .null, .null, .int 0]))] := cy_D1 (Or.inl ⟨0, _, rfl⟩)
  have hA : ∀ q : Nat, s.heap.size ≤ q → va_A [(h0, .inr (0, [.null, .null, .null, .int 0]))] s.heap.size q := fun q h => Or.inr h
  have hS : va_S (va_A [(h0, .inr (0, [.null, .null, .null, .int 0]))] s.heap.size) s.heap s.heap [] := va_S.rf
  obtain ⟨AA0, eA⟩ : ∃ Z : Nat → Prop, Z = va_A [(h0, .inr (0, [.null, .null, .null, .int 0]))] s.heap.size := ⟨_, rfl⟩
  rw [← eA] at hD hA hS
  have hP : va_P E.1 vwCl ((h0, .inr (0, [.null, .null, .null, .int 0])) :: []) s.heap := hP
  have hl := lv_entry ([Value.ref h0]) (n := 1) (Nat.le_of_ble_eq_true rfl)
  rw [lg_entry_eq]
  generalize (lg_sl ([Value.ref h0]) ++ List.replicate (1 - (lg_sl ([Value.ref h0])).length) Slot.unset).toArray = ls at hl ⊢
  have hl : lv_has ls 1 [(0, .ref h0)] := hl
  refine lv_aload_n hx hb dX0_init_0 rfl (lv_at hl 0 rfl) ?_
  refine W.objInit hx hb X.1.2.2.2.1 (X.1.2.2.2.2 _ wm_56) (X.1.2.2.2.2 _ wm_12) (X.1.2.2.2.2 _ wm_13) rfl (by rw [hml]; exact hl.1) rfl dX0_init_1 (Nat.le_of_ble_eq_true rfl) (Nat.le_of_ble_eq_true rfl) ?_
  refine W.eq (g2 := F0 m 4 ls []) rfl ?_
  refine lv_aload_n hx hb dX0_init_4 rfl (lv_at hl 0 rfl) ?_
  refine lv_iconst (v := 4) hx hb dX0_init_5 (by decide) ?_
  refine cy_newi X wm_3 hP hD hS hA (n := 4) (N' := 4) (by decide) (by decide) (by decide) (Nat.le_of_ble_eq_true rfl) (Nat.le_of_ble_eq_true rfl) dX0_init_6 (fun q1 H hP hD hS => ?_)
  have hP : va_P E.1 vwCl ((h0, .inr (0, [.null, .null, .null, .int 0])) :: [(q1, .inl (E.2.1.1, 4, .inl (fun _ => 0)))]) H := hP
  have hD : va_D AA0 ((h0, .inr (0, [.null, .null, .null, .int 0])) :: [(q1, .inl (E.2.1.1, 4, .inl (fun _ => 0)))]) := hD
  refine W.widen (k := 1) (n := 4) (by decide) (by decide) ?_
  refine va_putF (D := E.1) (ci := 0) (v := .ref q1) (ty := .array .int) (C := "SealedGroups$Groups") (T := TX0) (N := 4) hx hb X.1.2.2.2.2 inX0 tyX0 tyX0_ok nmX0 X.1.2.2.2.1 X.2.1.1 hP hD hS 0 rfl rfl 0 (by decide) (X.1.2.2.2.2 _ wm_57) (fun _ h => h) rfl hin rfl (by decide +kernel) rfl rfl (Nat.le_of_ble_eq_true rfl) dX0_init_8 (fun H locs hP hD hS => ?_)
  have hP : va_P E.1 vwCl ((h0, .inr (0, [.ref q1, .null, .null, .int 0])) :: [(q1, .inl (E.2.1.1, 4, .inl (fun _ => 0)))]) H := hP
  have hD : va_D AA0 ((h0, .inr (0, [.ref q1, .null, .null, .int 0])) :: [(q1, .inl (E.2.1.1, 4, .inl (fun _ => 0)))]) := hD
  refine lv_aload_n hx hb dX0_init_11 rfl (lv_at hl 0 rfl) ?_
  refine lv_iconst (v := 4) hx hb dX0_init_12 (by decide) ?_
  refine cy_newi X wm_3 hP hD hS hA (n := 4) (N' := 4) (by decide) (by decide) (by decide) (Nat.le_of_ble_eq_true rfl) (Nat.le_of_ble_eq_true rfl) dX0_init_13 (fun q2 H hP hD hS => ?_)
  have hP : va_P E.1 vwCl ((h0, .inr (0, [.ref q1, .null, .null, .int 0])) :: ([(q1, .inl (E.2.1.1, 4, .inl (fun _ => 0)))] ++ [(q2, .inl (E.2.1.1, 4, .inl (fun _ => 0)))])) H := hP
  have hD : va_D AA0 ((h0, .inr (0, [.ref q1, .null, .null, .int 0])) :: ([(q1, .inl (E.2.1.1, 4, .inl (fun _ => 0)))] ++ [(q2, .inl (E.2.1.1, 4, .inl (fun _ => 0)))])) := hD
  refine W.widen (k := 2) (n := 8) (by decide) (by decide) ?_
  refine va_putF (D := E.1) (ci := 0) (v := .ref q2) (ty := .array .int) (C := "SealedGroups$Groups") (T := TX0) (N := 4) hx hb X.1.2.2.2.2 inX0 tyX0 tyX0_ok nmX0 X.1.2.2.2.1 X.2.1.1 hP hD hS 0 rfl rfl 1 (by decide) (X.1.2.2.2.2 _ wm_58) (fun _ h => h) rfl hin rfl (by decide +kernel) rfl rfl (Nat.le_of_ble_eq_true rfl) dX0_init_15 (fun H locs hP hD hS => ?_)
  have hP : va_P E.1 vwCl ((h0, .inr (0, [.ref q1, .ref q2, .null, .int 0])) :: ([(q1, .inl (E.2.1.1, 4, .inl (fun _ => 0)))] ++ [(q2, .inl (E.2.1.1, 4, .inl (fun _ => 0)))])) H := hP
  have hD : va_D AA0 ((h0, .inr (0, [.ref q1, .ref q2, .null, .int 0])) :: ([(q1, .inl (E.2.1.1, 4, .inl (fun _ => 0)))] ++ [(q2, .inl (E.2.1.1, 4, .inl (fun _ => 0)))])) := hD
  refine lv_aload_n hx hb dX0_init_18 rfl (lv_at hl 0 rfl) ?_
  refine lv_iconst (v := 4) hx hb dX0_init_19 (by decide) ?_
  refine cy_newi X wm_3 hP hD hS hA (n := 4) (N' := 4) (by decide) (by decide) (by decide) (Nat.le_of_ble_eq_true rfl) (Nat.le_of_ble_eq_true rfl) dX0_init_20 (fun q3 H hP hD hS => ?_)
  have hP : va_P E.1 vwCl ((h0, .inr (0, [.ref q1, .ref q2, .null, .int 0])) :: (([(q1, .inl (E.2.1.1, 4, .inl (fun _ => 0)))] ++ [(q2, .inl (E.2.1.1, 4, .inl (fun _ => 0)))]) ++ [(q3, .inl (E.2.1.1, 4, .inl (fun _ => 0)))])) H := hP
  have hD : va_D AA0 ((h0, .inr (0, [.ref q1, .ref q2, .null, .int 0])) :: (([(q1, .inl (E.2.1.1, 4, .inl (fun _ => 0)))] ++ [(q2, .inl (E.2.1.1, 4, .inl (fun _ => 0)))]) ++ [(q3, .inl (E.2.1.1, 4, .inl (fun _ => 0)))])) := hD
  refine W.widen (k := 3) (n := 12) (by decide) (by decide) ?_
  refine va_putF (D := E.1) (ci := 0) (v := .ref q3) (ty := .array .int) (C := "SealedGroups$Groups") (T := TX0) (N := 4) hx hb X.1.2.2.2.2 inX0 tyX0 tyX0_ok nmX0 X.1.2.2.2.1 X.2.1.1 hP hD hS 0 rfl rfl 2 (by decide) (X.1.2.2.2.2 _ wm_59) (fun _ h => h) rfl hin rfl (by decide +kernel) rfl rfl (Nat.le_of_ble_eq_true rfl) dX0_init_22 (fun H locs hP hD hS => ?_)
  have hP : va_P E.1 vwCl ((h0, .inr (0, [.ref q1, .ref q2, .ref q3, .int 0])) :: (([(q1, .inl (E.2.1.1, 4, .inl (fun _ => 0)))] ++ [(q2, .inl (E.2.1.1, 4, .inl (fun _ => 0)))]) ++ [(q3, .inl (E.2.1.1, 4, .inl (fun _ => 0)))])) H := hP
  have hD : va_D AA0 ((h0, .inr (0, [.ref q1, .ref q2, .ref q3, .int 0])) :: (([(q1, .inl (E.2.1.1, 4, .inl (fun _ => 0)))] ++ [(q2, .inl (E.2.1.1, 4, .inl (fun _ => 0)))]) ++ [(q3, .inl (E.2.1.1, 4, .inl (fun _ => 0)))])) := hD
  have hP : va_P E.1 vwCl (bk E (fun r => if r = 7 then h0 else if r = 8 then q1 else if r = 9 then q2 else q3) 7 4) H := hP
  have hD : va_D AA0 (bk E (fun r => if r = 7 then h0 else if r = 8 then q1 else if r = 9 then q2 else q3) 7 4) := hD
  subst eA
  exact cy_vret X hr hlocks (u := (fun r => if r = 7 then h0 else if r = 8 then q1 else if r = 9 then q2 else q3)) rfl hP hD hS dX0_init_25
theorem pk_X4_init : Pk "SealedGroups$Pages" yX4_init cX4_init 1 none 0 := ⟨wm_47, wm_36, rfl, by decide +kernel⟩
set_option maxHeartbeats 16000000 in
set_option maxRecDepth 100000 in
theorem c_X4_init (l : Launch) (E : En) (h0 sz : Nat) : Met l yX4_init (Wm yX4_init cX4_init 1 none) ({ frames := 1, cells := 5, slots := 40, locals := 20 } : Room) (va_Pc [Value.ref h0] (CPre E h0 (.inr (4, [.null, .null, .null, .null, .null, .int 0, .int 0])) sz)) (CQ E h0 (.inr (4, [.null, .null, .null, .null, .null, .int 0, .int 0])) sz (fun A : Nat → Nat => A 1 = h0) (fun A => bk E A 1 6)) 5 40 (va_A [(h0, .inr (4, [.null, .null, .null, .null, .null, .int 0, .int 0]))] sz) := by
  refine Met.ofW (cc := cX4_init) (maxL := 1) (ret := none) (by decide +kernel) rfl ?_
  intro p e s m args below meth c s₁ B hml hv
  obtain ⟨rfl, hsz, hP, hK⟩ := hv
  subst hsz
  have X : Cy E p s m c _ cX4_init 1 RX4 := ⟨⟨B.exec, B.bytes, hml, findClass_of_methodNamed B.named, fun w hw => atoms_spec (ws := Wm yX4_init cX4_init 1 none) B.pre w (List.mem_cons_of_mem _ hw)⟩, hK⟩
  have hx := B.exec
  have hb := B.bytes
  have hr := B.returns
  have hlocks := B.notSynchronized
  have hin : meth.name = "<init>" := (name_of_methodNamed B.named B.method).1
  clear B
  have hD : va_D (va_A [(h0, .inr (4, [.null, .null, .null, .null, .null, .int 0, .int 0]))] s.heap.size) [(h0, .inr (4, [.null, .null, .null, .null, .null, .int 0, .int 0]))] := cy_D1 (Or.inl ⟨0, _, rfl⟩)
  have hA : ∀ q : Nat, s.heap.size ≤ q → va_A [(h0, .inr (4, [.null, .null, .null, .null, .null, .int 0, .int 0]))] s.heap.size q := fun q h => Or.inr h
  have hS : va_S (va_A [(h0, .inr (4, [.null, .null, .null, .null, .null, .int 0, .int 0]))] s.heap.size) s.heap s.heap [] := va_S.rf
  obtain ⟨AA0, eA⟩ : ∃ Z : Nat → Prop, Z = va_A [(h0, .inr (4, [.null, .null, .null, .null, .null, .int 0, .int 0]))] s.heap.size := ⟨_, rfl⟩
  rw [← eA] at hD hA hS
  have hP : va_P E.1 vwCl ((h0, .inr (4, [.null, .null, .null, .null, .null, .int 0, .int 0])) :: []) s.heap := hP
  have hl := lv_entry ([Value.ref h0]) (n := 1) (Nat.le_of_ble_eq_true rfl)
  rw [lg_entry_eq]
  generalize (lg_sl ([Value.ref h0]) ++ List.replicate (1 - (lg_sl ([Value.ref h0])).length) Slot.unset).toArray = ls at hl ⊢
  have hl : lv_has ls 1 [(0, .ref h0)] := hl
  refine lv_aload_n hx hb dX4_init_0 rfl (lv_at hl 0 rfl) ?_
  refine W.objInit hx hb X.1.2.2.2.1 (X.1.2.2.2.2 _ wm_48) (X.1.2.2.2.2 _ wm_12) (X.1.2.2.2.2 _ wm_13) rfl (by rw [hml]; exact hl.1) rfl dX4_init_1 (Nat.le_of_ble_eq_true rfl) (Nat.le_of_ble_eq_true rfl) ?_
  refine W.eq (g2 := F0 m 4 ls []) rfl ?_
  refine lv_aload_n hx hb dX4_init_4 rfl (lv_at hl 0 rfl) ?_
  refine lv_bipush (v := 8) hx hb dX4_init_5 (by decide) ?_
  refine cy_newi X wm_3 hP hD hS hA (n := 8) (N' := 8) (by decide) (by decide) (by decide) (Nat.le_of_ble_eq_true rfl) (Nat.le_of_ble_eq_true rfl) dX4_init_7 (fun q1 H hP hD hS => ?_)
  have hP : va_P E.1 vwCl ((h0, .inr (4, [.null, .null, .null, .null, .null, .int 0, .int 0])) :: [(q1, .inl (E.2.1.1, 8, .inl (fun _ => 0)))]) H := hP
  have hD : va_D AA0 ((h0, .inr (4, [.null, .null, .null, .null, .null, .int 0, .int 0])) :: [(q1, .inl (E.2.1.1, 8, .inl (fun _ => 0)))]) := hD
  refine W.widen (k := 1) (n := 8) (by decide) (by decide) ?_
  refine va_putF (D := E.1) (ci := 4) (v := .ref q1) (ty := .array .int) (C := "SealedGroups$Pages") (T := TX4) (N := 7) hx hb X.1.2.2.2.2 inX4 tyX4 tyX4_ok nmX4 X.1.2.2.2.1 X.2.1.1 hP hD hS 0 rfl rfl 0 (by decide) (X.1.2.2.2.2 _ wm_49) (fun _ h => h) rfl hin rfl (by decide +kernel) rfl rfl (Nat.le_of_ble_eq_true rfl) dX4_init_9 (fun H locs hP hD hS => ?_)
  have hP : va_P E.1 vwCl ((h0, .inr (4, [.ref q1, .null, .null, .null, .null, .int 0, .int 0])) :: [(q1, .inl (E.2.1.1, 8, .inl (fun _ => 0)))]) H := hP
  have hD : va_D AA0 ((h0, .inr (4, [.ref q1, .null, .null, .null, .null, .int 0, .int 0])) :: [(q1, .inl (E.2.1.1, 8, .inl (fun _ => 0)))]) := hD
  refine lv_aload_n hx hb dX4_init_12 rfl (lv_at hl 0 rfl) ?_
  refine lv_bipush (v := 8) hx hb dX4_init_13 (by decide) ?_
  refine cy_newi X wm_3 hP hD hS hA (n := 8) (N' := 8) (by decide) (by decide) (by decide) (Nat.le_of_ble_eq_true rfl) (Nat.le_of_ble_eq_true rfl) dX4_init_15 (fun q2 H hP hD hS => ?_)
  have hP : va_P E.1 vwCl ((h0, .inr (4, [.ref q1, .null, .null, .null, .null, .int 0, .int 0])) :: ([(q1, .inl (E.2.1.1, 8, .inl (fun _ => 0)))] ++ [(q2, .inl (E.2.1.1, 8, .inl (fun _ => 0)))])) H := hP
  have hD : va_D AA0 ((h0, .inr (4, [.ref q1, .null, .null, .null, .null, .int 0, .int 0])) :: ([(q1, .inl (E.2.1.1, 8, .inl (fun _ => 0)))] ++ [(q2, .inl (E.2.1.1, 8, .inl (fun _ => 0)))])) := hD
  refine W.widen (k := 2) (n := 16) (by decide) (by decide) ?_
  refine va_putF (D := E.1) (ci := 4) (v := .ref q2) (ty := .array .int) (C := "SealedGroups$Pages") (T := TX4) (N := 7) hx hb X.1.2.2.2.2 inX4 tyX4 tyX4_ok nmX4 X.1.2.2.2.1 X.2.1.1 hP hD hS 0 rfl rfl 1 (by decide) (X.1.2.2.2.2 _ wm_50) (fun _ h => h) rfl hin rfl (by decide +kernel) rfl rfl (Nat.le_of_ble_eq_true rfl) dX4_init_17 (fun H locs hP hD hS => ?_)
  have hP : va_P E.1 vwCl ((h0, .inr (4, [.ref q1, .ref q2, .null, .null, .null, .int 0, .int 0])) :: ([(q1, .inl (E.2.1.1, 8, .inl (fun _ => 0)))] ++ [(q2, .inl (E.2.1.1, 8, .inl (fun _ => 0)))])) H := hP
  have hD : va_D AA0 ((h0, .inr (4, [.ref q1, .ref q2, .null, .null, .null, .int 0, .int 0])) :: ([(q1, .inl (E.2.1.1, 8, .inl (fun _ => 0)))] ++ [(q2, .inl (E.2.1.1, 8, .inl (fun _ => 0)))])) := hD
  refine lv_aload_n hx hb dX4_init_20 rfl (lv_at hl 0 rfl) ?_
  refine lv_bipush (v := 8) hx hb dX4_init_21 (by decide) ?_
  refine cy_newi X wm_3 hP hD hS hA (n := 8) (N' := 8) (by decide) (by decide) (by decide) (Nat.le_of_ble_eq_true rfl) (Nat.le_of_ble_eq_true rfl) dX4_init_23 (fun q3 H hP hD hS => ?_)
  have hP : va_P E.1 vwCl ((h0, .inr (4, [.ref q1, .ref q2, .null, .null, .null, .int 0, .int 0])) :: (([(q1, .inl (E.2.1.1, 8, .inl (fun _ => 0)))] ++ [(q2, .inl (E.2.1.1, 8, .inl (fun _ => 0)))]) ++ [(q3, .inl (E.2.1.1, 8, .inl (fun _ => 0)))])) H := hP
  have hD : va_D AA0 ((h0, .inr (4, [.ref q1, .ref q2, .null, .null, .null, .int 0, .int 0])) :: (([(q1, .inl (E.2.1.1, 8, .inl (fun _ => 0)))] ++ [(q2, .inl (E.2.1.1, 8, .inl (fun _ => 0)))]) ++ [(q3, .inl (E.2.1.1, 8, .inl (fun _ => 0)))])) := hD
  refine W.widen (k := 3) (n := 24) (by decide) (by decide) ?_
  refine va_putF (D := E.1) (ci := 4) (v := .ref q3) (ty := .array .int) (C := "SealedGroups$Pages") (T := TX4) (N := 7) hx hb X.1.2.2.2.2 inX4 tyX4 tyX4_ok nmX4 X.1.2.2.2.1 X.2.1.1 hP hD hS 0 rfl rfl 2 (by decide) (X.1.2.2.2.2 _ wm_51) (fun _ h => h) rfl hin rfl (by decide +kernel) rfl rfl (Nat.le_of_ble_eq_true rfl) dX4_init_25 (fun H locs hP hD hS => ?_)
  have hP : va_P E.1 vwCl ((h0, .inr (4, [.ref q1, .ref q2, .ref q3, .null, .null, .int 0, .int 0])) :: (([(q1, .inl (E.2.1.1, 8, .inl (fun _ => 0)))] ++ [(q2, .inl (E.2.1.1, 8, .inl (fun _ => 0)))]) ++ [(q3, .inl (E.2.1.1, 8, .inl (fun _ => 0)))])) H := hP
  have hD : va_D AA0 ((h0, .inr (4, [.ref q1, .ref q2, .ref q3, .null, .null, .int 0, .int 0])) :: (([(q1, .inl (E.2.1.1, 8, .inl (fun _ => 0)))] ++ [(q2, .inl (E.2.1.1, 8, .inl (fun _ => 0)))]) ++ [(q3, .inl (E.2.1.1, 8, .inl (fun _ => 0)))])) := hD
  refine lv_aload_n hx hb dX4_init_28 rfl (lv_at hl 0 rfl) ?_
  refine lv_bipush (v := 8) hx hb dX4_init_29 (by decide) ?_
  refine cy_newi X wm_3 hP hD hS hA (n := 8) (N' := 8) (by decide) (by decide) (by decide) (Nat.le_of_ble_eq_true rfl) (Nat.le_of_ble_eq_true rfl) dX4_init_31 (fun q4 H hP hD hS => ?_)
  have hP : va_P E.1 vwCl ((h0, .inr (4, [.ref q1, .ref q2, .ref q3, .null, .null, .int 0, .int 0])) :: ((([(q1, .inl (E.2.1.1, 8, .inl (fun _ => 0)))] ++ [(q2, .inl (E.2.1.1, 8, .inl (fun _ => 0)))]) ++ [(q3, .inl (E.2.1.1, 8, .inl (fun _ => 0)))]) ++ [(q4, .inl (E.2.1.1, 8, .inl (fun _ => 0)))])) H := hP
  have hD : va_D AA0 ((h0, .inr (4, [.ref q1, .ref q2, .ref q3, .null, .null, .int 0, .int 0])) :: ((([(q1, .inl (E.2.1.1, 8, .inl (fun _ => 0)))] ++ [(q2, .inl (E.2.1.1, 8, .inl (fun _ => 0)))]) ++ [(q3, .inl (E.2.1.1, 8, .inl (fun _ => 0)))]) ++ [(q4, .inl (E.2.1.1, 8, .inl (fun _ => 0)))])) := hD
  refine W.widen (k := 4) (n := 32) (by decide) (by decide) ?_
  refine va_putF (D := E.1) (ci := 4) (v := .ref q4) (ty := .array .int) (C := "SealedGroups$Pages") (T := TX4) (N := 7) hx hb X.1.2.2.2.2 inX4 tyX4 tyX4_ok nmX4 X.1.2.2.2.1 X.2.1.1 hP hD hS 0 rfl rfl 3 (by decide) (X.1.2.2.2.2 _ wm_52) (fun _ h => h) rfl hin rfl (by decide +kernel) rfl rfl (Nat.le_of_ble_eq_true rfl) dX4_init_33 (fun H locs hP hD hS => ?_)
  have hP : va_P E.1 vwCl ((h0, .inr (4, [.ref q1, .ref q2, .ref q3, .ref q4, .null, .int 0, .int 0])) :: ((([(q1, .inl (E.2.1.1, 8, .inl (fun _ => 0)))] ++ [(q2, .inl (E.2.1.1, 8, .inl (fun _ => 0)))]) ++ [(q3, .inl (E.2.1.1, 8, .inl (fun _ => 0)))]) ++ [(q4, .inl (E.2.1.1, 8, .inl (fun _ => 0)))])) H := hP
  have hD : va_D AA0 ((h0, .inr (4, [.ref q1, .ref q2, .ref q3, .ref q4, .null, .int 0, .int 0])) :: ((([(q1, .inl (E.2.1.1, 8, .inl (fun _ => 0)))] ++ [(q2, .inl (E.2.1.1, 8, .inl (fun _ => 0)))]) ++ [(q3, .inl (E.2.1.1, 8, .inl (fun _ => 0)))]) ++ [(q4, .inl (E.2.1.1, 8, .inl (fun _ => 0)))])) := hD
  refine lv_aload_n hx hb dX4_init_36 rfl (lv_at hl 0 rfl) ?_
  refine lv_bipush (v := 8) hx hb dX4_init_37 (by decide) ?_
  refine cy_newi X wm_3 hP hD hS hA (n := 8) (N' := 8) (by decide) (by decide) (by decide) (Nat.le_of_ble_eq_true rfl) (Nat.le_of_ble_eq_true rfl) dX4_init_39 (fun q5 H hP hD hS => ?_)
  have hP : va_P E.1 vwCl ((h0, .inr (4, [.ref q1, .ref q2, .ref q3, .ref q4, .null, .int 0, .int 0])) :: (((([(q1, .inl (E.2.1.1, 8, .inl (fun _ => 0)))] ++ [(q2, .inl (E.2.1.1, 8, .inl (fun _ => 0)))]) ++ [(q3, .inl (E.2.1.1, 8, .inl (fun _ => 0)))]) ++ [(q4, .inl (E.2.1.1, 8, .inl (fun _ => 0)))]) ++ [(q5, .inl (E.2.1.1, 8, .inl (fun _ => 0)))])) H := hP
  have hD : va_D AA0 ((h0, .inr (4, [.ref q1, .ref q2, .ref q3, .ref q4, .null, .int 0, .int 0])) :: (((([(q1, .inl (E.2.1.1, 8, .inl (fun _ => 0)))] ++ [(q2, .inl (E.2.1.1, 8, .inl (fun _ => 0)))]) ++ [(q3, .inl (E.2.1.1, 8, .inl (fun _ => 0)))]) ++ [(q4, .inl (E.2.1.1, 8, .inl (fun _ => 0)))]) ++ [(q5, .inl (E.2.1.1, 8, .inl (fun _ => 0)))])) := hD
  refine W.widen (k := 5) (n := 40) (by decide) (by decide) ?_
  refine va_putF (D := E.1) (ci := 4) (v := .ref q5) (ty := .array .int) (C := "SealedGroups$Pages") (T := TX4) (N := 7) hx hb X.1.2.2.2.2 inX4 tyX4 tyX4_ok nmX4 X.1.2.2.2.1 X.2.1.1 hP hD hS 0 rfl rfl 4 (by decide) (X.1.2.2.2.2 _ wm_53) (fun _ h => h) rfl hin rfl (by decide +kernel) rfl rfl (Nat.le_of_ble_eq_true rfl) dX4_init_41 (fun H locs hP hD hS => ?_)
  have hP : va_P E.1 vwCl ((h0, .inr (4, [.ref q1, .ref q2, .ref q3, .ref q4, .ref q5, .int 0, .int 0])) :: (((([(q1, .inl (E.2.1.1, 8, .inl (fun _ => 0)))] ++ [(q2, .inl (E.2.1.1, 8, .inl (fun _ => 0)))]) ++ [(q3, .inl (E.2.1.1, 8, .inl (fun _ => 0)))]) ++ [(q4, .inl (E.2.1.1, 8, .inl (fun _ => 0)))]) ++ [(q5, .inl (E.2.1.1, 8, .inl (fun _ => 0)))])) H := hP
  have hD : va_D AA0 ((h0, .inr (4, [.ref q1, .ref q2, .ref q3, .ref q4, .ref q5, .int 0, .int 0])) :: (((([(q1, .inl (E.2.1.1, 8, .inl (fun _ => 0)))] ++ [(q2, .inl (E.2.1.1, 8, .inl (fun _ => 0)))]) ++ [(q3, .inl (E.2.1.1, 8, .inl (fun _ => 0)))]) ++ [(q4, .inl (E.2.1.1, 8, .inl (fun _ => 0)))]) ++ [(q5, .inl (E.2.1.1, 8, .inl (fun _ => 0)))])) := hD
  have hP : va_P E.1 vwCl (bk E (fun r => if r = 1 then h0 else if r = 2 then q1 else if r = 3 then q2 else if r = 4 then q3 else if r = 5 then q4 else q5) 1 6) H := hP
  have hD : va_D AA0 (bk E (fun r => if r = 1 then h0 else if r = 2 then q1 else if r = 3 then q2 else if r = 4 then q3 else if r = 5 then q4 else q5) 1 6) := hD
  subst eA
  exact cy_vret X hr hlocks (u := (fun r => if r = 1 then h0 else if r = 2 then q1 else if r = 3 then q2 else if r = 4 then q3 else if r = 5 then q4 else q5)) rfl hP hD hS dX4_init_44
theorem pk_X2_init : Pk "SealedGroups$Journal" yX2_init cX2_init 1 none 0 := ⟨wm_61, wm_44, rfl, by decide +kernel⟩
set_option maxHeartbeats 16000000 in
set_option maxRecDepth 100000 in
theorem c_X2_init (l : Launch) (E : En) (h0 sz : Nat) : Met l yX2_init (Wm yX2_init cX2_init 1 none) ({ frames := 1, cells := 7, slots := 776, locals := 20 } : Room) (va_Pc [Value.ref h0] (CPre E h0 (.inr (2, [.null, .null, .null, .null, .null, .null, .null, .int 0, .int 0, .int 0, .int 0, .int 0])) sz)) (CQ E h0 (.inr (2, [.null, .null, .null, .null, .null, .null, .null, .int 0, .int 0, .int 0, .int 0, .int 0])) sz (fun A : Nat → Nat => A 11 = h0) (fun A => bk E A 11 8)) 7 776 (va_A [(h0, .inr (2, [.null, .null, .null, .null, .null, .null, .null, .int 0, .int 0, .int 0, .int 0, .int 0]))] sz) := by
  refine Met.ofW (cc := cX2_init) (maxL := 1) (ret := none) (by decide +kernel) rfl ?_
  intro p e s m args below meth c s₁ B hml hv
  obtain ⟨rfl, hsz, hP, hK⟩ := hv
  subst hsz
  have X : Cy E p s m c _ cX2_init 1 RX2 := ⟨⟨B.exec, B.bytes, hml, findClass_of_methodNamed B.named, fun w hw => atoms_spec (ws := Wm yX2_init cX2_init 1 none) B.pre w (List.mem_cons_of_mem _ hw)⟩, hK⟩
  have hx := B.exec
  have hb := B.bytes
  have hr := B.returns
  have hlocks := B.notSynchronized
  have hin : meth.name = "<init>" := (name_of_methodNamed B.named B.method).1
  clear B
  have hD : va_D (va_A [(h0, .inr (2, [.null, .null, .null, .null, .null, .null, .null, .int 0, .int 0, .int 0, .int 0, .int 0]))] s.heap.size) [(h0, .inr (2, [.null, .null, .null, .null, .null, .null, .null, .int 0, .int 0, .int 0, .int 0, .int 0]))] := cy_D1 (Or.inl ⟨0, _, rfl⟩)
  have hA : ∀ q : Nat, s.heap.size ≤ q → va_A [(h0, .inr (2, [.null, .null, .null, .null, .null, .null, .null, .int 0, .int 0, .int 0, .int 0, .int 0]))] s.heap.size q := fun q h => Or.inr h
  have hS : va_S (va_A [(h0, .inr (2, [.null, .null, .null, .null, .null, .null, .null, .int 0, .int 0, .int 0, .int 0, .int 0]))] s.heap.size) s.heap s.heap [] := va_S.rf
  obtain ⟨AA0, eA⟩ : ∃ Z : Nat → Prop, Z = va_A [(h0, .inr (2, [.null, .null, .null, .null, .null, .null, .null, .int 0, .int 0, .int 0, .int 0, .int 0]))] s.heap.size := ⟨_, rfl⟩
  rw [← eA] at hD hA hS
  have hP : va_P E.1 vwCl ((h0, .inr (2, [.null, .null, .null, .null, .null, .null, .null, .int 0, .int 0, .int 0, .int 0, .int 0])) :: []) s.heap := hP
  have hl := lv_entry ([Value.ref h0]) (n := 1) (Nat.le_of_ble_eq_true rfl)
  rw [lg_entry_eq]
  generalize (lg_sl ([Value.ref h0]) ++ List.replicate (1 - (lg_sl ([Value.ref h0])).length) Slot.unset).toArray = ls at hl ⊢
  have hl : lv_has ls 1 [(0, .ref h0)] := hl
  refine lv_aload_n hx hb dX2_init_0 rfl (lv_at hl 0 rfl) ?_
  refine W.objInit hx hb X.1.2.2.2.1 (X.1.2.2.2.2 _ wm_62) (X.1.2.2.2.2 _ wm_12) (X.1.2.2.2.2 _ wm_13) rfl (by rw [hml]; exact hl.1) rfl dX2_init_1 (Nat.le_of_ble_eq_true rfl) (Nat.le_of_ble_eq_true rfl) ?_
  refine W.eq (g2 := F0 m 4 ls []) rfl ?_
  refine lv_aload_n hx hb dX2_init_4 rfl (lv_at hl 0 rfl) ?_
  refine lv_sipush (v := 128) hx hb dX2_init_5 (by decide) ?_
  refine cy_newi X wm_3 hP hD hS hA (n := 128) (N' := 128) (by decide) (by decide) (by decide) (Nat.le_of_ble_eq_true rfl) (Nat.le_of_ble_eq_true rfl) dX2_init_8 (fun q1 H hP hD hS => ?_)
  have hP : va_P E.1 vwCl ((h0, .inr (2, [.null, .null, .null, .null, .null, .null, .null, .int 0, .int 0, .int 0, .int 0, .int 0])) :: [(q1, .inl (E.2.1.1, 128, .inl (fun _ => 0)))]) H := hP
  have hD : va_D AA0 ((h0, .inr (2, [.null, .null, .null, .null, .null, .null, .null, .int 0, .int 0, .int 0, .int 0, .int 0])) :: [(q1, .inl (E.2.1.1, 128, .inl (fun _ => 0)))]) := hD
  refine W.widen (k := 1) (n := 128) (by decide) (by decide) ?_
  refine va_putF (D := E.1) (ci := 2) (v := .ref q1) (ty := .array .int) (C := "SealedGroups$Journal") (T := TX2) (N := 12) hx hb X.1.2.2.2.2 inX2 tyX2 tyX2_ok nmX2 X.1.2.2.2.1 X.2.1.1 hP hD hS 0 rfl rfl 0 (by decide) (X.1.2.2.2.2 _ wm_63) (fun _ h => h) rfl hin rfl (by decide +kernel) rfl rfl (Nat.le_of_ble_eq_true rfl) dX2_init_10 (fun H locs hP hD hS => ?_)
  have hP : va_P E.1 vwCl ((h0, .inr (2, [.ref q1, .null, .null, .null, .null, .null, .null, .int 0, .int 0, .int 0, .int 0, .int 0])) :: [(q1, .inl (E.2.1.1, 128, .inl (fun _ => 0)))]) H := hP
  have hD : va_D AA0 ((h0, .inr (2, [.ref q1, .null, .null, .null, .null, .null, .null, .int 0, .int 0, .int 0, .int 0, .int 0])) :: [(q1, .inl (E.2.1.1, 128, .inl (fun _ => 0)))]) := hD
  refine lv_aload_n hx hb dX2_init_13 rfl (lv_at hl 0 rfl) ?_
  refine lv_sipush (v := 128) hx hb dX2_init_14 (by decide) ?_
  refine cy_newi X wm_3 hP hD hS hA (n := 128) (N' := 128) (by decide) (by decide) (by decide) (Nat.le_of_ble_eq_true rfl) (Nat.le_of_ble_eq_true rfl) dX2_init_17 (fun q2 H hP hD hS => ?_)
  have hP : va_P E.1 vwCl ((h0, .inr (2, [.ref q1, .null, .null, .null, .null, .null, .null, .int 0, .int 0, .int 0, .int 0, .int 0])) :: ([(q1, .inl (E.2.1.1, 128, .inl (fun _ => 0)))] ++ [(q2, .inl (E.2.1.1, 128, .inl (fun _ => 0)))])) H := hP
  have hD : va_D AA0 ((h0, .inr (2, [.ref q1, .null, .null, .null, .null, .null, .null, .int 0, .int 0, .int 0, .int 0, .int 0])) :: ([(q1, .inl (E.2.1.1, 128, .inl (fun _ => 0)))] ++ [(q2, .inl (E.2.1.1, 128, .inl (fun _ => 0)))])) := hD
  refine W.widen (k := 2) (n := 256) (by decide) (by decide) ?_
  refine va_putF (D := E.1) (ci := 2) (v := .ref q2) (ty := .array .int) (C := "SealedGroups$Journal") (T := TX2) (N := 12) hx hb X.1.2.2.2.2 inX2 tyX2 tyX2_ok nmX2 X.1.2.2.2.1 X.2.1.1 hP hD hS 0 rfl rfl 1 (by decide) (X.1.2.2.2.2 _ wm_64) (fun _ h => h) rfl hin rfl (by decide +kernel) rfl rfl (Nat.le_of_ble_eq_true rfl) dX2_init_19 (fun H locs hP hD hS => ?_)
  have hP : va_P E.1 vwCl ((h0, .inr (2, [.ref q1, .ref q2, .null, .null, .null, .null, .null, .int 0, .int 0, .int 0, .int 0, .int 0])) :: ([(q1, .inl (E.2.1.1, 128, .inl (fun _ => 0)))] ++ [(q2, .inl (E.2.1.1, 128, .inl (fun _ => 0)))])) H := hP
  have hD : va_D AA0 ((h0, .inr (2, [.ref q1, .ref q2, .null, .null, .null, .null, .null, .int 0, .int 0, .int 0, .int 0, .int 0])) :: ([(q1, .inl (E.2.1.1, 128, .inl (fun _ => 0)))] ++ [(q2, .inl (E.2.1.1, 128, .inl (fun _ => 0)))])) := hD
  refine lv_aload_n hx hb dX2_init_22 rfl (lv_at hl 0 rfl) ?_
  refine lv_sipush (v := 128) hx hb dX2_init_23 (by decide) ?_
  refine cy_newi X wm_3 hP hD hS hA (n := 128) (N' := 128) (by decide) (by decide) (by decide) (Nat.le_of_ble_eq_true rfl) (Nat.le_of_ble_eq_true rfl) dX2_init_26 (fun q3 H hP hD hS => ?_)
  have hP : va_P E.1 vwCl ((h0, .inr (2, [.ref q1, .ref q2, .null, .null, .null, .null, .null, .int 0, .int 0, .int 0, .int 0, .int 0])) :: (([(q1, .inl (E.2.1.1, 128, .inl (fun _ => 0)))] ++ [(q2, .inl (E.2.1.1, 128, .inl (fun _ => 0)))]) ++ [(q3, .inl (E.2.1.1, 128, .inl (fun _ => 0)))])) H := hP
  have hD : va_D AA0 ((h0, .inr (2, [.ref q1, .ref q2, .null, .null, .null, .null, .null, .int 0, .int 0, .int 0, .int 0, .int 0])) :: (([(q1, .inl (E.2.1.1, 128, .inl (fun _ => 0)))] ++ [(q2, .inl (E.2.1.1, 128, .inl (fun _ => 0)))]) ++ [(q3, .inl (E.2.1.1, 128, .inl (fun _ => 0)))])) := hD
  refine W.widen (k := 3) (n := 384) (by decide) (by decide) ?_
  refine va_putF (D := E.1) (ci := 2) (v := .ref q3) (ty := .array .int) (C := "SealedGroups$Journal") (T := TX2) (N := 12) hx hb X.1.2.2.2.2 inX2 tyX2 tyX2_ok nmX2 X.1.2.2.2.1 X.2.1.1 hP hD hS 0 rfl rfl 2 (by decide) (X.1.2.2.2.2 _ wm_65) (fun _ h => h) rfl hin rfl (by decide +kernel) rfl rfl (Nat.le_of_ble_eq_true rfl) dX2_init_28 (fun H locs hP hD hS => ?_)
  have hP : va_P E.1 vwCl ((h0, .inr (2, [.ref q1, .ref q2, .ref q3, .null, .null, .null, .null, .int 0, .int 0, .int 0, .int 0, .int 0])) :: (([(q1, .inl (E.2.1.1, 128, .inl (fun _ => 0)))] ++ [(q2, .inl (E.2.1.1, 128, .inl (fun _ => 0)))]) ++ [(q3, .inl (E.2.1.1, 128, .inl (fun _ => 0)))])) H := hP
  have hD : va_D AA0 ((h0, .inr (2, [.ref q1, .ref q2, .ref q3, .null, .null, .null, .null, .int 0, .int 0, .int 0, .int 0, .int 0])) :: (([(q1, .inl (E.2.1.1, 128, .inl (fun _ => 0)))] ++ [(q2, .inl (E.2.1.1, 128, .inl (fun _ => 0)))]) ++ [(q3, .inl (E.2.1.1, 128, .inl (fun _ => 0)))])) := hD
  refine lv_aload_n hx hb dX2_init_31 rfl (lv_at hl 0 rfl) ?_
  refine lv_sipush (v := 128) hx hb dX2_init_32 (by decide) ?_
  refine cy_newi X wm_3 hP hD hS hA (n := 128) (N' := 128) (by decide) (by decide) (by decide) (Nat.le_of_ble_eq_true rfl) (Nat.le_of_ble_eq_true rfl) dX2_init_35 (fun q4 H hP hD hS => ?_)
  have hP : va_P E.1 vwCl ((h0, .inr (2, [.ref q1, .ref q2, .ref q3, .null, .null, .null, .null, .int 0, .int 0, .int 0, .int 0, .int 0])) :: ((([(q1, .inl (E.2.1.1, 128, .inl (fun _ => 0)))] ++ [(q2, .inl (E.2.1.1, 128, .inl (fun _ => 0)))]) ++ [(q3, .inl (E.2.1.1, 128, .inl (fun _ => 0)))]) ++ [(q4, .inl (E.2.1.1, 128, .inl (fun _ => 0)))])) H := hP
  have hD : va_D AA0 ((h0, .inr (2, [.ref q1, .ref q2, .ref q3, .null, .null, .null, .null, .int 0, .int 0, .int 0, .int 0, .int 0])) :: ((([(q1, .inl (E.2.1.1, 128, .inl (fun _ => 0)))] ++ [(q2, .inl (E.2.1.1, 128, .inl (fun _ => 0)))]) ++ [(q3, .inl (E.2.1.1, 128, .inl (fun _ => 0)))]) ++ [(q4, .inl (E.2.1.1, 128, .inl (fun _ => 0)))])) := hD
  refine W.widen (k := 4) (n := 512) (by decide) (by decide) ?_
  refine va_putF (D := E.1) (ci := 2) (v := .ref q4) (ty := .array .int) (C := "SealedGroups$Journal") (T := TX2) (N := 12) hx hb X.1.2.2.2.2 inX2 tyX2 tyX2_ok nmX2 X.1.2.2.2.1 X.2.1.1 hP hD hS 0 rfl rfl 3 (by decide) (X.1.2.2.2.2 _ wm_66) (fun _ h => h) rfl hin rfl (by decide +kernel) rfl rfl (Nat.le_of_ble_eq_true rfl) dX2_init_37 (fun H locs hP hD hS => ?_)
  have hP : va_P E.1 vwCl ((h0, .inr (2, [.ref q1, .ref q2, .ref q3, .ref q4, .null, .null, .null, .int 0, .int 0, .int 0, .int 0, .int 0])) :: ((([(q1, .inl (E.2.1.1, 128, .inl (fun _ => 0)))] ++ [(q2, .inl (E.2.1.1, 128, .inl (fun _ => 0)))]) ++ [(q3, .inl (E.2.1.1, 128, .inl (fun _ => 0)))]) ++ [(q4, .inl (E.2.1.1, 128, .inl (fun _ => 0)))])) H := hP
  have hD : va_D AA0 ((h0, .inr (2, [.ref q1, .ref q2, .ref q3, .ref q4, .null, .null, .null, .int 0, .int 0, .int 0, .int 0, .int 0])) :: ((([(q1, .inl (E.2.1.1, 128, .inl (fun _ => 0)))] ++ [(q2, .inl (E.2.1.1, 128, .inl (fun _ => 0)))]) ++ [(q3, .inl (E.2.1.1, 128, .inl (fun _ => 0)))]) ++ [(q4, .inl (E.2.1.1, 128, .inl (fun _ => 0)))])) := hD
  refine lv_aload_n hx hb dX2_init_40 rfl (lv_at hl 0 rfl) ?_
  refine lv_sipush (v := 128) hx hb dX2_init_41 (by decide) ?_
  refine cy_newi X wm_3 hP hD hS hA (n := 128) (N' := 128) (by decide) (by decide) (by decide) (Nat.le_of_ble_eq_true rfl) (Nat.le_of_ble_eq_true rfl) dX2_init_44 (fun q5 H hP hD hS => ?_)
  have hP : va_P E.1 vwCl ((h0, .inr (2, [.ref q1, .ref q2, .ref q3, .ref q4, .null, .null, .null, .int 0, .int 0, .int 0, .int 0, .int 0])) :: (((([(q1, .inl (E.2.1.1, 128, .inl (fun _ => 0)))] ++ [(q2, .inl (E.2.1.1, 128, .inl (fun _ => 0)))]) ++ [(q3, .inl (E.2.1.1, 128, .inl (fun _ => 0)))]) ++ [(q4, .inl (E.2.1.1, 128, .inl (fun _ => 0)))]) ++ [(q5, .inl (E.2.1.1, 128, .inl (fun _ => 0)))])) H := hP
  have hD : va_D AA0 ((h0, .inr (2, [.ref q1, .ref q2, .ref q3, .ref q4, .null, .null, .null, .int 0, .int 0, .int 0, .int 0, .int 0])) :: (((([(q1, .inl (E.2.1.1, 128, .inl (fun _ => 0)))] ++ [(q2, .inl (E.2.1.1, 128, .inl (fun _ => 0)))]) ++ [(q3, .inl (E.2.1.1, 128, .inl (fun _ => 0)))]) ++ [(q4, .inl (E.2.1.1, 128, .inl (fun _ => 0)))]) ++ [(q5, .inl (E.2.1.1, 128, .inl (fun _ => 0)))])) := hD
  refine W.widen (k := 5) (n := 640) (by decide) (by decide) ?_
  refine va_putF (D := E.1) (ci := 2) (v := .ref q5) (ty := .array .int) (C := "SealedGroups$Journal") (T := TX2) (N := 12) hx hb X.1.2.2.2.2 inX2 tyX2 tyX2_ok nmX2 X.1.2.2.2.1 X.2.1.1 hP hD hS 0 rfl rfl 4 (by decide) (X.1.2.2.2.2 _ wm_67) (fun _ h => h) rfl hin rfl (by decide +kernel) rfl rfl (Nat.le_of_ble_eq_true rfl) dX2_init_46 (fun H locs hP hD hS => ?_)
  have hP : va_P E.1 vwCl ((h0, .inr (2, [.ref q1, .ref q2, .ref q3, .ref q4, .ref q5, .null, .null, .int 0, .int 0, .int 0, .int 0, .int 0])) :: (((([(q1, .inl (E.2.1.1, 128, .inl (fun _ => 0)))] ++ [(q2, .inl (E.2.1.1, 128, .inl (fun _ => 0)))]) ++ [(q3, .inl (E.2.1.1, 128, .inl (fun _ => 0)))]) ++ [(q4, .inl (E.2.1.1, 128, .inl (fun _ => 0)))]) ++ [(q5, .inl (E.2.1.1, 128, .inl (fun _ => 0)))])) H := hP
  have hD : va_D AA0 ((h0, .inr (2, [.ref q1, .ref q2, .ref q3, .ref q4, .ref q5, .null, .null, .int 0, .int 0, .int 0, .int 0, .int 0])) :: (((([(q1, .inl (E.2.1.1, 128, .inl (fun _ => 0)))] ++ [(q2, .inl (E.2.1.1, 128, .inl (fun _ => 0)))]) ++ [(q3, .inl (E.2.1.1, 128, .inl (fun _ => 0)))]) ++ [(q4, .inl (E.2.1.1, 128, .inl (fun _ => 0)))]) ++ [(q5, .inl (E.2.1.1, 128, .inl (fun _ => 0)))])) := hD
  refine lv_aload_n hx hb dX2_init_49 rfl (lv_at hl 0 rfl) ?_
  refine lv_sipush (v := 128) hx hb dX2_init_50 (by decide) ?_
  refine cy_newi X wm_3 hP hD hS hA (n := 128) (N' := 128) (by decide) (by decide) (by decide) (Nat.le_of_ble_eq_true rfl) (Nat.le_of_ble_eq_true rfl) dX2_init_53 (fun q6 H hP hD hS => ?_)
  have hP : va_P E.1 vwCl ((h0, .inr (2, [.ref q1, .ref q2, .ref q3, .ref q4, .ref q5, .null, .null, .int 0, .int 0, .int 0, .int 0, .int 0])) :: ((((([(q1, .inl (E.2.1.1, 128, .inl (fun _ => 0)))] ++ [(q2, .inl (E.2.1.1, 128, .inl (fun _ => 0)))]) ++ [(q3, .inl (E.2.1.1, 128, .inl (fun _ => 0)))]) ++ [(q4, .inl (E.2.1.1, 128, .inl (fun _ => 0)))]) ++ [(q5, .inl (E.2.1.1, 128, .inl (fun _ => 0)))]) ++ [(q6, .inl (E.2.1.1, 128, .inl (fun _ => 0)))])) H := hP
  have hD : va_D AA0 ((h0, .inr (2, [.ref q1, .ref q2, .ref q3, .ref q4, .ref q5, .null, .null, .int 0, .int 0, .int 0, .int 0, .int 0])) :: ((((([(q1, .inl (E.2.1.1, 128, .inl (fun _ => 0)))] ++ [(q2, .inl (E.2.1.1, 128, .inl (fun _ => 0)))]) ++ [(q3, .inl (E.2.1.1, 128, .inl (fun _ => 0)))]) ++ [(q4, .inl (E.2.1.1, 128, .inl (fun _ => 0)))]) ++ [(q5, .inl (E.2.1.1, 128, .inl (fun _ => 0)))]) ++ [(q6, .inl (E.2.1.1, 128, .inl (fun _ => 0)))])) := hD
  refine W.widen (k := 6) (n := 768) (by decide) (by decide) ?_
  refine va_putF (D := E.1) (ci := 2) (v := .ref q6) (ty := .array .int) (C := "SealedGroups$Journal") (T := TX2) (N := 12) hx hb X.1.2.2.2.2 inX2 tyX2 tyX2_ok nmX2 X.1.2.2.2.1 X.2.1.1 hP hD hS 0 rfl rfl 5 (by decide) (X.1.2.2.2.2 _ wm_68) (fun _ h => h) rfl hin rfl (by decide +kernel) rfl rfl (Nat.le_of_ble_eq_true rfl) dX2_init_55 (fun H locs hP hD hS => ?_)
  have hP : va_P E.1 vwCl ((h0, .inr (2, [.ref q1, .ref q2, .ref q3, .ref q4, .ref q5, .ref q6, .null, .int 0, .int 0, .int 0, .int 0, .int 0])) :: ((((([(q1, .inl (E.2.1.1, 128, .inl (fun _ => 0)))] ++ [(q2, .inl (E.2.1.1, 128, .inl (fun _ => 0)))]) ++ [(q3, .inl (E.2.1.1, 128, .inl (fun _ => 0)))]) ++ [(q4, .inl (E.2.1.1, 128, .inl (fun _ => 0)))]) ++ [(q5, .inl (E.2.1.1, 128, .inl (fun _ => 0)))]) ++ [(q6, .inl (E.2.1.1, 128, .inl (fun _ => 0)))])) H := hP
  have hD : va_D AA0 ((h0, .inr (2, [.ref q1, .ref q2, .ref q3, .ref q4, .ref q5, .ref q6, .null, .int 0, .int 0, .int 0, .int 0, .int 0])) :: ((((([(q1, .inl (E.2.1.1, 128, .inl (fun _ => 0)))] ++ [(q2, .inl (E.2.1.1, 128, .inl (fun _ => 0)))]) ++ [(q3, .inl (E.2.1.1, 128, .inl (fun _ => 0)))]) ++ [(q4, .inl (E.2.1.1, 128, .inl (fun _ => 0)))]) ++ [(q5, .inl (E.2.1.1, 128, .inl (fun _ => 0)))]) ++ [(q6, .inl (E.2.1.1, 128, .inl (fun _ => 0)))])) := hD
  refine lv_aload_n hx hb dX2_init_58 rfl (lv_at hl 0 rfl) ?_
  refine lv_bipush (v := 8) hx hb dX2_init_59 (by decide) ?_
  refine cy_newi X wm_3 hP hD hS hA (n := 8) (N' := 8) (by decide) (by decide) (by decide) (Nat.le_of_ble_eq_true rfl) (Nat.le_of_ble_eq_true rfl) dX2_init_61 (fun q7 H hP hD hS => ?_)
  have hP : va_P E.1 vwCl ((h0, .inr (2, [.ref q1, .ref q2, .ref q3, .ref q4, .ref q5, .ref q6, .null, .int 0, .int 0, .int 0, .int 0, .int 0])) :: (((((([(q1, .inl (E.2.1.1, 128, .inl (fun _ => 0)))] ++ [(q2, .inl (E.2.1.1, 128, .inl (fun _ => 0)))]) ++ [(q3, .inl (E.2.1.1, 128, .inl (fun _ => 0)))]) ++ [(q4, .inl (E.2.1.1, 128, .inl (fun _ => 0)))]) ++ [(q5, .inl (E.2.1.1, 128, .inl (fun _ => 0)))]) ++ [(q6, .inl (E.2.1.1, 128, .inl (fun _ => 0)))]) ++ [(q7, .inl (E.2.1.1, 8, .inl (fun _ => 0)))])) H := hP
  have hD : va_D AA0 ((h0, .inr (2, [.ref q1, .ref q2, .ref q3, .ref q4, .ref q5, .ref q6, .null, .int 0, .int 0, .int 0, .int 0, .int 0])) :: (((((([(q1, .inl (E.2.1.1, 128, .inl (fun _ => 0)))] ++ [(q2, .inl (E.2.1.1, 128, .inl (fun _ => 0)))]) ++ [(q3, .inl (E.2.1.1, 128, .inl (fun _ => 0)))]) ++ [(q4, .inl (E.2.1.1, 128, .inl (fun _ => 0)))]) ++ [(q5, .inl (E.2.1.1, 128, .inl (fun _ => 0)))]) ++ [(q6, .inl (E.2.1.1, 128, .inl (fun _ => 0)))]) ++ [(q7, .inl (E.2.1.1, 8, .inl (fun _ => 0)))])) := hD
  refine W.widen (k := 7) (n := 776) (by decide) (by decide) ?_
  refine va_putF (D := E.1) (ci := 2) (v := .ref q7) (ty := .array .int) (C := "SealedGroups$Journal") (T := TX2) (N := 12) hx hb X.1.2.2.2.2 inX2 tyX2 tyX2_ok nmX2 X.1.2.2.2.1 X.2.1.1 hP hD hS 0 rfl rfl 6 (by decide) (X.1.2.2.2.2 _ wm_69) (fun _ h => h) rfl hin rfl (by decide +kernel) rfl rfl (Nat.le_of_ble_eq_true rfl) dX2_init_63 (fun H locs hP hD hS => ?_)
  have hP : va_P E.1 vwCl ((h0, .inr (2, [.ref q1, .ref q2, .ref q3, .ref q4, .ref q5, .ref q6, .ref q7, .int 0, .int 0, .int 0, .int 0, .int 0])) :: (((((([(q1, .inl (E.2.1.1, 128, .inl (fun _ => 0)))] ++ [(q2, .inl (E.2.1.1, 128, .inl (fun _ => 0)))]) ++ [(q3, .inl (E.2.1.1, 128, .inl (fun _ => 0)))]) ++ [(q4, .inl (E.2.1.1, 128, .inl (fun _ => 0)))]) ++ [(q5, .inl (E.2.1.1, 128, .inl (fun _ => 0)))]) ++ [(q6, .inl (E.2.1.1, 128, .inl (fun _ => 0)))]) ++ [(q7, .inl (E.2.1.1, 8, .inl (fun _ => 0)))])) H := hP
  have hD : va_D AA0 ((h0, .inr (2, [.ref q1, .ref q2, .ref q3, .ref q4, .ref q5, .ref q6, .ref q7, .int 0, .int 0, .int 0, .int 0, .int 0])) :: (((((([(q1, .inl (E.2.1.1, 128, .inl (fun _ => 0)))] ++ [(q2, .inl (E.2.1.1, 128, .inl (fun _ => 0)))]) ++ [(q3, .inl (E.2.1.1, 128, .inl (fun _ => 0)))]) ++ [(q4, .inl (E.2.1.1, 128, .inl (fun _ => 0)))]) ++ [(q5, .inl (E.2.1.1, 128, .inl (fun _ => 0)))]) ++ [(q6, .inl (E.2.1.1, 128, .inl (fun _ => 0)))]) ++ [(q7, .inl (E.2.1.1, 8, .inl (fun _ => 0)))])) := hD
  refine lv_aload_n hx hb dX2_init_66 rfl (lv_at hl 0 rfl) ?_
  refine lv_iconst (v := 1) hx hb dX2_init_67 (by decide) ?_
  refine va_put (D := E.1) (ci := 2) (v := .int 1) (ty := .int) (C := "SealedGroups$Journal") (T := TX2) (N := 12) hx hb X.1.2.2.2.2 inX2 tyX2 tyX2_ok nmX2 X.1.2.2.2.1 X.2.1.1 hP hD hS 0 rfl rfl 7 (by decide) (X.1.2.2.2.2 _ wm_70) (fun _ h => h) rfl (by decide +kernel) rfl rfl (Nat.le_of_ble_eq_true rfl) dX2_init_68 (fun H locs hP hD hS => ?_)
  have hP : va_P E.1 vwCl ((h0, .inr (2, [.ref q1, .ref q2, .ref q3, .ref q4, .ref q5, .ref q6, .ref q7, .int 1, .int 0, .int 0, .int 0, .int 0])) :: (((((([(q1, .inl (E.2.1.1, 128, .inl (fun _ => 0)))] ++ [(q2, .inl (E.2.1.1, 128, .inl (fun _ => 0)))]) ++ [(q3, .inl (E.2.1.1, 128, .inl (fun _ => 0)))]) ++ [(q4, .inl (E.2.1.1, 128, .inl (fun _ => 0)))]) ++ [(q5, .inl (E.2.1.1, 128, .inl (fun _ => 0)))]) ++ [(q6, .inl (E.2.1.1, 128, .inl (fun _ => 0)))]) ++ [(q7, .inl (E.2.1.1, 8, .inl (fun _ => 0)))])) H := hP
  have hD : va_D AA0 ((h0, .inr (2, [.ref q1, .ref q2, .ref q3, .ref q4, .ref q5, .ref q6, .ref q7, .int 1, .int 0, .int 0, .int 0, .int 0])) :: (((((([(q1, .inl (E.2.1.1, 128, .inl (fun _ => 0)))] ++ [(q2, .inl (E.2.1.1, 128, .inl (fun _ => 0)))]) ++ [(q3, .inl (E.2.1.1, 128, .inl (fun _ => 0)))]) ++ [(q4, .inl (E.2.1.1, 128, .inl (fun _ => 0)))]) ++ [(q5, .inl (E.2.1.1, 128, .inl (fun _ => 0)))]) ++ [(q6, .inl (E.2.1.1, 128, .inl (fun _ => 0)))]) ++ [(q7, .inl (E.2.1.1, 8, .inl (fun _ => 0)))])) := hD
  have hP : va_P E.1 vwCl (bk E (fun r => if r = 11 then h0 else if r = 12 then q1 else if r = 13 then q2 else if r = 14 then q3 else if r = 15 then q4 else if r = 16 then q5 else if r = 17 then q6 else q7) 11 8) H := hP
  have hD : va_D AA0 (bk E (fun r => if r = 11 then h0 else if r = 12 then q1 else if r = 13 then q2 else if r = 14 then q3 else if r = 15 then q4 else if r = 16 then q5 else if r = 17 then q6 else q7) 11 8) := hD
  subst eA
  exact cy_vret X hr hlocks (u := (fun r => if r = 11 then h0 else if r = 12 then q1 else if r = 13 then q2 else if r = 14 then q3 else if r = 15 then q4 else if r = 16 then q5 else if r = 17 then q6 else q7)) rfl hP hD hS dX2_init_71
theorem pk_X6_init : Pk "SealedGroups$Store" yX6_init cX6_init 1 none 0 := ⟨wm_32, wm_16, rfl, by decide +kernel⟩
set_option maxHeartbeats 16000000 in
set_option maxRecDepth 100000 in
theorem c_X6_init (l : Launch) (E : En) (h0 sz : Nat) : Met l yX6_init (Wm yX6_init cX6_init 1 none) ({ frames := 2, cells := 18, slots := 851, locals := 40 } : Room) (va_Pc [Value.ref h0] (CPre E h0 (.inr (6, [.null, .null, .null, .int 0, .int 0])) sz)) (CQ E h0 (.inr (6, [.null, .null, .null, .int 0, .int 0])) sz (fun A : Nat → Nat => A 0 = h0) (fun A => bk E A 0 19)) 18 851 (va_A [(h0, .inr (6, [.null, .null, .null, .int 0, .int 0]))] sz) := by
  refine Met.ofW (cc := cX6_init) (maxL := 1) (ret := none) (by decide +kernel) rfl ?_
  intro p e s m args below meth c s₁ B hml hv
  obtain ⟨rfl, hsz, hP, hK⟩ := hv
  subst hsz
  have X : Cy E p s m c _ cX6_init 1 RX6 := ⟨⟨B.exec, B.bytes, hml, findClass_of_methodNamed B.named, fun w hw => atoms_spec (ws := Wm yX6_init cX6_init 1 none) B.pre w (List.mem_cons_of_mem _ hw)⟩, hK⟩
  have hx := B.exec
  have hb := B.bytes
  have hr := B.returns
  have hlocks := B.notSynchronized
  have hin : meth.name = "<init>" := (name_of_methodNamed B.named B.method).1
  clear B
  have hD : va_D (va_A [(h0, .inr (6, [.null, .null, .null, .int 0, .int 0]))] s.heap.size) [(h0, .inr (6, [.null, .null, .null, .int 0, .int 0]))] := cy_D1 (Or.inl ⟨0, _, rfl⟩)
  have hA : ∀ q : Nat, s.heap.size ≤ q → va_A [(h0, .inr (6, [.null, .null, .null, .int 0, .int 0]))] s.heap.size q := fun q h => Or.inr h
  have hS : va_S (va_A [(h0, .inr (6, [.null, .null, .null, .int 0, .int 0]))] s.heap.size) s.heap s.heap [] := va_S.rf
  obtain ⟨AA0, eA⟩ : ∃ Z : Nat → Prop, Z = va_A [(h0, .inr (6, [.null, .null, .null, .int 0, .int 0]))] s.heap.size := ⟨_, rfl⟩
  rw [← eA] at hD hA hS
  have hP : va_P E.1 vwCl ((h0, .inr (6, [.null, .null, .null, .int 0, .int 0])) :: []) s.heap := hP
  have hl := lv_entry ([Value.ref h0]) (n := 1) (Nat.le_of_ble_eq_true rfl)
  rw [lg_entry_eq]
  generalize (lg_sl ([Value.ref h0]) ++ List.replicate (1 - (lg_sl ([Value.ref h0])).length) Slot.unset).toArray = ls at hl ⊢
  have hl : lv_has ls 1 [(0, .ref h0)] := hl
  refine lv_aload_n hx hb dX6_init_0 rfl (lv_at hl 0 rfl) ?_
  refine W.objInit hx hb X.1.2.2.2.1 (X.1.2.2.2.2 _ wm_33) (X.1.2.2.2.2 _ wm_12) (X.1.2.2.2.2 _ wm_13) rfl (by rw [hml]; exact hl.1) rfl dX6_init_1 (Nat.le_of_ble_eq_true rfl) (Nat.le_of_ble_eq_true rfl) ?_
  refine W.eq (g2 := F0 m 4 ls []) rfl ?_
  refine lv_aload_n hx hb dX6_init_4 rfl (lv_at hl 0 rfl) ?_
  refine cy_new (ci := 4) (fs := [.null, .null, .null, .null, .null, .int 0, .int 0]) (C := "SealedGroups$Pages") (T := TX4) (N := 7) X inX4 tyX4 tyX4_ok wm_34 wm_35 wm_36 hP hD hS hA rfl (fun j hj => by rcases (show j = 0 ∨ j = 1 ∨ j = 2 ∨ j = 3 ∨ j = 4 ∨ j = 5 ∨ j = 6 by omega) with rfl | rfl | rfl | rfl | rfl | rfl | rfl <;> rfl) (Nat.le_of_ble_eq_true rfl) (Nat.le_of_ble_eq_true rfl) dX6_init_5 (fun q1 H hP hD hS => ?_)
  refine W.widen (k := 1) (n := 7) (by decide) (by decide) ?_
  refine lv_dup hx hb dX6_init_8 rfl ?_
  refine cy_ctorN (q := q1) X (c_X4_init l E q1 H.size) pk_X4_init ⟨rfl, wm_46⟩ nm_1 ⟨Nat.le_of_ble_eq_true rfl, Nat.le_of_ble_eq_true rfl⟩ ⟨rfl, rfl⟩ hP hD hS hA hl.1 (Nat.le_of_ble_eq_true rfl) ⟨Nat.le_of_ble_eq_true rfl, Nat.le_of_ble_eq_true rfl⟩ dX6_init_9 (fun A2 H locs hu hP2 hD2 hS => ?_)
  have hu : A2 1 = q1 := hu
  subst hu
  have hP := hP2
  have hD := hD2
  have hP : va_P E.1 vwCl ((h0, .inr (6, [.null, .null, .null, .int 0, .int 0])) :: (bk E A2 1 6)) H := hP
  have hD : va_D AA0 ((h0, .inr (6, [.null, .null, .null, .int 0, .int 0])) :: (bk E A2 1 6)) := hD
  refine W.widen (k := 6) (n := 47) (by decide) (by decide) ?_
  refine va_putF (D := E.1) (ci := 6) (v := .ref (A2 1)) (ty := .object "SealedGroups$Pages") (C := "SealedGroups$Store") (T := TX6) (N := 5) hx hb X.1.2.2.2.2 inX6 tyX6 tyX6_ok nmX6 X.1.2.2.2.1 X.2.1.1 hP hD hS 0 rfl rfl 0 (by decide) (X.1.2.2.2.2 _ wm_37) (fun _ h => h) rfl hin rfl (by decide +kernel) rfl rfl (Nat.le_of_ble_eq_true rfl) dX6_init_12 (fun H locs hP hD hS => ?_)
  have hP : va_P E.1 vwCl ((h0, .inr (6, [.ref (A2 1), .null, .null, .int 0, .int 0])) :: (bk E A2 1 6)) H := hP
  have hD : va_D AA0 ((h0, .inr (6, [.ref (A2 1), .null, .null, .int 0, .int 0])) :: (bk E A2 1 6)) := hD
  refine lv_aload_n hx hb dX6_init_15 rfl (lv_at hl 0 rfl) ?_
  refine cy_new (ci := 0) (fs := [.null, .null, .null, .int 0]) (C := "SealedGroups$Groups") (T := TX0) (N := 4) X inX0 tyX0 tyX0_ok wm_38 wm_39 wm_40 hP hD hS hA rfl (fun j hj => by rcases (show j = 0 ∨ j = 1 ∨ j = 2 ∨ j = 3 by omega) with rfl | rfl | rfl | rfl <;> rfl) (Nat.le_of_ble_eq_true rfl) (Nat.le_of_ble_eq_true rfl) dX6_init_16 (fun q3 H hP hD hS => ?_)
  refine W.widen (k := 7) (n := 51) (by decide) (by decide) ?_
  refine lv_dup hx hb dX6_init_19 rfl ?_
  refine cy_ctorN (q := q3) X (c_X0_init l E q3 H.size) pk_X0_init ⟨rfl, wm_54⟩ nm_2 ⟨Nat.le_of_ble_eq_true rfl, Nat.le_of_ble_eq_true rfl⟩ ⟨rfl, rfl⟩ hP hD hS hA hl.1 (Nat.le_of_ble_eq_true rfl) ⟨Nat.le_of_ble_eq_true rfl, Nat.le_of_ble_eq_true rfl⟩ dX6_init_20 (fun A4 H locs hu hP2 hD2 hS => ?_)
  have hu : A4 7 = q3 := hu
  subst hu
  have hP := hP2
  have hD := hD2
  have hP : va_P E.1 vwCl ((h0, .inr (6, [.ref (A2 1), .null, .null, .int 0, .int 0])) :: ((bk E A2 1 6) ++ (bk E A4 7 4))) H := hP
  have hD : va_D AA0 ((h0, .inr (6, [.ref (A2 1), .null, .null, .int 0, .int 0])) :: ((bk E A2 1 6) ++ (bk E A4 7 4))) := hD
  refine W.widen (k := 10) (n := 63) (by decide) (by decide) ?_
  refine va_putF (D := E.1) (ci := 6) (v := .ref (A4 7)) (ty := .object "SealedGroups$Groups") (C := "SealedGroups$Store") (T := TX6) (N := 5) hx hb X.1.2.2.2.2 inX6 tyX6 tyX6_ok nmX6 X.1.2.2.2.1 X.2.1.1 hP hD hS 0 rfl rfl 1 (by decide) (X.1.2.2.2.2 _ wm_41) (fun _ h => h) rfl hin rfl (by decide +kernel) rfl rfl (Nat.le_of_ble_eq_true rfl) dX6_init_23 (fun H locs hP hD hS => ?_)
  have hP : va_P E.1 vwCl ((h0, .inr (6, [.ref (A2 1), .ref (A4 7), .null, .int 0, .int 0])) :: ((bk E A2 1 6) ++ (bk E A4 7 4))) H := hP
  have hD : va_D AA0 ((h0, .inr (6, [.ref (A2 1), .ref (A4 7), .null, .int 0, .int 0])) :: ((bk E A2 1 6) ++ (bk E A4 7 4))) := hD
  refine lv_aload_n hx hb dX6_init_26 rfl (lv_at hl 0 rfl) ?_
  refine cy_new (ci := 2) (fs := [.null, .null, .null, .null, .null, .null, .null, .int 0, .int 0, .int 0, .int 0, .int 0]) (C := "SealedGroups$Journal") (T := TX2) (N := 12) X inX2 tyX2 tyX2_ok wm_42 wm_43 wm_44 hP hD hS hA rfl (fun j hj => by rcases (show j = 0 ∨ j = 1 ∨ j = 2 ∨ j = 3 ∨ j = 4 ∨ j = 5 ∨ j = 6 ∨ j = 7 ∨ j = 8 ∨ j = 9 ∨ j = 10 ∨ j = 11 by omega) with rfl | rfl | rfl | rfl | rfl | rfl | rfl | rfl | rfl | rfl | rfl | rfl <;> rfl) (Nat.le_of_ble_eq_true rfl) (Nat.le_of_ble_eq_true rfl) dX6_init_27 (fun q5 H hP hD hS => ?_)
  refine W.widen (k := 11) (n := 75) (by decide) (by decide) ?_
  refine lv_dup hx hb dX6_init_30 rfl ?_
  refine cy_ctorN (q := q5) X (c_X2_init l E q5 H.size) pk_X2_init ⟨rfl, wm_60⟩ nm_3 ⟨Nat.le_of_ble_eq_true rfl, Nat.le_of_ble_eq_true rfl⟩ ⟨rfl, rfl⟩ hP hD hS hA hl.1 (Nat.le_of_ble_eq_true rfl) ⟨Nat.le_of_ble_eq_true rfl, Nat.le_of_ble_eq_true rfl⟩ dX6_init_31 (fun A6 H locs hu hP2 hD2 hS => ?_)
  have hu : A6 11 = q5 := hu
  subst hu
  have hP := hP2
  have hD := hD2
  have hP : va_P E.1 vwCl ((h0, .inr (6, [.ref (A2 1), .ref (A4 7), .null, .int 0, .int 0])) :: (((bk E A2 1 6) ++ (bk E A4 7 4)) ++ (bk E A6 11 8))) H := hP
  have hD : va_D AA0 ((h0, .inr (6, [.ref (A2 1), .ref (A4 7), .null, .int 0, .int 0])) :: (((bk E A2 1 6) ++ (bk E A4 7 4)) ++ (bk E A6 11 8))) := hD
  refine W.widen (k := 18) (n := 851) (by decide) (by decide) ?_
  refine va_putF (D := E.1) (ci := 6) (v := .ref (A6 11)) (ty := .object "SealedGroups$Journal") (C := "SealedGroups$Store") (T := TX6) (N := 5) hx hb X.1.2.2.2.2 inX6 tyX6 tyX6_ok nmX6 X.1.2.2.2.1 X.2.1.1 hP hD hS 0 rfl rfl 2 (by decide) (X.1.2.2.2.2 _ wm_45) (fun _ h => h) rfl hin rfl (by decide +kernel) rfl rfl (Nat.le_of_ble_eq_true rfl) dX6_init_34 (fun H locs hP hD hS => ?_)
  have hP : va_P E.1 vwCl ((h0, .inr (6, [.ref (A2 1), .ref (A4 7), .ref (A6 11), .int 0, .int 0])) :: (((bk E A2 1 6) ++ (bk E A4 7 4)) ++ (bk E A6 11 8))) H := hP
  have hD : va_D AA0 ((h0, .inr (6, [.ref (A2 1), .ref (A4 7), .ref (A6 11), .int 0, .int 0])) :: (((bk E A2 1 6) ++ (bk E A4 7 4)) ++ (bk E A6 11 8))) := hD
  have hP : va_P E.1 vwCl (bk E (fun r => if r = 0 then h0 else if r < 7 then A2 r else if r < 11 then A4 r else A6 r) 0 19) H := hP
  have hD : va_D AA0 (bk E (fun r => if r = 0 then h0 else if r < 7 then A2 r else if r < 11 then A4 r else A6 r) 0 19) := hD
  subst eA
  exact cy_vret X hr hlocks (u := (fun r => if r = 0 then h0 else if r < 7 then A2 r else if r < 11 then A4 r else A6 r)) rfl hP hD hS dX6_init_37
theorem pk_X5_init : Pk "SealedGroups$Restarter" yX5_init cX5_init 1 none 0 := ⟨wm_72, wm_21, rfl, by decide +kernel⟩
set_option maxHeartbeats 16000000 in
set_option maxRecDepth 100000 in
theorem c_X5_init (l : Launch) (E : En) (h0 sz : Nat) : Met l yX5_init (Wm yX5_init cX5_init 1 none) ({ frames := 1, cells := 2, slots := 136, locals := 20 } : Room) (va_Pc [Value.ref h0] (CPre E h0 (.inr (5, [.null, .null, .int 0, .int 0, .int 0, .int 0])) sz)) (CQ E h0 (.inr (5, [.null, .null, .int 0, .int 0, .int 0, .int 0])) sz (fun A : Nat → Nat => A 20 = h0) (fun A => bk E A 20 3)) 2 136 (va_A [(h0, .inr (5, [.null, .null, .int 0, .int 0, .int 0, .int 0]))] sz) := by
  refine Met.ofW (cc := cX5_init) (maxL := 1) (ret := none) (by decide +kernel) rfl ?_
  intro p e s m args below meth c s₁ B hml hv
  obtain ⟨rfl, hsz, hP, hK⟩ := hv
  subst hsz
  have X : Cy E p s m c _ cX5_init 1 RX5 := ⟨⟨B.exec, B.bytes, hml, findClass_of_methodNamed B.named, fun w hw => atoms_spec (ws := Wm yX5_init cX5_init 1 none) B.pre w (List.mem_cons_of_mem _ hw)⟩, hK⟩
  have hx := B.exec
  have hb := B.bytes
  have hr := B.returns
  have hlocks := B.notSynchronized
  have hin : meth.name = "<init>" := (name_of_methodNamed B.named B.method).1
  clear B
  have hD : va_D (va_A [(h0, .inr (5, [.null, .null, .int 0, .int 0, .int 0, .int 0]))] s.heap.size) [(h0, .inr (5, [.null, .null, .int 0, .int 0, .int 0, .int 0]))] := cy_D1 (Or.inl ⟨0, _, rfl⟩)
  have hA : ∀ q : Nat, s.heap.size ≤ q → va_A [(h0, .inr (5, [.null, .null, .int 0, .int 0, .int 0, .int 0]))] s.heap.size q := fun q h => Or.inr h
  have hS : va_S (va_A [(h0, .inr (5, [.null, .null, .int 0, .int 0, .int 0, .int 0]))] s.heap.size) s.heap s.heap [] := va_S.rf
  obtain ⟨AA0, eA⟩ : ∃ Z : Nat → Prop, Z = va_A [(h0, .inr (5, [.null, .null, .int 0, .int 0, .int 0, .int 0]))] s.heap.size := ⟨_, rfl⟩
  rw [← eA] at hD hA hS
  have hP : va_P E.1 vwCl ((h0, .inr (5, [.null, .null, .int 0, .int 0, .int 0, .int 0])) :: []) s.heap := hP
  have hl := lv_entry ([Value.ref h0]) (n := 1) (Nat.le_of_ble_eq_true rfl)
  rw [lg_entry_eq]
  generalize (lg_sl ([Value.ref h0]) ++ List.replicate (1 - (lg_sl ([Value.ref h0])).length) Slot.unset).toArray = ls at hl ⊢
  have hl : lv_has ls 1 [(0, .ref h0)] := hl
  refine lv_aload_n hx hb dX5_init_0 rfl (lv_at hl 0 rfl) ?_
  refine W.objInit hx hb X.1.2.2.2.1 (X.1.2.2.2.2 _ wm_73) (X.1.2.2.2.2 _ wm_12) (X.1.2.2.2.2 _ wm_13) rfl (by rw [hml]; exact hl.1) rfl dX5_init_1 (Nat.le_of_ble_eq_true rfl) (Nat.le_of_ble_eq_true rfl) ?_
  refine W.eq (g2 := F0 m 4 ls []) rfl ?_
  refine lv_aload_n hx hb dX5_init_4 rfl (lv_at hl 0 rfl) ?_
  refine lv_bipush (v := 8) hx hb dX5_init_5 (by decide) ?_
  refine cy_newi X wm_3 hP hD hS hA (n := 8) (N' := 8) (by decide) (by decide) (by decide) (Nat.le_of_ble_eq_true rfl) (Nat.le_of_ble_eq_true rfl) dX5_init_7 (fun q1 H hP hD hS => ?_)
  have hP : va_P E.1 vwCl ((h0, .inr (5, [.null, .null, .int 0, .int 0, .int 0, .int 0])) :: [(q1, .inl (E.2.1.1, 8, .inl (fun _ => 0)))]) H := hP
  have hD : va_D AA0 ((h0, .inr (5, [.null, .null, .int 0, .int 0, .int 0, .int 0])) :: [(q1, .inl (E.2.1.1, 8, .inl (fun _ => 0)))]) := hD
  refine W.widen (k := 1) (n := 8) (by decide) (by decide) ?_
  refine va_putF (D := E.1) (ci := 5) (v := .ref q1) (ty := .array .int) (C := "SealedGroups$Restarter") (T := TX5) (N := 6) hx hb X.1.2.2.2.2 inX5 tyX5 tyX5_ok nmX5 X.1.2.2.2.1 X.2.1.1 hP hD hS 0 rfl rfl 0 (by decide) (X.1.2.2.2.2 _ wm_74) (fun _ h => h) rfl hin rfl (by decide +kernel) rfl rfl (Nat.le_of_ble_eq_true rfl) dX5_init_9 (fun H locs hP hD hS => ?_)
  have hP : va_P E.1 vwCl ((h0, .inr (5, [.ref q1, .null, .int 0, .int 0, .int 0, .int 0])) :: [(q1, .inl (E.2.1.1, 8, .inl (fun _ => 0)))]) H := hP
  have hD : va_D AA0 ((h0, .inr (5, [.ref q1, .null, .int 0, .int 0, .int 0, .int 0])) :: [(q1, .inl (E.2.1.1, 8, .inl (fun _ => 0)))]) := hD
  refine lv_aload_n hx hb dX5_init_12 rfl (lv_at hl 0 rfl) ?_
  refine lv_sipush (v := 128) hx hb dX5_init_13 (by decide) ?_
  refine cy_newi X wm_3 hP hD hS hA (n := 128) (N' := 128) (by decide) (by decide) (by decide) (Nat.le_of_ble_eq_true rfl) (Nat.le_of_ble_eq_true rfl) dX5_init_16 (fun q2 H hP hD hS => ?_)
  have hP : va_P E.1 vwCl ((h0, .inr (5, [.ref q1, .null, .int 0, .int 0, .int 0, .int 0])) :: ([(q1, .inl (E.2.1.1, 8, .inl (fun _ => 0)))] ++ [(q2, .inl (E.2.1.1, 128, .inl (fun _ => 0)))])) H := hP
  have hD : va_D AA0 ((h0, .inr (5, [.ref q1, .null, .int 0, .int 0, .int 0, .int 0])) :: ([(q1, .inl (E.2.1.1, 8, .inl (fun _ => 0)))] ++ [(q2, .inl (E.2.1.1, 128, .inl (fun _ => 0)))])) := hD
  refine W.widen (k := 2) (n := 136) (by decide) (by decide) ?_
  refine va_putF (D := E.1) (ci := 5) (v := .ref q2) (ty := .array .int) (C := "SealedGroups$Restarter") (T := TX5) (N := 6) hx hb X.1.2.2.2.2 inX5 tyX5 tyX5_ok nmX5 X.1.2.2.2.1 X.2.1.1 hP hD hS 0 rfl rfl 1 (by decide) (X.1.2.2.2.2 _ wm_75) (fun _ h => h) rfl hin rfl (by decide +kernel) rfl rfl (Nat.le_of_ble_eq_true rfl) dX5_init_18 (fun H locs hP hD hS => ?_)
  have hP : va_P E.1 vwCl ((h0, .inr (5, [.ref q1, .ref q2, .int 0, .int 0, .int 0, .int 0])) :: ([(q1, .inl (E.2.1.1, 8, .inl (fun _ => 0)))] ++ [(q2, .inl (E.2.1.1, 128, .inl (fun _ => 0)))])) H := hP
  have hD : va_D AA0 ((h0, .inr (5, [.ref q1, .ref q2, .int 0, .int 0, .int 0, .int 0])) :: ([(q1, .inl (E.2.1.1, 8, .inl (fun _ => 0)))] ++ [(q2, .inl (E.2.1.1, 128, .inl (fun _ => 0)))])) := hD
  have hP : va_P E.1 vwCl (bk E (fun r => if r = 20 then h0 else if r = 21 then q1 else q2) 20 3) H := hP
  have hD : va_D AA0 (bk E (fun r => if r = 20 then h0 else if r = 21 then q1 else q2) 20 3) := hD
  subst eA
  exact cy_vret X hr hlocks (u := (fun r => if r = 20 then h0 else if r = 21 then q1 else q2)) rfl hP hD hS dX5_init_21
theorem pk_X3_init : Pk "SealedGroups$OrderText" yX3_init cX3_init 1 none 0 := ⟨wm_83, wm_29, rfl, by decide +kernel⟩
set_option maxHeartbeats 16000000 in
set_option maxRecDepth 100000 in
theorem c_X3_init (l : Launch) (E : En) (h0 sz : Nat) : Met l yX3_init (Wm yX3_init cX3_init 1 none) ({ frames := 1, cells := 1, slots := 80, locals := 20 } : Room) (va_Pc [Value.ref h0] (CPre E h0 (.inr (3, [.null, .int 0, .int 0, .int 0, .int 0, .int 0, .int 0, .int 0])) sz)) (CQ E h0 (.inr (3, [.null, .int 0, .int 0, .int 0, .int 0, .int 0, .int 0, .int 0])) sz (fun A : Nat → Nat => A 25 = h0) (fun A => bk E A 25 2)) 1 80 (va_A [(h0, .inr (3, [.null, .int 0, .int 0, .int 0, .int 0, .int 0, .int 0, .int 0]))] sz) := by
  refine Met.ofW (cc := cX3_init) (maxL := 1) (ret := none) (by decide +kernel) rfl ?_
  intro p e s m args below meth c s₁ B hml hv
  obtain ⟨rfl, hsz, hP, hK⟩ := hv
  subst hsz
  have X : Cy E p s m c _ cX3_init 1 RX3 := ⟨⟨B.exec, B.bytes, hml, findClass_of_methodNamed B.named, fun w hw => atoms_spec (ws := Wm yX3_init cX3_init 1 none) B.pre w (List.mem_cons_of_mem _ hw)⟩, hK⟩
  have hx := B.exec
  have hb := B.bytes
  have hr := B.returns
  have hlocks := B.notSynchronized
  have hin : meth.name = "<init>" := (name_of_methodNamed B.named B.method).1
  clear B
  have hD : va_D (va_A [(h0, .inr (3, [.null, .int 0, .int 0, .int 0, .int 0, .int 0, .int 0, .int 0]))] s.heap.size) [(h0, .inr (3, [.null, .int 0, .int 0, .int 0, .int 0, .int 0, .int 0, .int 0]))] := cy_D1 (Or.inl ⟨0, _, rfl⟩)
  have hA : ∀ q : Nat, s.heap.size ≤ q → va_A [(h0, .inr (3, [.null, .int 0, .int 0, .int 0, .int 0, .int 0, .int 0, .int 0]))] s.heap.size q := fun q h => Or.inr h
  have hS : va_S (va_A [(h0, .inr (3, [.null, .int 0, .int 0, .int 0, .int 0, .int 0, .int 0, .int 0]))] s.heap.size) s.heap s.heap [] := va_S.rf
  obtain ⟨AA0, eA⟩ : ∃ Z : Nat → Prop, Z = va_A [(h0, .inr (3, [.null, .int 0, .int 0, .int 0, .int 0, .int 0, .int 0, .int 0]))] s.heap.size := ⟨_, rfl⟩
  rw [← eA] at hD hA hS
  have hP : va_P E.1 vwCl ((h0, .inr (3, [.null, .int 0, .int 0, .int 0, .int 0, .int 0, .int 0, .int 0])) :: []) s.heap := hP
  have hl := lv_entry ([Value.ref h0]) (n := 1) (Nat.le_of_ble_eq_true rfl)
  rw [lg_entry_eq]
  generalize (lg_sl ([Value.ref h0]) ++ List.replicate (1 - (lg_sl ([Value.ref h0])).length) Slot.unset).toArray = ls at hl ⊢
  have hl : lv_has ls 1 [(0, .ref h0)] := hl
  refine lv_aload_n hx hb dX3_init_0 rfl (lv_at hl 0 rfl) ?_
  refine W.objInit hx hb X.1.2.2.2.1 (X.1.2.2.2.2 _ wm_84) (X.1.2.2.2.2 _ wm_12) (X.1.2.2.2.2 _ wm_13) rfl (by rw [hml]; exact hl.1) rfl dX3_init_1 (Nat.le_of_ble_eq_true rfl) (Nat.le_of_ble_eq_true rfl) ?_
  refine W.eq (g2 := F0 m 4 ls []) rfl ?_
  refine lv_aload_n hx hb dX3_init_4 rfl (lv_at hl 0 rfl) ?_
  refine lv_bipush (v := 80) hx hb dX3_init_5 (by decide) ?_
  refine cy_newc X wm_85 hP hD hS hA (n := 80) (N' := 80) (by decide) (by decide) (by decide) (Nat.le_of_ble_eq_true rfl) (Nat.le_of_ble_eq_true rfl) dX3_init_7 (fun q1 H hP hD hS => ?_)
  have hP : va_P E.1 vwCl ((h0, .inr (3, [.null, .int 0, .int 0, .int 0, .int 0, .int 0, .int 0, .int 0])) :: [(q1, .inl (E.2.1.2.1, 80, .inl (fun _ => 0)))]) H := hP
  have hD : va_D AA0 ((h0, .inr (3, [.null, .int 0, .int 0, .int 0, .int 0, .int 0, .int 0, .int 0])) :: [(q1, .inl (E.2.1.2.1, 80, .inl (fun _ => 0)))]) := hD
  refine W.widen (k := 1) (n := 80) (by decide) (by decide) ?_
  refine va_putF (D := E.1) (ci := 3) (v := .ref q1) (ty := .array .char) (C := "SealedGroups$OrderText") (T := TX3) (N := 8) hx hb X.1.2.2.2.2 inX3 tyX3 tyX3_ok nmX3 X.1.2.2.2.1 X.2.1.1 hP hD hS 0 rfl rfl 0 (by decide) (X.1.2.2.2.2 _ wm_86) (fun _ h => h) rfl hin rfl (by decide +kernel) rfl rfl (Nat.le_of_ble_eq_true rfl) dX3_init_9 (fun H locs hP hD hS => ?_)
  have hP : va_P E.1 vwCl ((h0, .inr (3, [.ref q1, .int 0, .int 0, .int 0, .int 0, .int 0, .int 0, .int 0])) :: [(q1, .inl (E.2.1.2.1, 80, .inl (fun _ => 0)))]) H := hP
  have hD : va_D AA0 ((h0, .inr (3, [.ref q1, .int 0, .int 0, .int 0, .int 0, .int 0, .int 0, .int 0])) :: [(q1, .inl (E.2.1.2.1, 80, .inl (fun _ => 0)))]) := hD
  have hP : va_P E.1 vwCl (bk E (fun r => if r = 25 then h0 else q1) 25 2) H := hP
  have hD : va_D AA0 (bk E (fun r => if r = 25 then h0 else q1) 25 2) := hD
  subst eA
  exact cy_vret X hr hlocks (u := (fun r => if r = 25 then h0 else q1)) rfl hP hD hS dX3_init_12

/-- behind History(): the object, its row of stores, the stores -/
def hbk (E : En) (A : Nat → Nat) (B : Nat → Nat → Nat) : va_W := (A 23, .inr (1, [.ref (A 24), .int 0, .int 0])) :: ((((([(A 24, .inl (E.2.1.2.2.1, 5, .inr (.inr (.inr (.inr (fun j => some (B j 0)))))))] ++ bk E (B 0) 0 19) ++ bk E (B 1) 0 19) ++ bk E (B 2) 0 19) ++ bk E (B 3) 0 19) ++ bk E (B 4) 0 19)
theorem cell_congr {cA : ClassId} {n : Nat} {f g : Nat → Option Nat} (h : ∀ j, j < n → f j = g j) : vp_cell cA (n, .inr (.inr (.inr (.inr f)))) = vp_cell cA (n, .inr (.inr (.inr (.inr g)))) := by
  show arrV cA n (fun j => va_rf (f j)) = arrV cA n (fun j => va_rf (g j))
  unfold arrV
  congr 1
  congr 1
  funext j
  show va_rf (f j.val) = va_rf (g j.val)
  rw [h j.val j.isLt]
theorem hbk_of {E : En} {D0 : Nat → Prop} {a q : Nat} {B : Nat → Nat → Nat} {g : Nat → Option Nat} {H : Heap} (hg : ∀ j, j < 5 → g j = some (B j 0)) (hP : va_P E.1 vwCl ((a, .inr (1, [.ref q, .int 0, .int 0])) :: ((((([(q, .inl (E.2.1.2.2.1, 5, .inr (.inr (.inr (.inr g)))))] ++ bk E (B 0) 0 19) ++ bk E (B 1) 0 19) ++ bk E (B 2) 0 19) ++ bk E (B 3) 0 19) ++ bk E (B 4) 0 19)) H) (hD : va_D D0 ((a, .inr (1, [.ref q, .int 0, .int 0])) :: ((((([(q, .inl (E.2.1.2.2.1, 5, .inr (.inr (.inr (.inr g)))))] ++ bk E (B 0) 0 19) ++ bk E (B 1) 0 19) ++ bk E (B 2) 0 19) ++ bk E (B 3) 0 19) ++ bk E (B 4) 0 19))) : va_P E.1 vwCl (hbk E (fun r => if r = 23 then a else q) B) H ∧ va_D D0 (hbk E (fun r => if r = 23 then a else q) B) := by
  have h1 : va_P E.1 vwCl (((a, .inr (1, [.ref q, .int 0, .int 0])) :: ((((([(q, .inl (E.2.1.2.2.1, 5, .inr (.inr (.inr (.inr g)))))] ++ bk E (B 0) 0 19) ++ bk E (B 1) 0 19) ++ bk E (B 2) 0 19) ++ bk E (B 3) 0 19) ++ bk E (B 4) 0 19)).set 1 (q, .inl (E.2.1.2.2.1, 5, .inr (.inr (.inr (.inr (fun j => some (B j 0)))))))) H := by
    refine hP.set hD (p := 1) rfl ?_ (fun _ _ => rfl)
    have h2 := hP 1 _ rfl
    show H[q]? = some (vp_cell _ _)
    rw [← cell_congr hg]
    exact h2
  exact ⟨h1, hD.set (p := 1) (e := .inl (E.2.1.2.2.1, 5, .inr (.inr (.inr (.inr (fun j => some (B j 0))))))) rfl⟩

theorem pk_X1_init : Pk "SealedGroups$History" yX1_init cX1_init 2 none 0 := ⟨wm_78, wm_25, rfl, by decide +kernel⟩
set_option maxHeartbeats 16000000 in
set_option maxRecDepth 100000 in
theorem c_X1_init (l : Launch) (E : En) (h0 sz : Nat) : Met l yX1_init (Wm yX1_init cX1_init 2 none) ({ frames := 3, cells := 96, slots := 4285, locals := 60 } : Room) (va_Pc [Value.ref h0] (CPre E h0 (.inr (1, [.null, .int 0, .int 0])) sz)) (CQ E h0 (.inr (1, [.null, .int 0, .int 0])) sz (fun u : (Nat → Nat) × (Nat → Nat → Nat) => u.1 23 = h0) (fun u => hbk E u.1 u.2)) 96 4285 (va_A [(h0, .inr (1, [.null, .int 0, .int 0]))] sz) := by
  refine Met.ofW (cc := cX1_init) (maxL := 2) (ret := none) (by decide +kernel) rfl ?_
  intro p e s m args below meth c s₁ B hml hv
  obtain ⟨rfl, hsz, hP, hK⟩ := hv
  subst hsz
  have X : Cy E p s m c _ cX1_init 2 RX1 := ⟨⟨B.exec, B.bytes, hml, findClass_of_methodNamed B.named, fun w hw => atoms_spec (ws := Wm yX1_init cX1_init 2 none) B.pre w (List.mem_cons_of_mem _ hw)⟩, hK⟩
  have hx := B.exec
  have hb := B.bytes
  have hr := B.returns
  have hlocks := B.notSynchronized
  have hin : meth.name = "<init>" := (name_of_methodNamed B.named B.method).1
  clear B
  have hD : va_D (va_A [(h0, .inr (1, [.null, .int 0, .int 0]))] s.heap.size) [(h0, .inr (1, [.null, .int 0, .int 0]))] := cy_D1 (Or.inl ⟨0, _, rfl⟩)
  have hA : ∀ q : Nat, s.heap.size ≤ q → va_A [(h0, .inr (1, [.null, .int 0, .int 0]))] s.heap.size q := fun q h => Or.inr h
  have hS : va_S (va_A [(h0, .inr (1, [.null, .int 0, .int 0]))] s.heap.size) s.heap s.heap [] := va_S.rf
  obtain ⟨AA0, eA⟩ : ∃ Z : Nat → Prop, Z = va_A [(h0, .inr (1, [.null, .int 0, .int 0]))] s.heap.size := ⟨_, rfl⟩
  rw [← eA] at hD hA hS
  have hP : va_P E.1 vwCl ((h0, .inr (1, [.null, .int 0, .int 0])) :: []) s.heap := hP
  have hl := lv_entry ([Value.ref h0]) (n := 2) (Nat.le_of_ble_eq_true rfl)
  rw [lg_entry_eq]
  generalize (lg_sl ([Value.ref h0]) ++ List.replicate (2 - (lg_sl ([Value.ref h0])).length) Slot.unset).toArray = ls at hl ⊢
  have hl : lv_has ls 2 [(0, .ref h0)] := hl
  refine lv_aload_n hx hb dX1_init_0 rfl (lv_at hl 0 rfl) ?_
  refine W.objInit hx hb X.1.2.2.2.1 (X.1.2.2.2.2 _ wm_79) (X.1.2.2.2.2 _ wm_12) (X.1.2.2.2.2 _ wm_13) rfl (by rw [hml]; exact hl.1) rfl dX1_init_1 (Nat.le_of_ble_eq_true rfl) (Nat.le_of_ble_eq_true rfl) ?_
  refine W.eq (g2 := F0 m 4 ls []) rfl ?_
  refine lv_aload_n hx hb dX1_init_4 rfl (lv_at hl 0 rfl) ?_
  refine lv_iconst (v := 5) hx hb dX1_init_5 (by decide) ?_
  refine cy_newq X wm_80 hP hD hS hA (n := 5) (N' := 5) (by decide) (by decide) (by decide) (Nat.le_of_ble_eq_true rfl) (Nat.le_of_ble_eq_true rfl) dX1_init_6 (fun q1 H hP hD hS => ?_)
  have hP : va_P E.1 vwCl ((h0, .inr (1, [.null, .int 0, .int 0])) :: [(q1, .inl (E.2.1.2.2.1, 5, .inr (.inr (.inr (.inr (fun _ => none))))))]) H := hP
  have hD : va_D AA0 ((h0, .inr (1, [.null, .int 0, .int 0])) :: [(q1, .inl (E.2.1.2.2.1, 5, .inr (.inr (.inr (.inr (fun _ => none))))))]) := hD
  refine W.widen (k := 1) (n := 5) (by decide) (by decide) ?_
  refine va_putF (D := E.1) (ci := 1) (v := .ref q1) (ty := .array (.object "SealedGroups$Store")) (C := "SealedGroups$History") (T := TX1) (N := 3) hx hb X.1.2.2.2.2 inX1 tyX1 tyX1_ok nmX1 X.1.2.2.2.1 X.2.1.1 hP hD hS 0 rfl rfl 0 (by decide) (X.1.2.2.2.2 _ wm_81) (fun _ h => h) rfl hin rfl (by decide +kernel) rfl rfl (Nat.le_of_ble_eq_true rfl) dX1_init_9 (fun H locs hP hD hS => ?_)
  have hP : va_P E.1 vwCl ((h0, .inr (1, [.ref q1, .int 0, .int 0])) :: [(q1, .inl (E.2.1.2.2.1, 5, .inr (.inr (.inr (.inr (fun _ => none))))))]) H := hP
  have hD : va_D AA0 ((h0, .inr (1, [.ref q1, .int 0, .int 0])) :: [(q1, .inl (E.2.1.2.2.1, 5, .inr (.inr (.inr (.inr (fun _ => none))))))]) := hD
  refine lv_iconst (v := 0) hx hb dX1_init_12 (by decide) ?_
  refine lv_istore_n (lv' := [(1, .int 0), (0, .ref h0)]) hx hb dX1_init_13 rfl hl (by decide) rfl (fun ls hl => ?_)
  refine lv_iload_n hx hb dX1_init_14 rfl (lv_at hl 0 rfl) ?_
  refine lv_iconst (v := 5) hx hb dX1_init_15 (by decide) ?_
  refine lv_icmp_ge (tgt := 38) hx hb dX1_init_16 (by decide) (fun c1 => absurd c1 (by decide)) (fun c1 => ?_)
  refine lv_aload_n hx hb dX1_init_19 rfl (lv_at hl 1 rfl) ?_
  refine va_get (D := E.1) (ci := 1) (C := "SealedGroups$History") (T := TX1) (N := 3) hx hb X.1.2.2.2.2 inX1 X.1.2.2.2.1 X.2.1.1 hP 0 rfl rfl 0 (by decide) (X.1.2.2.2.2 _ wm_81) (fun _ h => h) (v := .ref q1) rfl dX1_init_20 ?_
  refine lv_iload_n hx hb dX1_init_23 rfl (lv_at hl 0 rfl) ?_
  refine cy_new (ci := 6) (fs := [.null, .null, .null, .int 0, .int 0]) (C := "SealedGroups$Store") (T := TX6) (N := 5) X inX6 tyX6 tyX6_ok wm_80 wm_15 wm_16 hP hD hS hA rfl (fun j hj => by rcases (show j = 0 ∨ j = 1 ∨ j = 2 ∨ j = 3 ∨ j = 4 by omega) with rfl | rfl | rfl | rfl | rfl <;> rfl) (Nat.le_of_ble_eq_true rfl) (Nat.le_of_ble_eq_true rfl) dX1_init_24 (fun q2 H hP hD hS => ?_)
  refine W.widen (k := 2) (n := 10) (by decide) (by decide) ?_
  refine lv_dup hx hb dX1_init_27 rfl ?_
  refine cy_ctorN (q := q2) X (c_X6_init l E q2 H.size) pk_X6_init ⟨rfl, wm_31⟩ nm_5 ⟨Nat.le_of_ble_eq_true rfl, Nat.le_of_ble_eq_true rfl⟩ ⟨rfl, rfl⟩ hP hD hS hA hl.1 (Nat.le_of_ble_eq_true rfl) ⟨Nat.le_of_ble_eq_true rfl, Nat.le_of_ble_eq_true rfl⟩ dX1_init_28 (fun A3 H locs hu hP2 hD2 hS => ?_)
  have hu : A3 0 = q2 := hu
  subst hu
  have hP := hP2
  have hD := hD2
  have hP : va_P E.1 vwCl ((h0, .inr (1, [.ref q1, .int 0, .int 0])) :: ([(q1, .inl (E.2.1.2.2.1, 5, .inr (.inr (.inr (.inr (fun _ => none))))))] ++ (bk E A3 0 19))) H := hP
  have hD : va_D AA0 ((h0, .inr (1, [.ref q1, .int 0, .int 0])) :: ([(q1, .inl (E.2.1.2.2.1, 5, .inr (.inr (.inr (.inr (fun _ => none))))))] ++ (bk E A3 0 19))) := hD
  refine W.widen (k := 20) (n := 861) (by decide) (by decide) ?_
  refine va_astq hx hb X.2.1.1 hP hD hS 1 2 2 6 (r := (RX6, TX6, 5)) (n := 5) (f := (fun _ => none)) (vs := [.ref (A3 1), .ref (A3 7), .ref (A3 11), .int 0, .int 0]) rfl rfl rfl rfl (i := 0) (vp_in_iff.mpr (by decide)) dX1_init_31 (fun H locs hP hD hS => ?_)
  have hP : va_P E.1 vwCl ((h0, .inr (1, [.ref q1, .int 0, .int 0])) :: ([(q1, .inl (E.2.1.2.2.1, 5, .inr (.inr (.inr (.inr (va_up (fun _ => none) 0 (some (A3 0))))))))] ++ (bk E A3 0 19))) H := hP
  have hD : va_D AA0 ((h0, .inr (1, [.ref q1, .int 0, .int 0])) :: ([(q1, .inl (E.2.1.2.2.1, 5, .inr (.inr (.inr (.inr (va_up (fun _ => none) 0 (some (A3 0))))))))] ++ (bk E A3 0 19))) := hD
  refine lv_iinc (v := 1) (lv' := [(1, .int 1), (0, .ref h0)]) hx hb dX1_init_32 hl (k := 0) rfl (by decide) (by decide) rfl (fun ls hl => ?_)
  refine lv_goto (tgt := 14) hx hb dX1_init_35 (by decide) ?_
  refine lv_iload_n hx hb dX1_init_14 rfl (lv_at hl 0 rfl) ?_
  refine lv_iconst (v := 5) hx hb dX1_init_15 (by decide) ?_
  refine lv_icmp_ge (tgt := 38) hx hb dX1_init_16 (by decide) (fun c1 => absurd c1 (by decide)) (fun c1 => ?_)
  refine lv_aload_n hx hb dX1_init_19 rfl (lv_at hl 1 rfl) ?_
  refine va_get (D := E.1) (ci := 1) (C := "SealedGroups$History") (T := TX1) (N := 3) hx hb X.1.2.2.2.2 inX1 X.1.2.2.2.1 X.2.1.1 hP 0 rfl rfl 0 (by decide) (X.1.2.2.2.2 _ wm_81) (fun _ h => h) (v := .ref q1) rfl dX1_init_20 ?_
  refine lv_iload_n hx hb dX1_init_23 rfl (lv_at hl 0 rfl) ?_
  refine cy_new (ci := 6) (fs := [.null, .null, .null, .int 0, .int 0]) (C := "SealedGroups$Store") (T := TX6) (N := 5) X inX6 tyX6 tyX6_ok wm_80 wm_15 wm_16 hP hD hS hA rfl (fun j hj => by rcases (show j = 0 ∨ j = 1 ∨ j = 2 ∨ j = 3 ∨ j = 4 by omega) with rfl | rfl | rfl | rfl | rfl <;> rfl) (Nat.le_of_ble_eq_true rfl) (Nat.le_of_ble_eq_true rfl) dX1_init_24 (fun q4 H hP hD hS => ?_)
  refine W.widen (k := 21) (n := 866) (by decide) (by decide) ?_
  refine lv_dup hx hb dX1_init_27 rfl ?_
  refine cy_ctorN (q := q4) X (c_X6_init l E q4 H.size) pk_X6_init ⟨rfl, wm_31⟩ nm_5 ⟨Nat.le_of_ble_eq_true rfl, Nat.le_of_ble_eq_true rfl⟩ ⟨rfl, rfl⟩ hP hD hS hA hl.1 (Nat.le_of_ble_eq_true rfl) ⟨Nat.le_of_ble_eq_true rfl, Nat.le_of_ble_eq_true rfl⟩ dX1_init_28 (fun A5 H locs hu hP2 hD2 hS => ?_)
  have hu : A5 0 = q4 := hu
  subst hu
  have hP := hP2
  have hD := hD2
  have hP : va_P E.1 vwCl ((h0, .inr (1, [.ref q1, .int 0, .int 0])) :: (([(q1, .inl (E.2.1.2.2.1, 5, .inr (.inr (.inr (.inr (va_up (fun _ => none) 0 (some (A3 0))))))))] ++ (bk E A3 0 19)) ++ (bk E A5 0 19))) H := hP
  have hD : va_D AA0 ((h0, .inr (1, [.ref q1, .int 0, .int 0])) :: (([(q1, .inl (E.2.1.2.2.1, 5, .inr (.inr (.inr (.inr (va_up (fun _ => none) 0 (some (A3 0))))))))] ++ (bk E A3 0 19)) ++ (bk E A5 0 19))) := hD
  refine W.widen (k := 39) (n := 1717) (by decide) (by decide) ?_
  refine va_astq hx hb X.2.1.1 hP hD hS 1 2 21 6 (r := (RX6, TX6, 5)) (n := 5) (f := (va_up (fun _ => none) 0 (some (A3 0)))) (vs := [.ref (A5 1), .ref (A5 7), .ref (A5 11), .int 0, .int 0]) rfl rfl rfl rfl (i := 1) (vp_in_iff.mpr (by decide)) dX1_init_31 (fun H locs hP hD hS => ?_)
  have hP : va_P E.1 vwCl ((h0, .inr (1, [.ref q1, .int 0, .int 0])) :: (([(q1, .inl (E.2.1.2.2.1, 5, .inr (.inr (.inr (.inr (va_up (va_up (fun _ => none) 0 (some (A3 0))) 1 (some (A5 0))))))))] ++ (bk E A3 0 19)) ++ (bk E A5 0 19))) H := hP
  have hD : va_D AA0 ((h0, .inr (1, [.ref q1, .int 0, .int 0])) :: (([(q1, .inl (E.2.1.2.2.1, 5, .inr (.inr (.inr (.inr (va_up (va_up (fun _ => none) 0 (some (A3 0))) 1 (some (A5 0))))))))] ++ (bk E A3 0 19)) ++ (bk E A5 0 19))) := hD
  refine lv_iinc (v := 2) (lv' := [(1, .int 2), (0, .ref h0)]) hx hb dX1_init_32 hl (k := 0) rfl (by decide) (by decide) rfl (fun ls hl => ?_)
  refine lv_goto (tgt := 14) hx hb dX1_init_35 (by decide) ?_
  refine lv_iload_n hx hb dX1_init_14 rfl (lv_at hl 0 rfl) ?_
  refine lv_iconst (v := 5) hx hb dX1_init_15 (by decide) ?_
  refine lv_icmp_ge (tgt := 38) hx hb dX1_init_16 (by decide) (fun c1 => absurd c1 (by decide)) (fun c1 => ?_)
  refine lv_aload_n hx hb dX1_init_19 rfl (lv_at hl 1 rfl) ?_
  refine va_get (D := E.1) (ci := 1) (C := "SealedGroups$History") (T := TX1) (N := 3) hx hb X.1.2.2.2.2 inX1 X.1.2.2.2.1 X.2.1.1 hP 0 rfl rfl 0 (by decide) (X.1.2.2.2.2 _ wm_81) (fun _ h => h) (v := .ref q1) rfl dX1_init_20 ?_
  refine lv_iload_n hx hb dX1_init_23 rfl (lv_at hl 0 rfl) ?_
  refine cy_new (ci := 6) (fs := [.null, .null, .null, .int 0, .int 0]) (C := "SealedGroups$Store") (T := TX6) (N := 5) X inX6 tyX6 tyX6_ok wm_80 wm_15 wm_16 hP hD hS hA rfl (fun j hj => by rcases (show j = 0 ∨ j = 1 ∨ j = 2 ∨ j = 3 ∨ j = 4 by omega) with rfl | rfl | rfl | rfl | rfl <;> rfl) (Nat.le_of_ble_eq_true rfl) (Nat.le_of_ble_eq_true rfl) dX1_init_24 (fun q6 H hP hD hS => ?_)
  refine W.widen (k := 40) (n := 1722) (by decide) (by decide) ?_
  refine lv_dup hx hb dX1_init_27 rfl ?_
  refine cy_ctorN (q := q6) X (c_X6_init l E q6 H.size) pk_X6_init ⟨rfl, wm_31⟩ nm_5 ⟨Nat.le_of_ble_eq_true rfl, Nat.le_of_ble_eq_true rfl⟩ ⟨rfl, rfl⟩ hP hD hS hA hl.1 (Nat.le_of_ble_eq_true rfl) ⟨Nat.le_of_ble_eq_true rfl, Nat.le_of_ble_eq_true rfl⟩ dX1_init_28 (fun A7 H locs hu hP2 hD2 hS => ?_)
  have hu : A7 0 = q6 := hu
  subst hu
  have hP := hP2
  have hD := hD2
  have hP : va_P E.1 vwCl ((h0, .inr (1, [.ref q1, .int 0, .int 0])) :: ((([(q1, .inl (E.2.1.2.2.1, 5, .inr (.inr (.inr (.inr (va_up (va_up (fun _ => none) 0 (some (A3 0))) 1 (some (A5 0))))))))] ++ (bk E A3 0 19)) ++ (bk E A5 0 19)) ++ (bk E A7 0 19))) H := hP
  have hD : va_D AA0 ((h0, .inr (1, [.ref q1, .int 0, .int 0])) :: ((([(q1, .inl (E.2.1.2.2.1, 5, .inr (.inr (.inr (.inr (va_up (va_up (fun _ => none) 0 (some (A3 0))) 1 (some (A5 0))))))))] ++ (bk E A3 0 19)) ++ (bk E A5 0 19)) ++ (bk E A7 0 19))) := hD
  refine W.widen (k := 58) (n := 2573) (by decide) (by decide) ?_
  refine va_astq hx hb X.2.1.1 hP hD hS 1 2 40 6 (r := (RX6, TX6, 5)) (n := 5) (f := (va_up (va_up (fun _ => none) 0 (some (A3 0))) 1 (some (A5 0)))) (vs := [.ref (A7 1), .ref (A7 7), .ref (A7 11), .int 0, .int 0]) rfl rfl rfl rfl (i := 2) (vp_in_iff.mpr (by decide)) dX1_init_31 (fun H locs hP hD hS => ?_)
  have hP : va_P E.1 vwCl ((h0, .inr (1, [.ref q1, .int 0, .int 0])) :: ((([(q1, .inl (E.2.1.2.2.1, 5, .inr (.inr (.inr (.inr (va_up (va_up (va_up (fun _ => none) 0 (some (A3 0))) 1 (some (A5 0))) 2 (some (A7 0))))))))] ++ (bk E A3 0 19)) ++ (bk E A5 0 19)) ++ (bk E A7 0 19))) H := hP
  have hD : va_D AA0 ((h0, .inr (1, [.ref q1, .int 0, .int 0])) :: ((([(q1, .inl (E.2.1.2.2.1, 5, .inr (.inr (.inr (.inr (va_up (va_up (va_up (fun _ => none) 0 (some (A3 0))) 1 (some (A5 0))) 2 (some (A7 0))))))))] ++ (bk E A3 0 19)) ++ (bk E A5 0 19)) ++ (bk E A7 0 19))) := hD
  refine lv_iinc (v := 3) (lv' := [(1, .int 3), (0, .ref h0)]) hx hb dX1_init_32 hl (k := 0) rfl (by decide) (by decide) rfl (fun ls hl => ?_)
  refine lv_goto (tgt := 14) hx hb dX1_init_35 (by decide) ?_
  refine lv_iload_n hx hb dX1_init_14 rfl (lv_at hl 0 rfl) ?_
  refine lv_iconst (v := 5) hx hb dX1_init_15 (by decide) ?_
  refine lv_icmp_ge (tgt := 38) hx hb dX1_init_16 (by decide) (fun c1 => absurd c1 (by decide)) (fun c1 => ?_)
  refine lv_aload_n hx hb dX1_init_19 rfl (lv_at hl 1 rfl) ?_
  refine va_get (D := E.1) (ci := 1) (C := "SealedGroups$History") (T := TX1) (N := 3) hx hb X.1.2.2.2.2 inX1 X.1.2.2.2.1 X.2.1.1 hP 0 rfl rfl 0 (by decide) (X.1.2.2.2.2 _ wm_81) (fun _ h => h) (v := .ref q1) rfl dX1_init_20 ?_
  refine lv_iload_n hx hb dX1_init_23 rfl (lv_at hl 0 rfl) ?_
  refine cy_new (ci := 6) (fs := [.null, .null, .null, .int 0, .int 0]) (C := "SealedGroups$Store") (T := TX6) (N := 5) X inX6 tyX6 tyX6_ok wm_80 wm_15 wm_16 hP hD hS hA rfl (fun j hj => by rcases (show j = 0 ∨ j = 1 ∨ j = 2 ∨ j = 3 ∨ j = 4 by omega) with rfl | rfl | rfl | rfl | rfl <;> rfl) (Nat.le_of_ble_eq_true rfl) (Nat.le_of_ble_eq_true rfl) dX1_init_24 (fun q8 H hP hD hS => ?_)
  refine W.widen (k := 59) (n := 2578) (by decide) (by decide) ?_
  refine lv_dup hx hb dX1_init_27 rfl ?_
  refine cy_ctorN (q := q8) X (c_X6_init l E q8 H.size) pk_X6_init ⟨rfl, wm_31⟩ nm_5 ⟨Nat.le_of_ble_eq_true rfl, Nat.le_of_ble_eq_true rfl⟩ ⟨rfl, rfl⟩ hP hD hS hA hl.1 (Nat.le_of_ble_eq_true rfl) ⟨Nat.le_of_ble_eq_true rfl, Nat.le_of_ble_eq_true rfl⟩ dX1_init_28 (fun A9 H locs hu hP2 hD2 hS => ?_)
  have hu : A9 0 = q8 := hu
  subst hu
  have hP := hP2
  have hD := hD2
  have hP : va_P E.1 vwCl ((h0, .inr (1, [.ref q1, .int 0, .int 0])) :: (((([(q1, .inl (E.2.1.2.2.1, 5, .inr (.inr (.inr (.inr (va_up (va_up (va_up (fun _ => none) 0 (some (A3 0))) 1 (some (A5 0))) 2 (some (A7 0))))))))] ++ (bk E A3 0 19)) ++ (bk E A5 0 19)) ++ (bk E A7 0 19)) ++ (bk E A9 0 19))) H := hP
  have hD : va_D AA0 ((h0, .inr (1, [.ref q1, .int 0, .int 0])) :: (((([(q1, .inl (E.2.1.2.2.1, 5, .inr (.inr (.inr (.inr (va_up (va_up (va_up (fun _ => none) 0 (some (A3 0))) 1 (some (A5 0))) 2 (some (A7 0))))))))] ++ (bk E A3 0 19)) ++ (bk E A5 0 19)) ++ (bk E A7 0 19)) ++ (bk E A9 0 19))) := hD
  refine W.widen (k := 77) (n := 3429) (by decide) (by decide) ?_
  refine va_astq hx hb X.2.1.1 hP hD hS 1 2 59 6 (r := (RX6, TX6, 5)) (n := 5) (f := (va_up (va_up (va_up (fun _ => none) 0 (some (A3 0))) 1 (some (A5 0))) 2 (some (A7 0)))) (vs := [.ref (A9 1), .ref (A9 7), .ref (A9 11), .int 0, .int 0]) rfl rfl rfl rfl (i := 3) (vp_in_iff.mpr (by decide)) dX1_init_31 (fun H locs hP hD hS => ?_)
  have hP : va_P E.1 vwCl ((h0, .inr (1, [.ref q1, .int 0, .int 0])) :: (((([(q1, .inl (E.2.1.2.2.1, 5, .inr (.inr (.inr (.inr (va_up (va_up (va_up (va_up (fun _ => none) 0 (some (A3 0))) 1 (some (A5 0))) 2 (some (A7 0))) 3 (some (A9 0))))))))] ++ (bk E A3 0 19)) ++ (bk E A5 0 19)) ++ (bk E A7 0 19)) ++ (bk E A9 0 19))) H := hP
  have hD : va_D AA0 ((h0, .inr (1, [.ref q1, .int 0, .int 0])) :: (((([(q1, .inl (E.2.1.2.2.1, 5, .inr (.inr (.inr (.inr (va_up (va_up (va_up (va_up (fun _ => none) 0 (some (A3 0))) 1 (some (A5 0))) 2 (some (A7 0))) 3 (some (A9 0))))))))] ++ (bk E A3 0 19)) ++ (bk E A5 0 19)) ++ (bk E A7 0 19)) ++ (bk E A9 0 19))) := hD
  refine lv_iinc (v := 4) (lv' := [(1, .int 4), (0, .ref h0)]) hx hb dX1_init_32 hl (k := 0) rfl (by decide) (by decide) rfl (fun ls hl => ?_)
  refine lv_goto (tgt := 14) hx hb dX1_init_35 (by decide) ?_
  refine lv_iload_n hx hb dX1_init_14 rfl (lv_at hl 0 rfl) ?_
  refine lv_iconst (v := 5) hx hb dX1_init_15 (by decide) ?_
  refine lv_icmp_ge (tgt := 38) hx hb dX1_init_16 (by decide) (fun c1 => absurd c1 (by decide)) (fun c1 => ?_)
  refine lv_aload_n hx hb dX1_init_19 rfl (lv_at hl 1 rfl) ?_
  refine va_get (D := E.1) (ci := 1) (C := "SealedGroups$History") (T := TX1) (N := 3) hx hb X.1.2.2.2.2 inX1 X.1.2.2.2.1 X.2.1.1 hP 0 rfl rfl 0 (by decide) (X.1.2.2.2.2 _ wm_81) (fun _ h => h) (v := .ref q1) rfl dX1_init_20 ?_
  refine lv_iload_n hx hb dX1_init_23 rfl (lv_at hl 0 rfl) ?_
  refine cy_new (ci := 6) (fs := [.null, .null, .null, .int 0, .int 0]) (C := "SealedGroups$Store") (T := TX6) (N := 5) X inX6 tyX6 tyX6_ok wm_80 wm_15 wm_16 hP hD hS hA rfl (fun j hj => by rcases (show j = 0 ∨ j = 1 ∨ j = 2 ∨ j = 3 ∨ j = 4 by omega) with rfl | rfl | rfl | rfl | rfl <;> rfl) (Nat.le_of_ble_eq_true rfl) (Nat.le_of_ble_eq_true rfl) dX1_init_24 (fun q10 H hP hD hS => ?_)
  refine W.widen (k := 78) (n := 3434) (by decide) (by decide) ?_
  refine lv_dup hx hb dX1_init_27 rfl ?_
  refine cy_ctorN (q := q10) X (c_X6_init l E q10 H.size) pk_X6_init ⟨rfl, wm_31⟩ nm_5 ⟨Nat.le_of_ble_eq_true rfl, Nat.le_of_ble_eq_true rfl⟩ ⟨rfl, rfl⟩ hP hD hS hA hl.1 (Nat.le_of_ble_eq_true rfl) ⟨Nat.le_of_ble_eq_true rfl, Nat.le_of_ble_eq_true rfl⟩ dX1_init_28 (fun A11 H locs hu hP2 hD2 hS => ?_)
  have hu : A11 0 = q10 := hu
  subst hu
  have hP := hP2
  have hD := hD2
  have hP : va_P E.1 vwCl ((h0, .inr (1, [.ref q1, .int 0, .int 0])) :: ((((([(q1, .inl (E.2.1.2.2.1, 5, .inr (.inr (.inr (.inr (va_up (va_up (va_up (va_up (fun _ => none) 0 (some (A3 0))) 1 (some (A5 0))) 2 (some (A7 0))) 3 (some (A9 0))))))))] ++ (bk E A3 0 19)) ++ (bk E A5 0 19)) ++ (bk E A7 0 19)) ++ (bk E A9 0 19)) ++ (bk E A11 0 19))) H := hP
  have hD : va_D AA0 ((h0, .inr (1, [.ref q1, .int 0, .int 0])) :: ((((([(q1, .inl (E.2.1.2.2.1, 5, .inr (.inr (.inr (.inr (va_up (va_up (va_up (va_up (fun _ => none) 0 (some (A3 0))) 1 (some (A5 0))) 2 (some (A7 0))) 3 (some (A9 0))))))))] ++ (bk E A3 0 19)) ++ (bk E A5 0 19)) ++ (bk E A7 0 19)) ++ (bk E A9 0 19)) ++ (bk E A11 0 19))) := hD
  refine W.widen (k := 96) (n := 4285) (by decide) (by decide) ?_
  refine va_astq hx hb X.2.1.1 hP hD hS 1 2 78 6 (r := (RX6, TX6, 5)) (n := 5) (f := (va_up (va_up (va_up (va_up (fun _ => none) 0 (some (A3 0))) 1 (some (A5 0))) 2 (some (A7 0))) 3 (some (A9 0)))) (vs := [.ref (A11 1), .ref (A11 7), .ref (A11 11), .int 0, .int 0]) rfl rfl rfl rfl (i := 4) (vp_in_iff.mpr (by decide)) dX1_init_31 (fun H locs hP hD hS => ?_)
  have hP : va_P E.1 vwCl ((h0, .inr (1, [.ref q1, .int 0, .int 0])) :: ((((([(q1, .inl (E.2.1.2.2.1, 5, .inr (.inr (.inr (.inr (va_up (va_up (va_up (va_up (va_up (fun _ => none) 0 (some (A3 0))) 1 (some (A5 0))) 2 (some (A7 0))) 3 (some (A9 0))) 4 (some (A11 0))))))))] ++ (bk E A3 0 19)) ++ (bk E A5 0 19)) ++ (bk E A7 0 19)) ++ (bk E A9 0 19)) ++ (bk E A11 0 19))) H := hP
  have hD : va_D AA0 ((h0, .inr (1, [.ref q1, .int 0, .int 0])) :: ((((([(q1, .inl (E.2.1.2.2.1, 5, .inr (.inr (.inr (.inr (va_up (va_up (va_up (va_up (va_up (fun _ => none) 0 (some (A3 0))) 1 (some (A5 0))) 2 (some (A7 0))) 3 (some (A9 0))) 4 (some (A11 0))))))))] ++ (bk E A3 0 19)) ++ (bk E A5 0 19)) ++ (bk E A7 0 19)) ++ (bk E A9 0 19)) ++ (bk E A11 0 19))) := hD
  refine lv_iinc (v := 5) (lv' := [(1, .int 5), (0, .ref h0)]) hx hb dX1_init_32 hl (k := 0) rfl (by decide) (by decide) rfl (fun ls hl => ?_)
  refine lv_goto (tgt := 14) hx hb dX1_init_35 (by decide) ?_
  refine lv_iload_n hx hb dX1_init_14 rfl (lv_at hl 0 rfl) ?_
  refine lv_iconst (v := 5) hx hb dX1_init_15 (by decide) ?_
  refine lv_icmp_ge (tgt := 38) hx hb dX1_init_16 (by decide) (fun c1 => ?_) (fun c1 => absurd (by decide) c1)
  have hPD := hbk_of (a := h0) (q := q1) (B := (fun j => if j = 0 then A3 else if j = 1 then A5 else if j = 2 then A7 else if j = 3 then A9 else A11)) (g := (va_up (va_up (va_up (va_up (va_up (fun _ => none) 0 (some (A3 0))) 1 (some (A5 0))) 2 (some (A7 0))) 3 (some (A9 0))) 4 (some (A11 0)))) (by intro j hj; rcases (show j = 0 ∨ j = 1 ∨ j = 2 ∨ j = 3 ∨ j = 4 by omega) with rfl | rfl | rfl | rfl | rfl <;> rfl) hP hD
  obtain ⟨hP, hD⟩ := hPD
  subst eA
  exact cy_vret X hr hlocks (u := ((fun r => if r = 23 then h0 else q1), (fun j => if j = 0 then A3 else if j = 1 then A5 else if j = 2 then A7 else if j = 3 then A9 else A11))) rfl hP hD hS dX1_init_38

/-- behind SealedGroups() -/
def sgw (E : En) (a : Nat) (A0 A1 A2 A3 : Nat → Nat) (B : Nat → Nat → Nat) (A4 : Nat → Nat) : va_W := (a, .inr (7, [.ref (A0 0), .ref (A1 0), .ref (A2 20), .ref (A3 23), .ref (A4 25), .int 0, .int 0, .int 0])) :: ((((bk E A0 0 19 ++ bk E A1 0 19) ++ bk E A2 20 3) ++ hbk E A3 B) ++ bk E A4 25 2)

theorem pk_X7_init : Pk "SealedGroups" yX7_init cX7_init 1 none 0 := ⟨wm_10, wm_2, rfl, by decide +kernel⟩
set_option maxHeartbeats 16000000 in
set_option maxRecDepth 100000 in
theorem c_X7_init (l : Launch) (E : En) (h0 sz : Nat) : Met l yX7_init (Wm yX7_init cX7_init 1 none) ({ frames := 4, cells := 140, slots := 6230, locals := 81 } : Room) (va_Pc [Value.ref h0] (CPre E h0 (.inr (7, [.null, .null, .null, .null, .null, .int 0, .int 0, .int 0])) sz)) (CQ E h0 (.inr (7, [.null, .null, .null, .null, .null, .int 0, .int 0, .int 0])) sz (fun u : Nat × (Nat → Nat) × (Nat → Nat) × (Nat → Nat) × ((Nat → Nat) × (Nat → Nat → Nat)) × (Nat → Nat) => u.1 = h0) (fun u => sgw E u.1 u.2.1 u.2.2.1 u.2.2.2.1 u.2.2.2.2.1.1 u.2.2.2.2.1.2 u.2.2.2.2.2)) 140 6230 (va_A [(h0, .inr (7, [.null, .null, .null, .null, .null, .int 0, .int 0, .int 0]))] sz) := by
  refine Met.ofW (cc := cX7_init) (maxL := 1) (ret := none) (by decide +kernel) rfl ?_
  intro p e s m args below meth c s₁ B hml hv
  obtain ⟨rfl, hsz, hP, hK⟩ := hv
  subst hsz
  have X : Cy E p s m c _ cX7_init 1 RX7 := ⟨⟨B.exec, B.bytes, hml, findClass_of_methodNamed B.named, fun w hw => atoms_spec (ws := Wm yX7_init cX7_init 1 none) B.pre w (List.mem_cons_of_mem _ hw)⟩, hK⟩
  have hx := B.exec
  have hb := B.bytes
  have hr := B.returns
  have hlocks := B.notSynchronized
  have hin : meth.name = "<init>" := (name_of_methodNamed B.named B.method).1
  clear B
  have hD : va_D (va_A [(h0, .inr (7, [.null, .null, .null, .null, .null, .int 0, .int 0, .int 0]))] s.heap.size) [(h0, .inr (7, [.null, .null, .null, .null, .null, .int 0, .int 0, .int 0]))] := cy_D1 (Or.inl ⟨0, _, rfl⟩)
  have hA : ∀ q : Nat, s.heap.size ≤ q → va_A [(h0, .inr (7, [.null, .null, .null, .null, .null, .int 0, .int 0, .int 0]))] s.heap.size q := fun q h => Or.inr h
  have hS : va_S (va_A [(h0, .inr (7, [.null, .null, .null, .null, .null, .int 0, .int 0, .int 0]))] s.heap.size) s.heap s.heap [] := va_S.rf
  obtain ⟨AA0, eA⟩ : ∃ Z : Nat → Prop, Z = va_A [(h0, .inr (7, [.null, .null, .null, .null, .null, .int 0, .int 0, .int 0]))] s.heap.size := ⟨_, rfl⟩
  rw [← eA] at hD hA hS
  have hP : va_P E.1 vwCl ((h0, .inr (7, [.null, .null, .null, .null, .null, .int 0, .int 0, .int 0])) :: []) s.heap := hP
  have hl := lv_entry ([Value.ref h0]) (n := 1) (Nat.le_of_ble_eq_true rfl)
  rw [lg_entry_eq]
  generalize (lg_sl ([Value.ref h0]) ++ List.replicate (1 - (lg_sl ([Value.ref h0])).length) Slot.unset).toArray = ls at hl ⊢
  have hl : lv_has ls 1 [(0, .ref h0)] := hl
  refine lv_aload_n hx hb dX7_init_0 rfl (lv_at hl 0 rfl) ?_
  refine W.objInit hx hb X.1.2.2.2.1 (X.1.2.2.2.2 _ wm_11) (X.1.2.2.2.2 _ wm_12) (X.1.2.2.2.2 _ wm_13) rfl (by rw [hml]; exact hl.1) rfl dX7_init_1 (Nat.le_of_ble_eq_true rfl) (Nat.le_of_ble_eq_true rfl) ?_
  refine W.eq (g2 := F0 m 4 ls []) rfl ?_
  refine lv_aload_n hx hb dX7_init_4 rfl (lv_at hl 0 rfl) ?_
  refine cy_new (ci := 6) (fs := [.null, .null, .null, .int 0, .int 0]) (C := "SealedGroups$Store") (T := TX6) (N := 5) X inX6 tyX6 tyX6_ok wm_14 wm_15 wm_16 hP hD hS hA rfl (fun j hj => by rcases (show j = 0 ∨ j = 1 ∨ j = 2 ∨ j = 3 ∨ j = 4 by omega) with rfl | rfl | rfl | rfl | rfl <;> rfl) (Nat.le_of_ble_eq_true rfl) (Nat.le_of_ble_eq_true rfl) dX7_init_5 (fun q1 H hP hD hS => ?_)
  refine W.widen (k := 1) (n := 5) (by decide) (by decide) ?_
  refine lv_dup hx hb dX7_init_8 rfl ?_
  refine cy_ctorN (q := q1) X (c_X6_init l E q1 H.size) pk_X6_init ⟨rfl, wm_31⟩ nm_0 ⟨Nat.le_of_ble_eq_true rfl, Nat.le_of_ble_eq_true rfl⟩ ⟨rfl, rfl⟩ hP hD hS hA hl.1 (Nat.le_of_ble_eq_true rfl) ⟨Nat.le_of_ble_eq_true rfl, Nat.le_of_ble_eq_true rfl⟩ dX7_init_9 (fun A2 H locs hu hP2 hD2 hS => ?_)
  have hu : A2 0 = q1 := hu
  subst hu
  have hP := hP2
  have hD := hD2
  have hP : va_P E.1 vwCl ((h0, .inr (7, [.null, .null, .null, .null, .null, .int 0, .int 0, .int 0])) :: (bk E A2 0 19)) H := hP
  have hD : va_D AA0 ((h0, .inr (7, [.null, .null, .null, .null, .null, .int 0, .int 0, .int 0])) :: (bk E A2 0 19)) := hD
  refine W.widen (k := 19) (n := 856) (by decide) (by decide) ?_
  refine va_putF (D := E.1) (ci := 7) (v := .ref (A2 0)) (ty := .object "SealedGroups$Store") (C := "SealedGroups") (T := TX7) (N := 8) hx hb X.1.2.2.2.2 inX7 tyX7 tyX7_ok nmX7 X.1.2.2.2.1 X.2.1.1 hP hD hS 0 rfl rfl 0 (by decide) (X.1.2.2.2.2 _ wm_17) (fun _ h => h) rfl hin rfl (by decide +kernel) rfl rfl (Nat.le_of_ble_eq_true rfl) dX7_init_12 (fun H locs hP hD hS => ?_)
  have hP : va_P E.1 vwCl ((h0, .inr (7, [.ref (A2 0), .null, .null, .null, .null, .int 0, .int 0, .int 0])) :: (bk E A2 0 19)) H := hP
  have hD : va_D AA0 ((h0, .inr (7, [.ref (A2 0), .null, .null, .null, .null, .int 0, .int 0, .int 0])) :: (bk E A2 0 19)) := hD
  refine lv_aload_n hx hb dX7_init_15 rfl (lv_at hl 0 rfl) ?_
  refine cy_new (ci := 6) (fs := [.null, .null, .null, .int 0, .int 0]) (C := "SealedGroups$Store") (T := TX6) (N := 5) X inX6 tyX6 tyX6_ok wm_14 wm_15 wm_16 hP hD hS hA rfl (fun j hj => by rcases (show j = 0 ∨ j = 1 ∨ j = 2 ∨ j = 3 ∨ j = 4 by omega) with rfl | rfl | rfl | rfl | rfl <;> rfl) (Nat.le_of_ble_eq_true rfl) (Nat.le_of_ble_eq_true rfl) dX7_init_16 (fun q3 H hP hD hS => ?_)
  refine W.widen (k := 20) (n := 861) (by decide) (by decide) ?_
  refine lv_dup hx hb dX7_init_19 rfl ?_
  refine cy_ctorN (q := q3) X (c_X6_init l E q3 H.size) pk_X6_init ⟨rfl, wm_31⟩ nm_0 ⟨Nat.le_of_ble_eq_true rfl, Nat.le_of_ble_eq_true rfl⟩ ⟨rfl, rfl⟩ hP hD hS hA hl.1 (Nat.le_of_ble_eq_true rfl) ⟨Nat.le_of_ble_eq_true rfl, Nat.le_of_ble_eq_true rfl⟩ dX7_init_20 (fun A4 H locs hu hP2 hD2 hS => ?_)
  have hu : A4 0 = q3 := hu
  subst hu
  have hP := hP2
  have hD := hD2
  have hP : va_P E.1 vwCl ((h0, .inr (7, [.ref (A2 0), .null, .null, .null, .null, .int 0, .int 0, .int 0])) :: ((bk E A2 0 19) ++ (bk E A4 0 19))) H := hP
  have hD : va_D AA0 ((h0, .inr (7, [.ref (A2 0), .null, .null, .null, .null, .int 0, .int 0, .int 0])) :: ((bk E A2 0 19) ++ (bk E A4 0 19))) := hD
  refine W.widen (k := 38) (n := 1712) (by decide) (by decide) ?_
  refine va_putF (D := E.1) (ci := 7) (v := .ref (A4 0)) (ty := .object "SealedGroups$Store") (C := "SealedGroups") (T := TX7) (N := 8) hx hb X.1.2.2.2.2 inX7 tyX7 tyX7_ok nmX7 X.1.2.2.2.1 X.2.1.1 hP hD hS 0 rfl rfl 1 (by decide) (X.1.2.2.2.2 _ wm_18) (fun _ h => h) rfl hin rfl (by decide +kernel) rfl rfl (Nat.le_of_ble_eq_true rfl) dX7_init_23 (fun H locs hP hD hS => ?_)
  have hP : va_P E.1 vwCl ((h0, .inr (7, [.ref (A2 0), .ref (A4 0), .null, .null, .null, .int 0, .int 0, .int 0])) :: ((bk E A2 0 19) ++ (bk E A4 0 19))) H := hP
  have hD : va_D AA0 ((h0, .inr (7, [.ref (A2 0), .ref (A4 0), .null, .null, .null, .int 0, .int 0, .int 0])) :: ((bk E A2 0 19) ++ (bk E A4 0 19))) := hD
  refine lv_aload_n hx hb dX7_init_26 rfl (lv_at hl 0 rfl) ?_
  refine cy_new (ci := 5) (fs := [.null, .null, .int 0, .int 0, .int 0, .int 0]) (C := "SealedGroups$Restarter") (T := TX5) (N := 6) X inX5 tyX5 tyX5_ok wm_19 wm_20 wm_21 hP hD hS hA rfl (fun j hj => by rcases (show j = 0 ∨ j = 1 ∨ j = 2 ∨ j = 3 ∨ j = 4 ∨ j = 5 by omega) with rfl | rfl | rfl | rfl | rfl | rfl <;> rfl) (Nat.le_of_ble_eq_true rfl) (Nat.le_of_ble_eq_true rfl) dX7_init_27 (fun q5 H hP hD hS => ?_)
  refine W.widen (k := 39) (n := 1718) (by decide) (by decide) ?_
  refine lv_dup hx hb dX7_init_30 rfl ?_
  refine cy_ctorN (q := q5) X (c_X5_init l E q5 H.size) pk_X5_init ⟨rfl, wm_71⟩ nm_4 ⟨Nat.le_of_ble_eq_true rfl, Nat.le_of_ble_eq_true rfl⟩ ⟨rfl, rfl⟩ hP hD hS hA hl.1 (Nat.le_of_ble_eq_true rfl) ⟨Nat.le_of_ble_eq_true rfl, Nat.le_of_ble_eq_true rfl⟩ dX7_init_31 (fun A6 H locs hu hP2 hD2 hS => ?_)
  have hu : A6 20 = q5 := hu
  subst hu
  have hP := hP2
  have hD := hD2
  have hP : va_P E.1 vwCl ((h0, .inr (7, [.ref (A2 0), .ref (A4 0), .null, .null, .null, .int 0, .int 0, .int 0])) :: (((bk E A2 0 19) ++ (bk E A4 0 19)) ++ (bk E A6 20 3))) H := hP
  have hD : va_D AA0 ((h0, .inr (7, [.ref (A2 0), .ref (A4 0), .null, .null, .null, .int 0, .int 0, .int 0])) :: (((bk E A2 0 19) ++ (bk E A4 0 19)) ++ (bk E A6 20 3))) := hD
  refine W.widen (k := 41) (n := 1854) (by decide) (by decide) ?_
  refine va_putF (D := E.1) (ci := 7) (v := .ref (A6 20)) (ty := .object "SealedGroups$Restarter") (C := "SealedGroups") (T := TX7) (N := 8) hx hb X.1.2.2.2.2 inX7 tyX7 tyX7_ok nmX7 X.1.2.2.2.1 X.2.1.1 hP hD hS 0 rfl rfl 2 (by decide) (X.1.2.2.2.2 _ wm_22) (fun _ h => h) rfl hin rfl (by decide +kernel) rfl rfl (Nat.le_of_ble_eq_true rfl) dX7_init_34 (fun H locs hP hD hS => ?_)
  have hP : va_P E.1 vwCl ((h0, .inr (7, [.ref (A2 0), .ref (A4 0), .ref (A6 20), .null, .null, .int 0, .int 0, .int 0])) :: (((bk E A2 0 19) ++ (bk E A4 0 19)) ++ (bk E A6 20 3))) H := hP
  have hD : va_D AA0 ((h0, .inr (7, [.ref (A2 0), .ref (A4 0), .ref (A6 20), .null, .null, .int 0, .int 0, .int 0])) :: (((bk E A2 0 19) ++ (bk E A4 0 19)) ++ (bk E A6 20 3))) := hD
  refine lv_aload_n hx hb dX7_init_37 rfl (lv_at hl 0 rfl) ?_
  refine cy_new (ci := 1) (fs := [.null, .int 0, .int 0]) (C := "SealedGroups$History") (T := TX1) (N := 3) X inX1 tyX1 tyX1_ok wm_23 wm_24 wm_25 hP hD hS hA rfl (fun j hj => by rcases (show j = 0 ∨ j = 1 ∨ j = 2 by omega) with rfl | rfl | rfl <;> rfl) (Nat.le_of_ble_eq_true rfl) (Nat.le_of_ble_eq_true rfl) dX7_init_38 (fun q7 H hP hD hS => ?_)
  refine W.widen (k := 42) (n := 1857) (by decide) (by decide) ?_
  refine lv_dup hx hb dX7_init_41 rfl ?_
  refine cy_ctorI (q := q7) X (c_X1_init l E q7 H.size) pk_X1_init ⟨rfl, wm_77⟩ wm_76 ⟨Nat.le_of_ble_eq_true rfl, Nat.le_of_ble_eq_true rfl⟩ ⟨rfl, rfl⟩ hP hD hS hA hl.1 (Nat.le_of_ble_eq_true rfl) ⟨Nat.le_of_ble_eq_true rfl, Nat.le_of_ble_eq_true rfl⟩ dX7_init_42 (fun A8 H locs hu hP2 hD2 hS => ?_)
  obtain ⟨A8, A8b⟩ := A8
  have hu : A8 23 = q7 := hu
  subst hu
  have hP := hP2
  have hD := hD2
  have hP : va_P E.1 vwCl ((h0, .inr (7, [.ref (A2 0), .ref (A4 0), .ref (A6 20), .null, .null, .int 0, .int 0, .int 0])) :: ((((bk E A2 0 19) ++ (bk E A4 0 19)) ++ (bk E A6 20 3)) ++ (hbk E A8 A8b))) H := hP
  have hD : va_D AA0 ((h0, .inr (7, [.ref (A2 0), .ref (A4 0), .ref (A6 20), .null, .null, .int 0, .int 0, .int 0])) :: ((((bk E A2 0 19) ++ (bk E A4 0 19)) ++ (bk E A6 20 3)) ++ (hbk E A8 A8b))) := hD
  refine W.widen (k := 138) (n := 6142) (by decide) (by decide) ?_
  refine va_putF (D := E.1) (ci := 7) (v := .ref (A8 23)) (ty := .object "SealedGroups$History") (C := "SealedGroups") (T := TX7) (N := 8) hx hb X.1.2.2.2.2 inX7 tyX7 tyX7_ok nmX7 X.1.2.2.2.1 X.2.1.1 hP hD hS 0 rfl rfl 3 (by decide) (X.1.2.2.2.2 _ wm_26) (fun _ h => h) rfl hin rfl (by decide +kernel) rfl rfl (Nat.le_of_ble_eq_true rfl) dX7_init_45 (fun H locs hP hD hS => ?_)
  have hP : va_P E.1 vwCl ((h0, .inr (7, [.ref (A2 0), .ref (A4 0), .ref (A6 20), .ref (A8 23), .null, .int 0, .int 0, .int 0])) :: ((((bk E A2 0 19) ++ (bk E A4 0 19)) ++ (bk E A6 20 3)) ++ (hbk E A8 A8b))) H := hP
  have hD : va_D AA0 ((h0, .inr (7, [.ref (A2 0), .ref (A4 0), .ref (A6 20), .ref (A8 23), .null, .int 0, .int 0, .int 0])) :: ((((bk E A2 0 19) ++ (bk E A4 0 19)) ++ (bk E A6 20 3)) ++ (hbk E A8 A8b))) := hD
  refine lv_aload_n hx hb dX7_init_48 rfl (lv_at hl 0 rfl) ?_
  refine cy_new (ci := 3) (fs := [.null, .int 0, .int 0, .int 0, .int 0, .int 0, .int 0, .int 0]) (C := "SealedGroups$OrderText") (T := TX3) (N := 8) X inX3 tyX3 tyX3_ok wm_27 wm_28 wm_29 hP hD hS hA rfl (fun j hj => by rcases (show j = 0 ∨ j = 1 ∨ j = 2 ∨ j = 3 ∨ j = 4 ∨ j = 5 ∨ j = 6 ∨ j = 7 by omega) with rfl | rfl | rfl | rfl | rfl | rfl | rfl | rfl <;> rfl) (Nat.le_of_ble_eq_true rfl) (Nat.le_of_ble_eq_true rfl) dX7_init_49 (fun q9 H hP hD hS => ?_)
  refine W.widen (k := 139) (n := 6150) (by decide) (by decide) ?_
  refine lv_dup hx hb dX7_init_52 rfl ?_
  refine cy_ctorN (q := q9) X (c_X3_init l E q9 H.size) pk_X3_init ⟨rfl, wm_82⟩ nm_6 ⟨Nat.le_of_ble_eq_true rfl, Nat.le_of_ble_eq_true rfl⟩ ⟨rfl, rfl⟩ hP hD hS hA hl.1 (Nat.le_of_ble_eq_true rfl) ⟨Nat.le_of_ble_eq_true rfl, Nat.le_of_ble_eq_true rfl⟩ dX7_init_53 (fun A10 H locs hu hP2 hD2 hS => ?_)
  have hu : A10 25 = q9 := hu
  subst hu
  have hP := hP2
  have hD := hD2
  have hP : va_P E.1 vwCl ((h0, .inr (7, [.ref (A2 0), .ref (A4 0), .ref (A6 20), .ref (A8 23), .null, .int 0, .int 0, .int 0])) :: (((((bk E A2 0 19) ++ (bk E A4 0 19)) ++ (bk E A6 20 3)) ++ (hbk E A8 A8b)) ++ (bk E A10 25 2))) H := hP
  have hD : va_D AA0 ((h0, .inr (7, [.ref (A2 0), .ref (A4 0), .ref (A6 20), .ref (A8 23), .null, .int 0, .int 0, .int 0])) :: (((((bk E A2 0 19) ++ (bk E A4 0 19)) ++ (bk E A6 20 3)) ++ (hbk E A8 A8b)) ++ (bk E A10 25 2))) := hD
  refine W.widen (k := 140) (n := 6230) (by decide) (by decide) ?_
  refine va_putF (D := E.1) (ci := 7) (v := .ref (A10 25)) (ty := .object "SealedGroups$OrderText") (C := "SealedGroups") (T := TX7) (N := 8) hx hb X.1.2.2.2.2 inX7 tyX7 tyX7_ok nmX7 X.1.2.2.2.1 X.2.1.1 hP hD hS 0 rfl rfl 4 (by decide) (X.1.2.2.2.2 _ wm_30) (fun _ h => h) rfl hin rfl (by decide +kernel) rfl rfl (Nat.le_of_ble_eq_true rfl) dX7_init_56 (fun H locs hP hD hS => ?_)
  have hP : va_P E.1 vwCl ((h0, .inr (7, [.ref (A2 0), .ref (A4 0), .ref (A6 20), .ref (A8 23), .ref (A10 25), .int 0, .int 0, .int 0])) :: (((((bk E A2 0 19) ++ (bk E A4 0 19)) ++ (bk E A6 20 3)) ++ (hbk E A8 A8b)) ++ (bk E A10 25 2))) H := hP
  have hD : va_D AA0 ((h0, .inr (7, [.ref (A2 0), .ref (A4 0), .ref (A6 20), .ref (A8 23), .ref (A10 25), .int 0, .int 0, .int 0])) :: (((((bk E A2 0 19) ++ (bk E A4 0 19)) ++ (bk E A6 20 3)) ++ (hbk E A8 A8b)) ++ (bk E A10 25 2))) := hD
  have hP : va_P E.1 vwCl (sgw E h0 A2 A4 A6 A8 A8b A10) H := hP
  have hD : va_D AA0 (sgw E h0 A2 A4 A6 A8 A8b A10) := hD
  subst eA
  exact cy_vret X hr hlocks (u := (h0, A2, A4, A6, (A8, A8b), A10)) rfl hP hD hS dX7_init_59
-- counts: {'SealedGroups$Groups': (3, 12), 'SealedGroups$Pages': (5, 40), 'SealedGroups$Journal': (7, 776), 'SealedGroups$Store': (18, 851), 'SealedGroups$Restarter': (2, 136), 'SealedGroups$OrderText': (1, 80), 'SealedGroups$History': (96, 4285), 'SealedGroups': (140, 6230)}
