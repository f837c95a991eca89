/-! SealedGroupsLaw.back -/
noncomputable def f_L_back_L214  (K12 : Mem → Int32 → Int32 → Int32 → Option (Int32 × Mem)) (M : Mem) (y4 y5 y6 : Int32) : Option (Int32 × Mem) :=
bd (y6 + (-1 : Int32)) (fun x10 =>
K12 M y4 y5 x10)
noncomputable def f_L_back_L131  (K12 : Mem → Int32 → Int32 → Int32 → Option (Int32 × Mem)) (K87 : Mem → Int32 → Int32 → Int32 → Int32 → Int32 → Int32 → Int32 → Option (Int32 × Mem)) (M : Mem) (y4 y5 y6 y7 y8 y10 z0 : Int32) : Option (Int32 × Mem) :=
bd (y10 + (1 : Int32)) (fun x23 =>
K87 M y4 y5 y6 y7 y8 z0 x23)
noncomputable def f_L_back_L126  (K12 : Mem → Int32 → Int32 → Int32 → Option (Int32 × Mem)) (K87 : Mem → Int32 → Int32 → Int32 → Int32 → Int32 → Int32 → Int32 → Option (Int32 × Mem)) (M : Mem) (y4 y5 y6 y7 y8 y10 : Int32) : Option (Int32 × Mem) :=
f_L_back_L131 K12 K87 M y4 y5 y6 y7 y8 y10 (1 : Int32)
noncomputable def f_L_back_L130  (K12 : Mem → Int32 → Int32 → Int32 → Option (Int32 × Mem)) (K87 : Mem → Int32 → Int32 → Int32 → Int32 → Int32 → Int32 → Int32 → Option (Int32 × Mem)) (M : Mem) (y4 y5 y6 y7 y8 y10 : Int32) : Option (Int32 × Mem) :=
f_L_back_L131 K12 K87 M y4 y5 y6 y7 y8 y10 (0 : Int32)
noncomputable def f_L_back_L87  (K12 : Mem → Int32 → Int32 → Int32 → Option (Int32 × Mem)) (K87 : Mem → Int32 → Int32 → Int32 → Int32 → Int32 → Int32 → Int32 → Option (Int32 × Mem)) (M : Mem) (y4 y5 y6 y7 y8 y9 y10 : Int32) : Option (Int32 × Mem) :=
bO (f_L_last M) (fun v7 =>
(if v7 < y10 then
(if y7 = (1 : Int32) then
(if ((y5 >>> (y8 &&& 31)) &&& (1 : Int32)) = (1 : Int32) then
(if y9 = 0 then
bO (f_L_of M y6 (2 : Int32)) (fun v13 =>
bO (f_L_of M y6 (3 : Int32)) (fun v14 =>
bO (f_L_value M v13) (fun v15 =>
bO (f_L_of M y6 (3 : Int32)) (fun v16 =>
bP (f_L_add M (3 : Int32) y8 v13 v15 v16 y6) (fun v17 M18 =>
bO (f_L_come M18 v13 v14 v17) (fun M20 =>
bd (y4 + (1 : Int32)) (fun x21 =>
f_L_back_L214 K12 M20 x21 y5 y6)))))))
else
f_L_back_L214 K12 M y4 y5 y6)
else
f_L_back_L214 K12 M y4 y5 y6)
else
f_L_back_L214 K12 M y4 y5 y6)
else
(if y9 = 0 then
bO (f_L_of M y10 (0 : Int32)) (fun v24 =>
(if v24 = (3 : Int32) then
bO (f_L_of M y10 (5 : Int32)) (fun v26 =>
(if v26 = y6 then
f_L_back_L126 K12 K87 M y4 y5 y6 y7 y8 y10
else
f_L_back_L130 K12 K87 M y4 y5 y6 y7 y8 y10))
else
f_L_back_L130 K12 K87 M y4 y5 y6 y7 y8 y10))
else
f_L_back_L126 K12 K87 M y4 y5 y6 y7 y8 y10)))
noncomputable def f_L_back_L78  (K12 : Mem → Int32 → Int32 → Int32 → Option (Int32 × Mem)) (M : Mem) (y4 y5 y6 y7 y8 : Int32) : Option (Int32 × Mem) :=
bd ((y6 + (1 : Int32))) (fun x6 =>
itr (f_L_back_L87 K12) (fun _ _ _ _ _ _ _ _ => none) FU M y4 y5 y6 y7 y8 (0 : Int32) x6)
noncomputable def f_L_back_L12  (K12 : Mem → Int32 → Int32 → Int32 → Option (Int32 × Mem)) (M : Mem) (y4 y5 y6 : Int32) : Option (Int32 × Mem) :=
(if y6 < (M 11 28 0) then
some (y4, M)
else
bO (f_L_of M y6 (0 : Int32)) (fun v3 =>
bO (f_L_of M y6 (1 : Int32)) (fun v4 =>
(if v3 = 0 then
(if ((y5 >>> (v4 &&& 31)) &&& (1 : Int32)) = (1 : Int32) then
bP (f_L_add M (4 : Int32) v4 (0 : Int32) (0 : Int32) (0 : Int32) (0 : Int32)) (fun v29 M30 =>
bd ((y5 - ((1 : Int32) <<< (v4 &&& 31)))) (fun x31 =>
f_L_back_L78 K12 M30 y4 x31 y6 v3 v4))
else
f_L_back_L78 K12 M y4 y5 y6 v3 v4)
else
f_L_back_L78 K12 M y4 y5 y6 v3 v4))))
noncomputable def f_L_back  (M : Mem) (a1 : Int32) : Option (Int32 × Mem) :=
bO (f_L_last M) (fun v1 =>
itr (f_L_back_L12 ) (fun _ _ _ _ => none) FU M (0 : Int32) a1 v1)
theorem pk_L_back : Pk "SealedGroupsLaw" yL_back cL_back 11 (some .int) 4 := ⟨wm_523, wm_89, rfl, by decide +kernel⟩
set_option maxHeartbeats 4000000 in
set_option maxRecDepth 100000 in
theorem c_L_back (l : Launch) (E : En) (hA : AdOK E) {M : Mem} {a1 : Int32} {r0 : Int32} {M0 : Mem}  (h : f_L_back M a1 = some (r0, M0)) : Met l yL_back (Wm yL_back cL_back 11 (some .int)) ({ frames := 2, cells := 0, slots := 0, locals := 63 } : Room) (va_Pc [Value.ref (E.2.2 11 28), Value.ref (E.2.2 11 30), Value.ref (E.2.2 11 31), Value.int a1] (Wd E M)) (QI E r0 M0) 0 0 (AA E) := by
  refine Met.ofW (cc := cL_back) (maxL := 11) (ret := (some .int)) (by decide +kernel) rfl ?_
  intro p e s m args below meth c s₁ B hml hv
  obtain ⟨rfl, hP, hK⟩ := hv
  have X : Cx E (AA E) p s m c _ cL_back 11 RL := ⟨⟨B.exec, B.bytes, hml, findClass_of_methodNamed B.named, fun w hw => atoms_spec (ws := Wm yL_back cL_back 11 (some .int)) B.pre w (List.mem_cons_of_mem _ hw)⟩, hK, hA, fun _ h => h⟩
  have hx := B.exec
  have hb := B.bytes
  have hr := B.returns
  have hlocks := B.notSynchronized
  clear B hml
  have hS : va_S (AA E) s.heap s.heap [] := va_S.rf
  have hl := lv_entry ([Value.ref (E.2.2 11 28), Value.ref (E.2.2 11 30), Value.ref (E.2.2 11 31), Value.int a1]) (n := 11) (Nat.le_of_ble_eq_true rfl)
  rw [lg_entry_eq]
  generalize (lg_sl ([Value.ref (E.2.2 11 28), Value.ref (E.2.2 11 30), Value.ref (E.2.2 11 31), Value.int a1]) ++ List.replicate (11 - (lg_sl ([Value.ref (E.2.2 11 28), Value.ref (E.2.2 11 30), Value.ref (E.2.2 11 31), Value.int a1])).length) Slot.unset).toArray = ls at hl ⊢
  have hl : lv_has ls 11 [(0, .ref (E.2.2 11 28)), (1, .ref (E.2.2 11 30)), (2, .ref (E.2.2 11 31)), (3, .int a1)] := hl
  have w_L12 : ∀ (n12 : Nat) (M : Mem) (y4 y5 y6 : Int32) (H : Heap) (locs : List Loc) (ls : Array Slot), itr (f_L_back_L12 ) (fun _ _ _ _ => none) n12 M y4 y5 y6 = some (r0, M0) → va_P E.1 vwCl (wl E M) H → va_S (AA E) s.heap H locs → lv_has ls 11 [(0, .ref (E.2.2 11 28)), (1, .ref (E.2.2 11 30)), (2, .ref (E.2.2 11 31)), (4, .int y4), (5, .int y5), (6, .int y6)] → W p l e (headSpec (Wm yL_back cL_back 11 (some .int)) ({ frames := 2, cells := 0, slots := 0, locals := 63 } : Room)).room s m ([Value.ref (E.2.2 11 28), Value.ref (E.2.2 11 30), Value.ref (E.2.2 11 31), Value.int a1] : List Value).toArray below meth c H locs 0 0 (MQ below (QI E r0 M0) ([Value.ref (E.2.2 11 28), Value.ref (E.2.2 11 30), Value.ref (E.2.2 11 31), Value.int a1] : List Value).toArray s 0 0 (AA E)) (F0 m 12 ls []) := by
    intro n12
    induction n12 with
    | zero => intro M y4 y5 y6 H locs ls h; exact (nomatch (show (none : Option (Int32 × Mem)) = some _ from h))
    | succ n12 ih12 =>
      intro M y4 y5 y6 H locs ls h hP hS hl
      have h : f_L_back_L12 (itr (f_L_back_L12 ) (fun _ _ _ _ => none) n12) M y4 y5 y6 = some (r0, M0) := h
      have w_L214 : ∀ (M : Mem) (y4 y5 y6 : Int32) (H : Heap) (locs : List Loc) (ls : Array Slot), f_L_back_L214 (itr (f_L_back_L12 ) (fun _ _ _ _ => none) n12) M y4 y5 y6 = some (r0, M0) → va_P E.1 vwCl (wl E M) H → va_S (AA E) s.heap H locs → lv_has ls 11 [(0, .ref (E.2.2 11 28)), (1, .ref (E.2.2 11 30)), (2, .ref (E.2.2 11 31)), (4, .int y4), (5, .int y5), (6, .int y6)] → W p l e (headSpec (Wm yL_back cL_back 11 (some .int)) ({ frames := 2, cells := 0, slots := 0, locals := 63 } : Room)).room s m ([Value.ref (E.2.2 11 28), Value.ref (E.2.2 11 30), Value.ref (E.2.2 11 31), Value.int a1] : List Value).toArray below meth c H locs 0 0 (MQ below (QI E r0 M0) ([Value.ref (E.2.2 11 28), Value.ref (E.2.2 11 30), Value.ref (E.2.2 11 31), Value.int a1] : List Value).toArray s 0 0 (AA E)) (F0 m 214 ls []) := by
        intro M y4 y5 y6 H locs ls h hP hS hl
        unfold f_L_back_L214 at h
        obtain ⟨x10, ex10⟩ : ∃ y : Int32, y = y6 + (-1 : Int32) := ⟨_, rfl⟩
        have h := bd_e h ex10
        refine lv_iinc (v := x10) (lv' := [(6, .int x10), (0, .ref (E.2.2 11 28)), (1, .ref (E.2.2 11 30)), (2, .ref (E.2.2 11 31)), (4, .int y4), (5, .int y5)]) hx hb dL_back_214 hl (k := 5) rfl (by rw [ex10]; rfl) (by decide) rfl (fun ls hl => ?_)
        refine lv_goto (tgt := 12) hx hb dL_back_217 (by decide) ?_
        exact ih12 _ _ _ _ _ _ _ h hP hS (lv_sub hl [1, 2, 3, 4, 5, 0] rfl)
      have w_L87 : ∀ (n87 : Nat) (M : Mem) (y4 y5 y6 y7 y8 y9 y10 : Int32) (H : Heap) (locs : List Loc) (ls : Array Slot), itr (f_L_back_L87 (itr (f_L_back_L12 ) (fun _ _ _ _ => none) n12)) (fun _ _ _ _ _ _ _ _ => none) n87 M y4 y5 y6 y7 y8 y9 y10 = some (r0, M0) → va_P E.1 vwCl (wl E M) H → va_S (AA E) s.heap H locs → lv_has ls 11 [(0, .ref (E.2.2 11 28)), (1, .ref (E.2.2 11 30)), (2, .ref (E.2.2 11 31)), (4, .int y4), (5, .int y5), (6, .int y6), (7, .int y7), (8, .int y8), (9, .int y9), (10, .int y10)] → W p l e (headSpec (Wm yL_back cL_back 11 (some .int)) ({ frames := 2, cells := 0, slots := 0, locals := 63 } : Room)).room s m ([Value.ref (E.2.2 11 28), Value.ref (E.2.2 11 30), Value.ref (E.2.2 11 31), Value.int a1] : List Value).toArray below meth c H locs 0 0 (MQ below (QI E r0 M0) ([Value.ref (E.2.2 11 28), Value.ref (E.2.2 11 30), Value.ref (E.2.2 11 31), Value.int a1] : List Value).toArray s 0 0 (AA E)) (F0 m 87 ls []) := by
        intro n87
        induction n87 with
        | zero => intro M y4 y5 y6 y7 y8 y9 y10 H locs ls h; exact (nomatch (show (none : Option (Int32 × Mem)) = some _ from h))
        | succ n87 ih87 =>
          intro M y4 y5 y6 y7 y8 y9 y10 H locs ls h hP hS hl
          have h : f_L_back_L87 (itr (f_L_back_L12 ) (fun _ _ _ _ => none) n12) (itr (f_L_back_L87 (itr (f_L_back_L12 ) (fun _ _ _ _ => none) n12)) (fun _ _ _ _ _ _ _ _ => none) n87) M y4 y5 y6 y7 y8 y9 y10 = some (r0, M0) := h
          have w_L131 : ∀ (M : Mem) (y4 y5 y6 y7 y8 y10 z0 : Int32) (H : Heap) (locs : List Loc) (ls : Array Slot), f_L_back_L131 (itr (f_L_back_L12 ) (fun _ _ _ _ => none) n12) (itr (f_L_back_L87 (itr (f_L_back_L12 ) (fun _ _ _ _ => none) n12)) (fun _ _ _ _ _ _ _ _ => none) n87) M y4 y5 y6 y7 y8 y10 z0 = some (r0, M0) → va_P E.1 vwCl (wl E M) H → va_S (AA E) s.heap H locs → lv_has ls 11 [(0, .ref (E.2.2 11 28)), (1, .ref (E.2.2 11 30)), (2, .ref (E.2.2 11 31)), (4, .int y4), (5, .int y5), (6, .int y6), (7, .int y7), (8, .int y8), (10, .int y10)] → W p l e (headSpec (Wm yL_back cL_back 11 (some .int)) ({ frames := 2, cells := 0, slots := 0, locals := 63 } : Room)).room s m ([Value.ref (E.2.2 11 28), Value.ref (E.2.2 11 30), Value.ref (E.2.2 11 31), Value.int a1] : List Value).toArray below meth c H locs 0 0 (MQ below (QI E r0 M0) ([Value.ref (E.2.2 11 28), Value.ref (E.2.2 11 30), Value.ref (E.2.2 11 31), Value.int a1] : List Value).toArray s 0 0 (AA E)) (F0 m 131 ls [.int z0]) := by
            intro M y4 y5 y6 y7 y8 y10 z0 H locs ls h hP hS hl
            unfold f_L_back_L131 at h
            refine lv_istore (lv' := [(9, .int z0), (0, .ref (E.2.2 11 28)), (1, .ref (E.2.2 11 30)), (2, .ref (E.2.2 11 31)), (4, .int y4), (5, .int y5), (6, .int y6), (7, .int y7), (8, .int y8), (10, .int y10)]) hx hb dL_back_131 hl (by decide) rfl (fun ls hl => ?_)
            obtain ⟨x23, ex23⟩ : ∃ y : Int32, y = y10 + (1 : Int32) := ⟨_, rfl⟩
            have h := bd_e h ex23
            refine lv_iinc (v := x23) (lv' := [(10, .int x23), (9, .int z0), (0, .ref (E.2.2 11 28)), (1, .ref (E.2.2 11 30)), (2, .ref (E.2.2 11 31)), (4, .int y4), (5, .int y5), (6, .int y6), (7, .int y7), (8, .int y8)]) hx hb dL_back_133 hl (k := 9) rfl (by rw [ex23]; rfl) (by decide) rfl (fun ls hl => ?_)
            refine lv_goto (tgt := 87) hx hb dL_back_136 (by decide) ?_
            exact ih87 _ _ _ _ _ _ _ _ _ _ _ h hP hS (lv_sub hl [2, 3, 4, 5, 6, 7, 8, 9, 1, 0] rfl)
          have w_L126 : ∀ (M : Mem) (y4 y5 y6 y7 y8 y10 : Int32) (H : Heap) (locs : List Loc) (ls : Array Slot), f_L_back_L126 (itr (f_L_back_L12 ) (fun _ _ _ _ => none) n12) (itr (f_L_back_L87 (itr (f_L_back_L12 ) (fun _ _ _ _ => none) n12)) (fun _ _ _ _ _ _ _ _ => none) n87) M y4 y5 y6 y7 y8 y10 = some (r0, M0) → va_P E.1 vwCl (wl E M) H → va_S (AA E) s.heap H locs → lv_has ls 11 [(0, .ref (E.2.2 11 28)), (1, .ref (E.2.2 11 30)), (2, .ref (E.2.2 11 31)), (4, .int y4), (5, .int y5), (6, .int y6), (7, .int y7), (8, .int y8), (10, .int y10)] → W p l e (headSpec (Wm yL_back cL_back 11 (some .int)) ({ frames := 2, cells := 0, slots := 0, locals := 63 } : Room)).room s m ([Value.ref (E.2.2 11 28), Value.ref (E.2.2 11 30), Value.ref (E.2.2 11 31), Value.int a1] : List Value).toArray below meth c H locs 0 0 (MQ below (QI E r0 M0) ([Value.ref (E.2.2 11 28), Value.ref (E.2.2 11 30), Value.ref (E.2.2 11 31), Value.int a1] : List Value).toArray s 0 0 (AA E)) (F0 m 126 ls []) := by
            intro M y4 y5 y6 y7 y8 y10 H locs ls h hP hS hl
            unfold f_L_back_L126 at h
            refine lv_iconst (v := 1) hx hb dL_back_126 (by decide) ?_
            refine lv_goto (tgt := 131) hx hb dL_back_127 (by decide) ?_
            exact w_L131 _ _ _ _ _ _ _ _ _ _ _ h hP hS (lv_sub hl [0, 1, 2, 3, 4, 5, 6, 7, 8] rfl)
          have w_L130 : ∀ (M : Mem) (y4 y5 y6 y7 y8 y10 : Int32) (H : Heap) (locs : List Loc) (ls : Array Slot), f_L_back_L130 (itr (f_L_back_L12 ) (fun _ _ _ _ => none) n12) (itr (f_L_back_L87 (itr (f_L_back_L12 ) (fun _ _ _ _ => none) n12)) (fun _ _ _ _ _ _ _ _ => none) n87) M y4 y5 y6 y7 y8 y10 = some (r0, M0) → va_P E.1 vwCl (wl E M) H → va_S (AA E) s.heap H locs → lv_has ls 11 [(0, .ref (E.2.2 11 28)), (1, .ref (E.2.2 11 30)), (2, .ref (E.2.2 11 31)), (4, .int y4), (5, .int y5), (6, .int y6), (7, .int y7), (8, .int y8), (10, .int y10)] → W p l e (headSpec (Wm yL_back cL_back 11 (some .int)) ({ frames := 2, cells := 0, slots := 0, locals := 63 } : Room)).room s m ([Value.ref (E.2.2 11 28), Value.ref (E.2.2 11 30), Value.ref (E.2.2 11 31), Value.int a1] : List Value).toArray below meth c H locs 0 0 (MQ below (QI E r0 M0) ([Value.ref (E.2.2 11 28), Value.ref (E.2.2 11 30), Value.ref (E.2.2 11 31), Value.int a1] : List Value).toArray s 0 0 (AA E)) (F0 m 130 ls []) := by
            intro M y4 y5 y6 y7 y8 y10 H locs ls h hP hS hl
            unfold f_L_back_L130 at h
            refine lv_iconst (v := 0) hx hb dL_back_130 (by decide) ?_
            exact w_L131 _ _ _ _ _ _ _ _ _ _ _ h hP hS (lv_sub hl [0, 1, 2, 3, 4, 5, 6, 7, 8] rfl)
          unfold f_L_back_L87 at h
          refine lv_iload hx hb dL_back_87 (lv_at hl 9 rfl) ?_
          refine lv_aload_n hx hb dL_back_89 rfl (lv_at hl 0 rfl) ?_
          obtain ⟨v7, hv7, h⟩ := bO_e h
          refine mw_callSi X (c_L_last l E hA hv7) pk_L_last wm_170 wm_169 ⟨Nat.le_of_ble_eq_true rfl, Nat.le_of_ble_eq_true rfl⟩ ⟨rfl, rfl⟩ hP hS rfl hl.1 (Nat.le_of_ble_eq_true rfl) ⟨Nat.zero_le _, Nat.zero_le _⟩ rfl dL_back_90 (fun H locs hP hS => ?_)
          refine lv_icmp_gt (tgt := 139) hx hb dL_back_93 (by decide) (fun c8 => ?_) (fun c8 => ?_)
          · have h := br_1 h c8
            refine lv_iload hx hb dL_back_139 (lv_at hl 6 rfl) ?_
            refine lv_iconst (v := 1) hx hb dL_back_141 (by decide) ?_
            refine lv_icmp_ne (tgt := 214) hx hb dL_back_142 (by decide) (fun c9 => ?_) (fun c9 => ?_)
            · have h := br_0 h c9
              exact w_L214 _ _ _ _ _ _ _ h hP hS (lv_sub hl [0, 1, 2, 3, 4, 5] rfl)
            · have h := br_1 h c9
              refine lv_iload hx hb dL_back_145 (lv_at hl 4 rfl) ?_
              refine lv_iload hx hb dL_back_147 (lv_at hl 7 rfl) ?_
              refine lv_ishr hx hb dL_back_149 ?_
              refine lv_iconst (v := 1) hx hb dL_back_150 (by decide) ?_
              refine lv_iand hx hb dL_back_151 ?_
              refine lv_iconst (v := 1) hx hb dL_back_152 (by decide) ?_
              refine lv_icmp_ne (tgt := 214) hx hb dL_back_153 (by decide) (fun c11 => ?_) (fun c11 => ?_)
              · have h := br_0 h c11
                exact w_L214 _ _ _ _ _ _ _ h hP hS (lv_sub hl [0, 1, 2, 3, 4, 5] rfl)
              · have h := br_1 h c11
                refine lv_iload hx hb dL_back_156 (lv_at hl 8 rfl) ?_
                refine lv_if_ne (tgt := 214) hx hb dL_back_158 (by decide) (fun c12 => ?_) (fun c12 => ?_)
                · have h := br_0 h c12
                  exact w_L214 _ _ _ _ _ _ _ h hP hS (lv_sub hl [0, 1, 2, 3, 4, 5] rfl)
                · have h := br_1 h c12
                  refine lv_aload_n hx hb dL_back_161 rfl (lv_at hl 2 rfl) ?_
                  refine lv_aload_n hx hb dL_back_162 rfl (lv_at hl 0 rfl) ?_
                  refine lv_iload hx hb dL_back_163 (lv_at hl 5 rfl) ?_
                  refine lv_iconst (v := 2) hx hb dL_back_165 (by decide) ?_
                  obtain ⟨v13, hv13, h⟩ := bO_e h
                  refine mw_callSi X (c_L_of l E hA hv13) pk_L_of wm_176 wm_175 ⟨Nat.le_of_ble_eq_true rfl, Nat.le_of_ble_eq_true rfl⟩ ⟨rfl, rfl⟩ hP hS rfl hl.1 (Nat.le_of_ble_eq_true rfl) ⟨Nat.zero_le _, Nat.zero_le _⟩ rfl dL_back_166 (fun H locs hP hS => ?_)
                  refine lv_istore (lv' := [(10, .int v13), (0, .ref (E.2.2 11 28)), (1, .ref (E.2.2 11 30)), (2, .ref (E.2.2 11 31)), (4, .int y4), (5, .int y5), (6, .int y6), (7, .int y7), (8, .int y8), (9, .int y9)]) hx hb dL_back_169 hl (by decide) rfl (fun ls hl => ?_)
                  refine lv_aload_n hx hb dL_back_171 rfl (lv_at hl 2 rfl) ?_
                  refine lv_iload hx hb dL_back_172 (lv_at hl 0 rfl) ?_
                  refine lv_aload_n hx hb dL_back_174 rfl (lv_at hl 3 rfl) ?_
                  refine lv_aload_n hx hb dL_back_175 rfl (lv_at hl 1 rfl) ?_
                  refine lv_iload hx hb dL_back_176 (lv_at hl 6 rfl) ?_
                  refine lv_iconst (v := 3) hx hb dL_back_178 (by decide) ?_
                  obtain ⟨v14, hv14, h⟩ := bO_e h
                  refine mw_callSi X (c_L_of l E hA hv14) pk_L_of wm_176 wm_175 ⟨Nat.le_of_ble_eq_true rfl, Nat.le_of_ble_eq_true rfl⟩ ⟨rfl, rfl⟩ hP hS rfl hl.1 (Nat.le_of_ble_eq_true rfl) ⟨Nat.zero_le _, Nat.zero_le _⟩ rfl dL_back_179 (fun H locs hP hS => ?_)
                  refine lv_aload_n hx hb dL_back_182 rfl (lv_at hl 3 rfl) ?_
                  refine lv_aload_n hx hb dL_back_183 rfl (lv_at hl 1 rfl) ?_
                  refine lv_iconst (v := 3) hx hb dL_back_184 (by decide) ?_
                  refine lv_iload hx hb dL_back_185 (lv_at hl 8 rfl) ?_
                  refine lv_iload hx hb dL_back_187 (lv_at hl 0 rfl) ?_
                  refine lv_aload_n hx hb dL_back_189 rfl (lv_at hl 2 rfl) ?_
                  refine lv_iload hx hb dL_back_190 (lv_at hl 0 rfl) ?_
                  obtain ⟨v15, hv15, h⟩ := bO_e h
                  refine mw_callSi X (c_L_value l E hA hv15) pk_L_value wm_143 wm_142 ⟨Nat.le_of_ble_eq_true rfl, Nat.le_of_ble_eq_true rfl⟩ ⟨rfl, rfl⟩ hP hS rfl hl.1 (Nat.le_of_ble_eq_true rfl) ⟨Nat.zero_le _, Nat.zero_le _⟩ rfl dL_back_192 (fun H locs hP hS => ?_)
                  refine lv_aload_n hx hb dL_back_195 rfl (lv_at hl 3 rfl) ?_
                  refine lv_aload_n hx hb dL_back_196 rfl (lv_at hl 1 rfl) ?_
                  refine lv_iload hx hb dL_back_197 (lv_at hl 6 rfl) ?_
                  refine lv_iconst (v := 3) hx hb dL_back_199 (by decide) ?_
                  obtain ⟨v16, hv16, h⟩ := bO_e h
                  refine mw_callTi X (c_L_of l E hA hv16) pk_L_of wm_176 wm_175 ⟨Nat.le_of_ble_eq_true rfl, Nat.le_of_ble_eq_true rfl⟩ ⟨rfl, rfl⟩ hP hS rfl hl.1 (Nat.le_of_ble_eq_true rfl) ⟨Nat.zero_le _, Nat.zero_le _⟩ rfl dL_back_200 (fun H locs hP hS => ?_)
                  refine lv_iload hx hb dL_back_203 (lv_at hl 6 rfl) ?_
                  obtain ⟨v17, M18, hv17, h⟩ := bP_e h
                  refine mw_callSi X (c_L_add l E hA hv17) pk_L_add wm_525 wm_524 ⟨Nat.le_of_ble_eq_true rfl, Nat.le_of_ble_eq_true rfl⟩ ⟨rfl, rfl⟩ hP hS rfl hl.1 (Nat.le_of_ble_eq_true rfl) ⟨Nat.zero_le _, Nat.zero_le _⟩ rfl dL_back_205 (fun H locs hP hS => ?_)
                  obtain ⟨M20, hv19, h⟩ := bO_e h
                  refine mw_callSv X (c_L_come l E hA hv19) pk_L_come wm_519 wm_518 ⟨Nat.le_of_ble_eq_true rfl, Nat.le_of_ble_eq_true rfl⟩ ⟨rfl, rfl⟩ hP hS rfl hl.1 (Nat.le_of_ble_eq_true rfl) ⟨Nat.zero_le _, Nat.zero_le _⟩ rfl dL_back_208 (fun H locs hP hS => ?_)
                  obtain ⟨x21, ex21⟩ : ∃ y : Int32, y = y4 + (1 : Int32) := ⟨_, rfl⟩
                  have h := bd_e h ex21
                  refine lv_iinc (v := x21) (lv' := [(4, .int x21), (10, .int v13), (0, .ref (E.2.2 11 28)), (1, .ref (E.2.2 11 30)), (2, .ref (E.2.2 11 31)), (5, .int y5), (6, .int y6), (7, .int y7), (8, .int y8), (9, .int y9)]) hx hb dL_back_211 hl (k := 4) rfl (by rw [ex21]; rfl) (by decide) rfl (fun ls hl => ?_)
                  exact w_L214 _ _ _ _ _ _ _ h hP hS (lv_sub hl [2, 3, 4, 0, 5, 6] rfl)
          · have h := br_0 h c8
            refine lv_iload hx hb dL_back_96 (lv_at hl 8 rfl) ?_
            refine lv_if_ne (tgt := 126) hx hb dL_back_98 (by decide) (fun c22 => ?_) (fun c22 => ?_)
            · have h := br_0 h c22
              exact w_L126 _ _ _ _ _ _ _ _ _ _ h hP hS (lv_sub hl [0, 1, 2, 3, 4, 5, 6, 7, 9] rfl)
            · have h := br_1 h c22
              refine lv_aload_n hx hb dL_back_101 rfl (lv_at hl 2 rfl) ?_
              refine lv_aload_n hx hb dL_back_102 rfl (lv_at hl 0 rfl) ?_
              refine lv_iload hx hb dL_back_103 (lv_at hl 9 rfl) ?_
              refine lv_iconst (v := 0) hx hb dL_back_105 (by decide) ?_
              obtain ⟨v24, hv24, h⟩ := bO_e h
              refine mw_callSi X (c_L_of l E hA hv24) pk_L_of wm_176 wm_175 ⟨Nat.le_of_ble_eq_true rfl, Nat.le_of_ble_eq_true rfl⟩ ⟨rfl, rfl⟩ hP hS rfl hl.1 (Nat.le_of_ble_eq_true rfl) ⟨Nat.zero_le _, Nat.zero_le _⟩ rfl dL_back_106 (fun H locs hP hS => ?_)
              refine lv_iconst (v := 3) hx hb dL_back_109 (by decide) ?_
              refine lv_icmp_ne (tgt := 130) hx hb dL_back_110 (by decide) (fun c25 => ?_) (fun c25 => ?_)
              · have h := br_0 h c25
                exact w_L130 _ _ _ _ _ _ _ _ _ _ h hP hS (lv_sub hl [0, 1, 2, 3, 4, 5, 6, 7, 9] rfl)
              · have h := br_1 h c25
                refine lv_aload_n hx hb dL_back_113 rfl (lv_at hl 2 rfl) ?_
                refine lv_aload_n hx hb dL_back_114 rfl (lv_at hl 0 rfl) ?_
                refine lv_iload hx hb dL_back_115 (lv_at hl 9 rfl) ?_
                refine lv_iconst (v := 5) hx hb dL_back_117 (by decide) ?_
                obtain ⟨v26, hv26, h⟩ := bO_e h
                refine mw_callSi X (c_L_of l E hA hv26) pk_L_of wm_176 wm_175 ⟨Nat.le_of_ble_eq_true rfl, Nat.le_of_ble_eq_true rfl⟩ ⟨rfl, rfl⟩ hP hS rfl hl.1 (Nat.le_of_ble_eq_true rfl) ⟨Nat.zero_le _, Nat.zero_le _⟩ rfl dL_back_118 (fun H locs hP hS => ?_)
                refine lv_iload hx hb dL_back_121 (lv_at hl 5 rfl) ?_
                refine lv_icmp_ne (tgt := 130) hx hb dL_back_123 (by decide) (fun c27 => ?_) (fun c27 => ?_)
                · have h := br_0 h c27
                  exact w_L130 _ _ _ _ _ _ _ _ _ _ h hP hS (lv_sub hl [0, 1, 2, 3, 4, 5, 6, 7, 9] rfl)
                · have h := br_1 h c27
                  exact w_L126 _ _ _ _ _ _ _ _ _ _ h hP hS (lv_sub hl [0, 1, 2, 3, 4, 5, 6, 7, 9] rfl)
      have w_L78 : ∀ (M : Mem) (y4 y5 y6 y7 y8 : Int32) (H : Heap) (locs : List Loc) (ls : Array Slot), f_L_back_L78 (itr (f_L_back_L12 ) (fun _ _ _ _ => none) n12) M y4 y5 y6 y7 y8 = some (r0, M0) → va_P E.1 vwCl (wl E M) H → va_S (AA E) s.heap H locs → lv_has ls 11 [(0, .ref (E.2.2 11 28)), (1, .ref (E.2.2 11 30)), (2, .ref (E.2.2 11 31)), (4, .int y4), (5, .int y5), (6, .int y6), (7, .int y7), (8, .int y8)] → W p l e (headSpec (Wm yL_back cL_back 11 (some .int)) ({ frames := 2, cells := 0, slots := 0, locals := 63 } : Room)).room s m ([Value.ref (E.2.2 11 28), Value.ref (E.2.2 11 30), Value.ref (E.2.2 11 31), Value.int a1] : List Value).toArray below meth c H locs 0 0 (MQ below (QI E r0 M0) ([Value.ref (E.2.2 11 28), Value.ref (E.2.2 11 30), Value.ref (E.2.2 11 31), Value.int a1] : List Value).toArray s 0 0 (AA E)) (F0 m 78 ls []) := by
        intro M y4 y5 y6 y7 y8 H locs ls h hP hS hl
        unfold f_L_back_L78 at h
        refine lv_iconst (v := 0) hx hb dL_back_78 (by decide) ?_
        refine lv_istore (lv' := [(9, .int (0 : Int32)), (0, .ref (E.2.2 11 28)), (1, .ref (E.2.2 11 30)), (2, .ref (E.2.2 11 31)), (4, .int y4), (5, .int y5), (6, .int y6), (7, .int y7), (8, .int y8)]) hx hb dL_back_79 hl (by decide) rfl (fun ls hl => ?_)
        refine lv_iload hx hb dL_back_81 (lv_at hl 6 rfl) ?_
        refine lv_iconst (v := 1) hx hb dL_back_83 (by decide) ?_
        refine lv_iadd hx hb dL_back_84 ?_
        refine lv_topi (fun x6 ex6 => ?_)
        have h := bd_e h ex6
        refine lv_istore (lv' := [(10, .int x6), (9, .int (0 : Int32)), (0, .ref (E.2.2 11 28)), (1, .ref (E.2.2 11 30)), (2, .ref (E.2.2 11 31)), (4, .int y4), (5, .int y5), (6, .int y6), (7, .int y7), (8, .int y8)]) hx hb dL_back_85 hl (by decide) rfl (fun ls hl => ?_)
        exact w_L87 FU _ _ _ _ _ _ _ _ _ _ _ h hP hS (lv_sub hl [2, 3, 4, 5, 6, 7, 8, 9, 1, 0] rfl)
      unfold f_L_back_L12 at h
      refine lv_iload hx hb dL_back_12 (lv_at hl 5 rfl) ?_
      refine lv_aload_n hx hb dL_back_14 rfl (lv_at hl 0 rfl) ?_
      refine lv_iconst (v := 0) hx hb dL_back_15 (by decide) ?_
      refine mw_ld X hP ix_28 rfl (v := (M 11 28 0)) (inb_vp (by decide)) rfl dL_back_16 ?_
      refine lv_icmp_lt (tgt := 220) hx hb dL_back_17 (by decide) (fun c2 => ?_) (fun c2 => ?_)
      · have h := br_1 h c2
        refine lv_iload hx hb dL_back_220 (lv_at hl 3 rfl) ?_
        have h := Option.some.inj h
        exact mw_iret X hr hlocks hP hS (congrArg Prod.fst h) (congrArg Prod.snd h) dL_back_222
      · have h := br_0 h c2
        refine lv_aload_n hx hb dL_back_20 rfl (lv_at hl 2 rfl) ?_
        refine lv_aload_n hx hb dL_back_21 rfl (lv_at hl 0 rfl) ?_
        refine lv_iload hx hb dL_back_22 (lv_at hl 5 rfl) ?_
        refine lv_iconst (v := 0) hx hb dL_back_24 (by decide) ?_
        obtain ⟨v3, hv3, h⟩ := bO_e h
        refine mw_callSi X (c_L_of l E hA hv3) pk_L_of wm_176 wm_175 ⟨Nat.le_of_ble_eq_true rfl, Nat.le_of_ble_eq_true rfl⟩ ⟨rfl, rfl⟩ hP hS rfl hl.1 (Nat.le_of_ble_eq_true rfl) ⟨Nat.zero_le _, Nat.zero_le _⟩ rfl dL_back_25 (fun H locs hP hS => ?_)
        refine lv_istore (lv' := [(7, .int v3), (0, .ref (E.2.2 11 28)), (1, .ref (E.2.2 11 30)), (2, .ref (E.2.2 11 31)), (4, .int y4), (5, .int y5), (6, .int y6)]) hx hb dL_back_28 hl (by decide) rfl (fun ls hl => ?_)
        refine lv_aload_n hx hb dL_back_30 rfl (lv_at hl 3 rfl) ?_
        refine lv_aload_n hx hb dL_back_31 rfl (lv_at hl 1 rfl) ?_
        refine lv_iload hx hb dL_back_32 (lv_at hl 6 rfl) ?_
        refine lv_iconst (v := 1) hx hb dL_back_34 (by decide) ?_
        obtain ⟨v4, hv4, h⟩ := bO_e h
        refine mw_callSi X (c_L_of l E hA hv4) pk_L_of wm_176 wm_175 ⟨Nat.le_of_ble_eq_true rfl, Nat.le_of_ble_eq_true rfl⟩ ⟨rfl, rfl⟩ hP hS rfl hl.1 (Nat.le_of_ble_eq_true rfl) ⟨Nat.zero_le _, Nat.zero_le _⟩ rfl dL_back_35 (fun H locs hP hS => ?_)
        refine lv_istore (lv' := [(8, .int v4), (7, .int v3), (0, .ref (E.2.2 11 28)), (1, .ref (E.2.2 11 30)), (2, .ref (E.2.2 11 31)), (4, .int y4), (5, .int y5), (6, .int y6)]) hx hb dL_back_38 hl (by decide) rfl (fun ls hl => ?_)
        refine lv_iload hx hb dL_back_40 (lv_at hl 1 rfl) ?_
        refine lv_if_ne (tgt := 78) hx hb dL_back_42 (by decide) (fun c5 => ?_) (fun c5 => ?_)
        · have h := br_0 h c5
          exact w_L78 _ _ _ _ _ _ _ _ _ h hP hS (lv_sub hl [2, 3, 4, 5, 6, 7, 1, 0] rfl)
        · have h := br_1 h c5
          refine lv_iload hx hb dL_back_45 (lv_at hl 6 rfl) ?_
          refine lv_iload hx hb dL_back_47 (lv_at hl 0 rfl) ?_
          refine lv_ishr hx hb dL_back_49 ?_
          refine lv_iconst (v := 1) hx hb dL_back_50 (by decide) ?_
          refine lv_iand hx hb dL_back_51 ?_
          refine lv_iconst (v := 1) hx hb dL_back_52 (by decide) ?_
          refine lv_icmp_ne (tgt := 78) hx hb dL_back_53 (by decide) (fun c28 => ?_) (fun c28 => ?_)
          · have h := br_0 h c28
            exact w_L78 _ _ _ _ _ _ _ _ _ h hP hS (lv_sub hl [2, 3, 4, 5, 6, 7, 1, 0] rfl)
          · have h := br_1 h c28
            refine lv_aload_n hx hb dL_back_56 rfl (lv_at hl 4 rfl) ?_
            refine lv_aload_n hx hb dL_back_57 rfl (lv_at hl 2 rfl) ?_
            refine lv_iconst (v := 4) hx hb dL_back_58 (by decide) ?_
            refine lv_iload hx hb dL_back_59 (lv_at hl 0 rfl) ?_
            refine lv_iconst (v := 0) hx hb dL_back_61 (by decide) ?_
            refine lv_iconst (v := 0) hx hb dL_back_62 (by decide) ?_
            refine lv_iconst (v := 0) hx hb dL_back_63 (by decide) ?_
            refine lv_iconst (v := 0) hx hb dL_back_64 (by decide) ?_
            obtain ⟨v29, M30, hv29, h⟩ := bP_e h
            refine mw_callSi X (c_L_add l E hA hv29) pk_L_add wm_525 wm_524 ⟨Nat.le_of_ble_eq_true rfl, Nat.le_of_ble_eq_true rfl⟩ ⟨rfl, rfl⟩ hP hS rfl hl.1 (Nat.le_of_ble_eq_true rfl) ⟨Nat.zero_le _, Nat.zero_le _⟩ rfl dL_back_65 (fun H locs hP hS => ?_)
            refine lv_pop hx hb dL_back_68 rfl ?_
            refine lv_iload hx hb dL_back_69 (lv_at hl 6 rfl) ?_
            refine lv_iconst (v := 1) hx hb dL_back_71 (by decide) ?_
            refine lv_iload hx hb dL_back_72 (lv_at hl 0 rfl) ?_
            refine lv_ishl hx hb dL_back_74 ?_
            refine lv_isub hx hb dL_back_75 ?_
            refine lv_topi (fun x31 ex31 => ?_)
            have h := bd_e h ex31
            refine lv_istore (lv' := [(5, .int x31), (8, .int v4), (7, .int v3), (0, .ref (E.2.2 11 28)), (1, .ref (E.2.2 11 30)), (2, .ref (E.2.2 11 31)), (4, .int y4), (6, .int y6)]) hx hb dL_back_76 hl (by decide) rfl (fun ls hl => ?_)
            exact w_L78 _ _ _ _ _ _ _ _ _ h hP hS (lv_sub hl [3, 4, 5, 6, 0, 7, 2, 1] rfl)
  unfold f_L_back at h
  refine lv_iconst (v := 0) hx hb dL_back_0 (by decide) ?_
  refine lv_istore (lv' := [(4, .int (0 : Int32)), (0, .ref (E.2.2 11 28)), (1, .ref (E.2.2 11 30)), (2, .ref (E.2.2 11 31)), (3, .int a1)]) hx hb dL_back_1 hl (by decide) rfl (fun ls hl => ?_)
  refine lv_iload_n hx hb dL_back_3 rfl (lv_at hl 4 rfl) ?_
  refine lv_istore (lv' := [(5, .int a1), (4, .int (0 : Int32)), (0, .ref (E.2.2 11 28)), (1, .ref (E.2.2 11 30)), (2, .ref (E.2.2 11 31)), (3, .int a1)]) hx hb dL_back_4 hl (by decide) rfl (fun ls hl => ?_)
  refine lv_aload_n hx hb dL_back_6 rfl (lv_at hl 2 rfl) ?_
  obtain ⟨v1, hv1, h⟩ := bO_e h
  refine mw_callSi X (c_L_last l E hA hv1) pk_L_last wm_170 wm_169 ⟨Nat.le_of_ble_eq_true rfl, Nat.le_of_ble_eq_true rfl⟩ ⟨rfl, rfl⟩ hP hS rfl hl.1 (Nat.le_of_ble_eq_true rfl) ⟨Nat.zero_le _, Nat.zero_le _⟩ rfl dL_back_7 (fun H locs hP hS => ?_)
  refine lv_istore (lv' := [(6, .int v1), (5, .int a1), (4, .int (0 : Int32)), (0, .ref (E.2.2 11 28)), (1, .ref (E.2.2 11 30)), (2, .ref (E.2.2 11 31)), (3, .int a1)]) hx hb dL_back_10 hl (by decide) rfl (fun ls hl => ?_)
  exact w_L12 FU _ _ _ _ _ _ _ h hP hS (lv_sub hl [3, 4, 5, 2, 1, 0] rfl)
/-! SealedGroupsLaw.drop -/
noncomputable def f_L_drop_L138  (M : Mem) (K73 : Int32 → Int32 → Int32 → Option Int32) (y4 y5 y6 : Int32) : Option Int32 :=
bd (y6 + (-1 : Int32)) (fun x10 =>
K73 y4 y5 x10)
noncomputable def f_L_drop_L136  (M : Mem) (K73 : Int32 → Int32 → Int32 → Option Int32) (y5 y6 z0 : Int32) : Option Int32 :=
f_L_drop_L138 M K73 z0 y5 y6
noncomputable def f_L_drop_L73  (M : Mem) (K73 : Int32 → Int32 → Int32 → Option Int32) (y4 y5 y6 : Int32) : Option Int32 :=
(if y6 < (M 11 28 0) then
some (y4 - (M 11 28 0))
else
bO (f_L_of M y6 (1 : Int32)) (fun v7 =>
bO (f_L_of M y6 (0 : Int32)) (fun v8 =>
(if v8 = 0 then
(if ((y5 >>> (v7 &&& 31)) &&& (1 : Int32)) = (1 : Int32) then
bd ((y5 - ((1 : Int32) <<< (v7 &&& 31)))) (fun x12 =>
(if y4 ≤ y6 then
f_L_drop_L136 M K73 x12 y6 y4
else
f_L_drop_L136 M K73 x12 y6 y6))
else
f_L_drop_L138 M K73 y4 y5 y6)
else
f_L_drop_L138 M K73 y4 y5 y6))))
noncomputable def f_L_drop_L50  (M : Mem) (K18 : Int32 → Int32 → Int32 → Option Int32) (y3 y5 z0 : Int32) : Option Int32 :=
bd (y5 + (1 : Int32)) (fun x16 =>
K18 y3 z0 x16)
noncomputable def f_L_drop_L48  (M : Mem) (K18 : Int32 → Int32 → Int32 → Option Int32) (y3 y4 y5 : Int32) : Option Int32 :=
f_L_drop_L50 M K18 y3 y5 y4
noncomputable def f_L_drop_L18  (M : Mem) (K18 : Int32 → Int32 → Int32 → Option Int32) (y3 y4 y5 : Int32) : Option Int32 :=
(if (8 : Int32) ≤ y5 then
bO (f_L_of M y3 (6 : Int32)) (fun v4 =>
bd ((y3 - (1 : Int32))) (fun x5 =>
itr (f_L_drop_L73 M) (fun _ _ _ => none) FU y4 v4 x5))
else
gd (inb y5 8) (
(if (M 11 32 (y5).toNatClampNeg) ≤ 0 then
f_L_drop_L48 M K18 y3 y4 y5
else
gd (inb y5 8) (
(if y4 ≤ (M 11 32 (y5).toNatClampNeg) then
f_L_drop_L48 M K18 y3 y4 y5
else
gd (inb y5 8) (
f_L_drop_L50 M K18 y3 y5 (M 11 32 (y5).toNatClampNeg)))))))
noncomputable def f_L_drop  (M : Mem) : Option Int32 :=
bO (f_L_latest M) (fun v1 =>
(if v1 = 0 then
some (0 : Int32)
else
itr (f_L_drop_L18 M) (fun _ _ _ => none) FU v1 v1 (0 : Int32)))
theorem pk_L_drop : Pk "SealedGroupsLaw" yL_drop cL_drop 8 (some .int) 3 := ⟨wm_228, wm_89, rfl, by decide +kernel⟩
set_option maxHeartbeats 4000000 in
set_option maxRecDepth 100000 in
theorem c_L_drop (l : Launch) (E : En) (hA : AdOK E) {M : Mem} {r0 : Int32}  (h : f_L_drop M = some r0) : Met l yL_drop (Wm yL_drop cL_drop 8 (some .int)) ({ frames := 2, cells := 0, slots := 0, locals := 64 } : Room) (va_Pc [Value.ref (E.2.2 11 28), Value.ref (E.2.2 11 31), Value.ref (E.2.2 11 32)] (Wd E M)) (QI E r0 M) 0 0 (AA E) := by
  refine Met.ofW (cc := cL_drop) (maxL := 8) (ret := (some .int)) (by decide +kernel) rfl ?_
  intro p e s m args below meth c s₁ B hml hv
  obtain ⟨rfl, hP, hK⟩ := hv
  have X : Cx E (AA E) p s m c _ cL_drop 8 RL := ⟨⟨B.exec, B.bytes, hml, findClass_of_methodNamed B.named, fun w hw => atoms_spec (ws := Wm yL_drop cL_drop 8 (some .int)) B.pre w (List.mem_cons_of_mem _ hw)⟩, hK, hA, fun _ h => h⟩
  have hx := B.exec
  have hb := B.bytes
  have hr := B.returns
  have hlocks := B.notSynchronized
  clear B hml
  have hS : va_S (AA E) s.heap s.heap [] := va_S.rf
  have hl := lv_entry ([Value.ref (E.2.2 11 28), Value.ref (E.2.2 11 31), Value.ref (E.2.2 11 32)]) (n := 8) (Nat.le_of_ble_eq_true rfl)
  rw [lg_entry_eq]
  generalize (lg_sl ([Value.ref (E.2.2 11 28), Value.ref (E.2.2 11 31), Value.ref (E.2.2 11 32)]) ++ List.replicate (8 - (lg_sl ([Value.ref (E.2.2 11 28), Value.ref (E.2.2 11 31), Value.ref (E.2.2 11 32)])).length) Slot.unset).toArray = ls at hl ⊢
  have hl : lv_has ls 8 [(0, .ref (E.2.2 11 28)), (1, .ref (E.2.2 11 31)), (2, .ref (E.2.2 11 32))] := hl
  have w_L73 : ∀ (n73 : Nat)  (y4 y5 y6 : Int32) (H : Heap) (locs : List Loc) (ls : Array Slot), itr (f_L_drop_L73 M) (fun _ _ _ => none) n73 y4 y5 y6 = some r0 → va_P E.1 vwCl (wl E M) H → va_S (AA E) s.heap H locs → lv_has ls 8 [(0, .ref (E.2.2 11 28)), (1, .ref (E.2.2 11 31)), (4, .int y4), (5, .int y5), (6, .int y6)] → W p l e (headSpec (Wm yL_drop cL_drop 8 (some .int)) ({ frames := 2, cells := 0, slots := 0, locals := 64 } : Room)).room s m ([Value.ref (E.2.2 11 28), Value.ref (E.2.2 11 31), Value.ref (E.2.2 11 32)] : List Value).toArray below meth c H locs 0 0 (MQ below (QI E r0 M) ([Value.ref (E.2.2 11 28), Value.ref (E.2.2 11 31), Value.ref (E.2.2 11 32)] : List Value).toArray s 0 0 (AA E)) (F0 m 73 ls []) := by
    intro n73
    induction n73 with
    | zero => intro y4 y5 y6 H locs ls h; exact (nomatch (show (none : Option Int32) = some _ from h))
    | succ n73 ih73 =>
      intro y4 y5 y6 H locs ls h hP hS hl
      have h : f_L_drop_L73 M (itr (f_L_drop_L73 M) (fun _ _ _ => none) n73) y4 y5 y6 = some r0 := h
      have w_L138 : ∀  (y4 y5 y6 : Int32) (H : Heap) (locs : List Loc) (ls : Array Slot), f_L_drop_L138 M (itr (f_L_drop_L73 M) (fun _ _ _ => none) n73) y4 y5 y6 = some r0 → va_P E.1 vwCl (wl E M) H → va_S (AA E) s.heap H locs → lv_has ls 8 [(0, .ref (E.2.2 11 28)), (1, .ref (E.2.2 11 31)), (4, .int y4), (5, .int y5), (6, .int y6)] → W p l e (headSpec (Wm yL_drop cL_drop 8 (some .int)) ({ frames := 2, cells := 0, slots := 0, locals := 64 } : Room)).room s m ([Value.ref (E.2.2 11 28), Value.ref (E.2.2 11 31), Value.ref (E.2.2 11 32)] : List Value).toArray below meth c H locs 0 0 (MQ below (QI E r0 M) ([Value.ref (E.2.2 11 28), Value.ref (E.2.2 11 31), Value.ref (E.2.2 11 32)] : List Value).toArray s 0 0 (AA E)) (F0 m 138 ls []) := by
        intro y4 y5 y6 H locs ls h hP hS hl
        unfold f_L_drop_L138 at h
        obtain ⟨x10, ex10⟩ : ∃ y : Int32, y = y6 + (-1 : Int32) := ⟨_, rfl⟩
        have h := bd_e h ex10
        refine lv_iinc (v := x10) (lv' := [(6, .int x10), (0, .ref (E.2.2 11 28)), (1, .ref (E.2.2 11 31)), (4, .int y4), (5, .int y5)]) hx hb dL_drop_138 hl (k := 4) rfl (by rw [ex10]; rfl) (by decide) rfl (fun ls hl => ?_)
        refine lv_goto (tgt := 73) hx hb dL_drop_141 (by decide) ?_
        exact ih73 _ _ _ _ _ _ h hP hS (lv_sub hl [1, 2, 3, 4, 0] rfl)
      have w_L136 : ∀  (y5 y6 z0 : Int32) (H : Heap) (locs : List Loc) (ls : Array Slot), f_L_drop_L136 M (itr (f_L_drop_L73 M) (fun _ _ _ => none) n73) y5 y6 z0 = some r0 → va_P E.1 vwCl (wl E M) H → va_S (AA E) s.heap H locs → lv_has ls 8 [(0, .ref (E.2.2 11 28)), (1, .ref (E.2.2 11 31)), (5, .int y5), (6, .int y6)] → W p l e (headSpec (Wm yL_drop cL_drop 8 (some .int)) ({ frames := 2, cells := 0, slots := 0, locals := 64 } : Room)).room s m ([Value.ref (E.2.2 11 28), Value.ref (E.2.2 11 31), Value.ref (E.2.2 11 32)] : List Value).toArray below meth c H locs 0 0 (MQ below (QI E r0 M) ([Value.ref (E.2.2 11 28), Value.ref (E.2.2 11 31), Value.ref (E.2.2 11 32)] : List Value).toArray s 0 0 (AA E)) (F0 m 136 ls [.int z0]) := by
        intro y5 y6 z0 H locs ls h hP hS hl
        unfold f_L_drop_L136 at h
        refine lv_istore (lv' := [(4, .int z0), (0, .ref (E.2.2 11 28)), (1, .ref (E.2.2 11 31)), (5, .int y5), (6, .int y6)]) hx hb dL_drop_136 hl (by decide) rfl (fun ls hl => ?_)
        exact w_L138 _ _ _ _ _ _ h hP hS (lv_sub hl [1, 2, 0, 3, 4] rfl)
      unfold f_L_drop_L73 at h
      refine lv_iload hx hb dL_drop_73 (lv_at hl 4 rfl) ?_
      refine lv_aload_n hx hb dL_drop_75 rfl (lv_at hl 0 rfl) ?_
      refine lv_iconst (v := 0) hx hb dL_drop_76 (by decide) ?_
      refine mw_ld X hP ix_28 rfl (v := (M 11 28 0)) (inb_vp (by decide)) rfl dL_drop_77 ?_
      refine lv_icmp_lt (tgt := 144) hx hb dL_drop_78 (by decide) (fun c6 => ?_) (fun c6 => ?_)
      · have h := br_1 h c6
        refine lv_iload hx hb dL_drop_144 (lv_at hl 2 rfl) ?_
        refine lv_aload_n hx hb dL_drop_146 rfl (lv_at hl 0 rfl) ?_
        refine lv_iconst (v := 0) hx hb dL_drop_147 (by decide) ?_
        refine mw_ld X hP ix_28 rfl (v := (M 11 28 0)) (inb_vp (by decide)) rfl dL_drop_148 ?_
        refine lv_isub hx hb dL_drop_149 ?_
        exact mw_iret X hr hlocks hP hS (Option.some.inj h) rfl dL_drop_150
      · have h := br_0 h c6
        refine lv_aload_n hx hb dL_drop_81 rfl (lv_at hl 1 rfl) ?_
        refine lv_aload_n hx hb dL_drop_82 rfl (lv_at hl 0 rfl) ?_
        refine lv_iload hx hb dL_drop_83 (lv_at hl 4 rfl) ?_
        refine lv_iconst (v := 1) hx hb dL_drop_85 (by decide) ?_
        obtain ⟨v7, hv7, h⟩ := bO_e h
        refine mw_callSi X (c_L_of l E hA hv7) pk_L_of wm_176 wm_175 ⟨Nat.le_of_ble_eq_true rfl, Nat.le_of_ble_eq_true rfl⟩ ⟨rfl, rfl⟩ hP hS rfl hl.1 (Nat.le_of_ble_eq_true rfl) ⟨Nat.zero_le _, Nat.zero_le _⟩ rfl dL_drop_86 (fun H locs hP hS => ?_)
        refine lv_istore (lv' := [(7, .int v7), (0, .ref (E.2.2 11 28)), (1, .ref (E.2.2 11 31)), (4, .int y4), (5, .int y5), (6, .int y6)]) hx hb dL_drop_89 hl (by decide) rfl (fun ls hl => ?_)
        refine lv_aload_n hx hb dL_drop_91 rfl (lv_at hl 2 rfl) ?_
        refine lv_aload_n hx hb dL_drop_92 rfl (lv_at hl 1 rfl) ?_
        refine lv_iload hx hb dL_drop_93 (lv_at hl 5 rfl) ?_
        refine lv_iconst (v := 0) hx hb dL_drop_95 (by decide) ?_
        obtain ⟨v8, hv8, h⟩ := bO_e h
        refine mw_callSi X (c_L_of l E hA hv8) pk_L_of wm_176 wm_175 ⟨Nat.le_of_ble_eq_true rfl, Nat.le_of_ble_eq_true rfl⟩ ⟨rfl, rfl⟩ hP hS rfl hl.1 (Nat.le_of_ble_eq_true rfl) ⟨Nat.zero_le _, Nat.zero_le _⟩ rfl dL_drop_96 (fun H locs hP hS => ?_)
        refine lv_if_ne (tgt := 138) hx hb dL_drop_99 (by decide) (fun c9 => ?_) (fun c9 => ?_)
        · have h := br_0 h c9
          exact w_L138 _ _ _ _ _ _ h hP hS (lv_sub hl [1, 2, 3, 4, 5] rfl)
        · have h := br_1 h c9
          refine lv_iload hx hb dL_drop_102 (lv_at hl 4 rfl) ?_
          refine lv_iload hx hb dL_drop_104 (lv_at hl 0 rfl) ?_
          refine lv_ishr hx hb dL_drop_106 ?_
          refine lv_iconst (v := 1) hx hb dL_drop_107 (by decide) ?_
          refine lv_iand hx hb dL_drop_108 ?_
          refine lv_iconst (v := 1) hx hb dL_drop_109 (by decide) ?_
          refine lv_icmp_ne (tgt := 138) hx hb dL_drop_110 (by decide) (fun c11 => ?_) (fun c11 => ?_)
          · have h := br_0 h c11
            exact w_L138 _ _ _ _ _ _ h hP hS (lv_sub hl [1, 2, 3, 4, 5] rfl)
          · have h := br_1 h c11
            refine lv_iload hx hb dL_drop_113 (lv_at hl 4 rfl) ?_
            refine lv_iconst (v := 1) hx hb dL_drop_115 (by decide) ?_
            refine lv_iload hx hb dL_drop_116 (lv_at hl 0 rfl) ?_
            refine lv_ishl hx hb dL_drop_118 ?_
            refine lv_isub hx hb dL_drop_119 ?_
            refine lv_topi (fun x12 ex12 => ?_)
            have h := bd_e h ex12
            refine lv_istore (lv' := [(5, .int x12), (7, .int v7), (0, .ref (E.2.2 11 28)), (1, .ref (E.2.2 11 31)), (4, .int y4), (6, .int y6)]) hx hb dL_drop_120 hl (by decide) rfl (fun ls hl => ?_)
            refine lv_iload hx hb dL_drop_122 (lv_at hl 5 rfl) ?_
            refine lv_iload hx hb dL_drop_124 (lv_at hl 4 rfl) ?_
            refine lv_icmp_ge (tgt := 134) hx hb dL_drop_126 (by decide) (fun c13 => ?_) (fun c13 => ?_)
            · have h := br_1 h c13
              refine lv_iload hx hb dL_drop_134 (lv_at hl 4 rfl) ?_
              exact w_L136 _ _ _ _ _ _ h hP hS (lv_sub hl [2, 3, 0, 5] rfl)
            · have h := br_0 h c13
              refine lv_iload hx hb dL_drop_129 (lv_at hl 5 rfl) ?_
              refine lv_goto (tgt := 136) hx hb dL_drop_131 (by decide) ?_
              exact w_L136 _ _ _ _ _ _ h hP hS (lv_sub hl [2, 3, 0, 5] rfl)
  have w_L18 : ∀ (n18 : Nat)  (y3 y4 y5 : Int32) (H : Heap) (locs : List Loc) (ls : Array Slot), itr (f_L_drop_L18 M) (fun _ _ _ => none) n18 y3 y4 y5 = some r0 → va_P E.1 vwCl (wl E M) H → va_S (AA E) s.heap H locs → lv_has ls 8 [(0, .ref (E.2.2 11 28)), (1, .ref (E.2.2 11 31)), (2, .ref (E.2.2 11 32)), (3, .int y3), (4, .int y4), (5, .int y5)] → W p l e (headSpec (Wm yL_drop cL_drop 8 (some .int)) ({ frames := 2, cells := 0, slots := 0, locals := 64 } : Room)).room s m ([Value.ref (E.2.2 11 28), Value.ref (E.2.2 11 31), Value.ref (E.2.2 11 32)] : List Value).toArray below meth c H locs 0 0 (MQ below (QI E r0 M) ([Value.ref (E.2.2 11 28), Value.ref (E.2.2 11 31), Value.ref (E.2.2 11 32)] : List Value).toArray s 0 0 (AA E)) (F0 m 18 ls []) := by
    intro n18
    induction n18 with
    | zero => intro y3 y4 y5 H locs ls h; exact (nomatch (show (none : Option Int32) = some _ from h))
    | succ n18 ih18 =>
      intro y3 y4 y5 H locs ls h hP hS hl
      have h : f_L_drop_L18 M (itr (f_L_drop_L18 M) (fun _ _ _ => none) n18) y3 y4 y5 = some r0 := h
      have w_L50 : ∀  (y3 y5 z0 : Int32) (H : Heap) (locs : List Loc) (ls : Array Slot), f_L_drop_L50 M (itr (f_L_drop_L18 M) (fun _ _ _ => none) n18) y3 y5 z0 = some r0 → va_P E.1 vwCl (wl E M) H → va_S (AA E) s.heap H locs → lv_has ls 8 [(0, .ref (E.2.2 11 28)), (1, .ref (E.2.2 11 31)), (2, .ref (E.2.2 11 32)), (3, .int y3), (5, .int y5)] → W p l e (headSpec (Wm yL_drop cL_drop 8 (some .int)) ({ frames := 2, cells := 0, slots := 0, locals := 64 } : Room)).room s m ([Value.ref (E.2.2 11 28), Value.ref (E.2.2 11 31), Value.ref (E.2.2 11 32)] : List Value).toArray below meth c H locs 0 0 (MQ below (QI E r0 M) ([Value.ref (E.2.2 11 28), Value.ref (E.2.2 11 31), Value.ref (E.2.2 11 32)] : List Value).toArray s 0 0 (AA E)) (F0 m 50 ls [.int z0]) := by
        intro y3 y5 z0 H locs ls h hP hS hl
        unfold f_L_drop_L50 at h
        refine lv_istore (lv' := [(4, .int z0), (0, .ref (E.2.2 11 28)), (1, .ref (E.2.2 11 31)), (2, .ref (E.2.2 11 32)), (3, .int y3), (5, .int y5)]) hx hb dL_drop_50 hl (by decide) rfl (fun ls hl => ?_)
        obtain ⟨x16, ex16⟩ : ∃ y : Int32, y = y5 + (1 : Int32) := ⟨_, rfl⟩
        have h := bd_e h ex16
        refine lv_iinc (v := x16) (lv' := [(5, .int x16), (4, .int z0), (0, .ref (E.2.2 11 28)), (1, .ref (E.2.2 11 31)), (2, .ref (E.2.2 11 32)), (3, .int y3)]) hx hb dL_drop_52 hl (k := 5) rfl (by rw [ex16]; rfl) (by decide) rfl (fun ls hl => ?_)
        refine lv_goto (tgt := 18) hx hb dL_drop_55 (by decide) ?_
        exact ih18 _ _ _ _ _ _ h hP hS (lv_sub hl [2, 3, 4, 5, 1, 0] rfl)
      have w_L48 : ∀  (y3 y4 y5 : Int32) (H : Heap) (locs : List Loc) (ls : Array Slot), f_L_drop_L48 M (itr (f_L_drop_L18 M) (fun _ _ _ => none) n18) y3 y4 y5 = some r0 → va_P E.1 vwCl (wl E M) H → va_S (AA E) s.heap H locs → lv_has ls 8 [(0, .ref (E.2.2 11 28)), (1, .ref (E.2.2 11 31)), (2, .ref (E.2.2 11 32)), (3, .int y3), (4, .int y4), (5, .int y5)] → W p l e (headSpec (Wm yL_drop cL_drop 8 (some .int)) ({ frames := 2, cells := 0, slots := 0, locals := 64 } : Room)).room s m ([Value.ref (E.2.2 11 28), Value.ref (E.2.2 11 31), Value.ref (E.2.2 11 32)] : List Value).toArray below meth c H locs 0 0 (MQ below (QI E r0 M) ([Value.ref (E.2.2 11 28), Value.ref (E.2.2 11 31), Value.ref (E.2.2 11 32)] : List Value).toArray s 0 0 (AA E)) (F0 m 48 ls []) := by
        intro y3 y4 y5 H locs ls h hP hS hl
        unfold f_L_drop_L48 at h
        refine lv_iload hx hb dL_drop_48 (lv_at hl 4 rfl) ?_
        exact w_L50 _ _ _ _ _ _ h hP hS (lv_sub hl [0, 1, 2, 3, 5] rfl)
      unfold f_L_drop_L18 at h
      refine lv_iload hx hb dL_drop_18 (lv_at hl 5 rfl) ?_
      refine lv_bipush (v := 8) hx hb dL_drop_20 (by decide) ?_
      refine lv_icmp_ge (tgt := 58) hx hb dL_drop_22 (by decide) (fun c3 => ?_) (fun c3 => ?_)
      · have h := br_1 h c3
        refine lv_aload_n hx hb dL_drop_58 rfl (lv_at hl 1 rfl) ?_
        refine lv_aload_n hx hb dL_drop_59 rfl (lv_at hl 0 rfl) ?_
        refine lv_iload_n hx hb dL_drop_60 rfl (lv_at hl 3 rfl) ?_
        refine lv_bipush (v := 6) hx hb dL_drop_61 (by decide) ?_
        obtain ⟨v4, hv4, h⟩ := bO_e h
        refine mw_callSi X (c_L_of l E hA hv4) pk_L_of wm_176 wm_175 ⟨Nat.le_of_ble_eq_true rfl, Nat.le_of_ble_eq_true rfl⟩ ⟨rfl, rfl⟩ hP hS rfl hl.1 (Nat.le_of_ble_eq_true rfl) ⟨Nat.zero_le _, Nat.zero_le _⟩ rfl dL_drop_63 (fun H locs hP hS => ?_)
        refine lv_istore (lv' := [(5, .int v4), (0, .ref (E.2.2 11 28)), (1, .ref (E.2.2 11 31)), (2, .ref (E.2.2 11 32)), (3, .int y3), (4, .int y4)]) hx hb dL_drop_66 hl (by decide) rfl (fun ls hl => ?_)
        refine lv_iload_n hx hb dL_drop_68 rfl (lv_at hl 4 rfl) ?_
        refine lv_iconst (v := 1) hx hb dL_drop_69 (by decide) ?_
        refine lv_isub hx hb dL_drop_70 ?_
        refine lv_topi (fun x5 ex5 => ?_)
        have h := bd_e h ex5
        refine lv_istore (lv' := [(6, .int x5), (5, .int v4), (0, .ref (E.2.2 11 28)), (1, .ref (E.2.2 11 31)), (2, .ref (E.2.2 11 32)), (3, .int y3), (4, .int y4)]) hx hb dL_drop_71 hl (by decide) rfl (fun ls hl => ?_)
        exact w_L73 FU _ _ _ _ _ _ h hP hS (lv_sub hl [2, 3, 6, 1, 0] rfl)
      · have h := br_0 h c3
        refine lv_aload_n hx hb dL_drop_25 rfl (lv_at hl 2 rfl) ?_
        refine lv_iload hx hb dL_drop_26 (lv_at hl 5 rfl) ?_
        obtain ⟨g14, h⟩ := gd_e h
        refine mw_ld X hP ix_32 rfl (inb_vp g14) rfl dL_drop_28 ?_
        refine lv_if_le (tgt := 48) hx hb dL_drop_29 (by decide) (fun c15 => ?_) (fun c15 => ?_)
        · have h := br_1 h c15
          exact w_L48 _ _ _ _ _ _ h hP hS (lv_sub hl [0, 1, 2, 3, 4, 5] rfl)
        · have h := br_0 h c15
          refine lv_aload_n hx hb dL_drop_32 rfl (lv_at hl 2 rfl) ?_
          refine lv_iload hx hb dL_drop_33 (lv_at hl 5 rfl) ?_
          obtain ⟨g17, h⟩ := gd_e h
          refine mw_ld X hP ix_32 rfl (inb_vp g17) rfl dL_drop_35 ?_
          refine lv_iload hx hb dL_drop_36 (lv_at hl 4 rfl) ?_
          refine lv_icmp_ge (tgt := 48) hx hb dL_drop_38 (by decide) (fun c18 => ?_) (fun c18 => ?_)
          · have h := br_1 h c18
            exact w_L48 _ _ _ _ _ _ h hP hS (lv_sub hl [0, 1, 2, 3, 4, 5] rfl)
          · have h := br_0 h c18
            refine lv_aload_n hx hb dL_drop_41 rfl (lv_at hl 2 rfl) ?_
            refine lv_iload hx hb dL_drop_42 (lv_at hl 5 rfl) ?_
            obtain ⟨g19, h⟩ := gd_e h
            refine mw_ld X hP ix_32 rfl (inb_vp g19) rfl dL_drop_44 ?_
            refine lv_goto (tgt := 50) hx hb dL_drop_45 (by decide) ?_
            exact w_L50 _ _ _ _ _ _ h hP hS (lv_sub hl [0, 1, 2, 3, 5] rfl)
  unfold f_L_drop at h
  refine lv_aload_n hx hb dL_drop_0 rfl (lv_at hl 0 rfl) ?_
  refine lv_aload_n hx hb dL_drop_1 rfl (lv_at hl 1 rfl) ?_
  obtain ⟨v1, hv1, h⟩ := bO_e h
  refine mw_callSi X (c_L_latest l E hA hv1) pk_L_latest wm_224 wm_223 ⟨Nat.le_of_ble_eq_true rfl, Nat.le_of_ble_eq_true rfl⟩ ⟨rfl, rfl⟩ hP hS rfl hl.1 (Nat.le_of_ble_eq_true rfl) ⟨Nat.zero_le _, Nat.zero_le _⟩ rfl dL_drop_2 (fun H locs hP hS => ?_)
  refine lv_istore_n (lv' := [(3, .int v1), (0, .ref (E.2.2 11 28)), (1, .ref (E.2.2 11 31)), (2, .ref (E.2.2 11 32))]) hx hb dL_drop_5 rfl hl (by decide) rfl (fun ls hl => ?_)
  refine lv_iload_n hx hb dL_drop_6 rfl (lv_at hl 0 rfl) ?_
  refine lv_if_ne (tgt := 12) hx hb dL_drop_7 (by decide) (fun c2 => ?_) (fun c2 => ?_)
  · have h := br_0 h c2
    refine lv_iload_n hx hb dL_drop_12 rfl (lv_at hl 0 rfl) ?_
    refine lv_istore (lv' := [(4, .int v1), (3, .int v1), (0, .ref (E.2.2 11 28)), (1, .ref (E.2.2 11 31)), (2, .ref (E.2.2 11 32))]) hx hb dL_drop_13 hl (by decide) rfl (fun ls hl => ?_)
    refine lv_iconst (v := 0) hx hb dL_drop_15 (by decide) ?_
    refine lv_istore (lv' := [(5, .int (0 : Int32)), (4, .int v1), (3, .int v1), (0, .ref (E.2.2 11 28)), (1, .ref (E.2.2 11 31)), (2, .ref (E.2.2 11 32))]) hx hb dL_drop_16 hl (by decide) rfl (fun ls hl => ?_)
    exact w_L18 FU _ _ _ _ _ _ h hP hS (lv_sub hl [3, 4, 5, 2, 1, 0] rfl)
  · have h := br_1 h c2
    refine lv_iconst (v := 0) hx hb dL_drop_10 (by decide) ?_
    exact mw_iret X hr hlocks hP hS (Option.some.inj h) rfl dL_drop_11
/-! SealedGroupsLaw.stop -/
noncomputable def f_L_stop_L178  (K178 : Mem → Int32 → Int32 → Option (Int32 × Mem)) (M : Mem) (y5 y7 : Int32) : Option (Int32 × Mem) :=
(if (16 : Int32) ≤ y7 then
bd (st M 11 28 3 (1 : Int32)) (fun M13 =>
some (y5, M13))
else
gd (inb y7 16) (
bd (st M 11 29 (y7).toNatClampNeg (0 : Int32)) (fun M14 =>
bd (y7 + (1 : Int32)) (fun x16 =>
K178 M14 y5 x16))))
noncomputable def f_L_stop_L152  (K152 : Mem → Int32 → Int32 → Option (Int32 × Mem)) (M : Mem) (y5 y7 : Int32) : Option (Int32 × Mem) :=
(if (8 : Int32) ≤ y7 then
itr (f_L_stop_L178 ) (fun _ _ _ => none) FU M y5 (0 : Int32)
else
gd (inb (((6 : Int32) * y7) + (2 : Int32)) 48) (
bd (st M 11 30 ((((6 : Int32) * y7) + (2 : Int32))).toNatClampNeg (0 : Int32)) (fun M17 =>
bd (y7 + (1 : Int32)) (fun x19 =>
K152 M17 y5 x19))))
noncomputable def f_L_stop_L139  (M : Mem) (y5 z0 z1 z2 : Int32) : Option (Int32 × Mem) :=
gd (inb z2 5) (
bd (st M 11 28 (z2).toNatClampNeg (z1 - z0)) (fun M8 =>
bd (st M8 11 28 1 ((M8 11 28 1) - y5)) (fun M10 =>
itr (f_L_stop_L152 ) (fun _ _ _ => none) FU M10 y5 (0 : Int32))))
noncomputable def f_L_stop_L122  (M : Mem) (y6 z0 z1 : Int32) : Option (Int32 × Mem) :=
bd ((z1 + z0)) (fun x6 =>
(if y6 = 0 then
f_L_stop_L139 M x6 (0 : Int32) (M 11 28 2) (2 : Int32)
else
f_L_stop_L139 M x6 (1 : Int32) (M 11 28 2) (2 : Int32)))
noncomputable def f_L_stop_L110  (M : Mem) (y5 y6 : Int32) : Option (Int32 × Mem) :=
(if y6 = 0 then
f_L_stop_L122 M y6 (0 : Int32) y5
else
f_L_stop_L122 M y6 (1 : Int32) y5)
noncomputable def f_L_stop_L102  (K70 : Mem → Int32 → Int32 → Int32 → Option (Int32 × Mem)) (M : Mem) (y5 y8 z0 : Int32) : Option (Int32 × Mem) :=
bd (y8 + (1 : Int32)) (fun x24 =>
K70 M y5 z0 x24)
noncomputable def f_L_stop_L101  (K70 : Mem → Int32 → Int32 → Int32 → Option (Int32 × Mem)) (M : Mem) (y5 y8 : Int32) : Option (Int32 × Mem) :=
f_L_stop_L102 K70 M y5 y8 (0 : Int32)
noncomputable def f_L_stop_L70  (K70 : Mem → Int32 → Int32 → Int32 → Option (Int32 × Mem)) (M : Mem) (y5 y6 y8 : Int32) : Option (Int32 × Mem) :=
(if (8 : Int32) ≤ y8 then
f_L_stop_L110 M y5 y6
else
(if y6 = 0 then
f_L_stop_L101 K70 M y5 y8
else
gd (inb (((6 : Int32) * y8) + (1 : Int32)) 48) (
(if (M 11 28 2) ≤ (M 11 30 ((((6 : Int32) * y8) + (1 : Int32))).toNatClampNeg) then
f_L_stop_L101 K70 M y5 y8
else
f_L_stop_L102 K70 M y5 y8 (1 : Int32)))))
noncomputable def f_L_stop_L65  (M : Mem) (y5 z0 : Int32) : Option (Int32 × Mem) :=
itr (f_L_stop_L70 ) (fun _ _ _ _ => none) FU M y5 z0 (0 : Int32)
noncomputable def f_L_stop_L64  (M : Mem) (y5 : Int32) : Option (Int32 × Mem) :=
f_L_stop_L65 M y5 (0 : Int32)
noncomputable def f_L_stop_L30  (M : Mem) (y5 z0 : Int32) : Option (Int32 × Mem) :=
(if z0 = 0 then
f_L_stop_L110 M y5 z0
else
bO (f_L_of M (M 11 28 2) (0 : Int32)) (fun v20 =>
(if v20 = (2 : Int32) then
f_L_stop_L64 M y5
else
(if v20 = (5 : Int32) then
f_L_stop_L64 M y5
else
f_L_stop_L65 M y5 (1 : Int32)))))
noncomputable def f_L_stop_L29  (M : Mem) (y5 : Int32) : Option (Int32 × Mem) :=
f_L_stop_L30 M y5 (0 : Int32)
noncomputable def f_L_stop  (M : Mem) (a1 : Int32) : Option (Int32 × Mem) :=
bO (f_L_last M) (fun v1 =>
bd ((v1 - (M 11 28 2))) (fun x2 =>
(if a1 = (1 : Int32) then
(if (M 11 28 2) < (M 11 28 0) then
f_L_stop_L29 M x2
else
f_L_stop_L30 M x2 (1 : Int32))
else
f_L_stop_L29 M x2)))
theorem pk_L_stop : Pk "SealedGroupsLaw" yL_stop cL_stop 9 (some .int) 5 := ⟨wm_532, wm_89, rfl, by decide +kernel⟩
set_option maxHeartbeats 4000000 in
set_option maxRecDepth 100000 in
theorem c_L_stop (l : Launch) (E : En) (hA : AdOK E) {M : Mem} {a1 : Int32} {r0 : Int32} {M0 : Mem}  (h : f_L_stop M a1 = some (r0, M0)) : Met l yL_stop (Wm yL_stop cL_stop 9 (some .int)) ({ frames := 1, cells := 0, slots := 0, locals := 33 } : Room) (va_Pc [Value.ref (E.2.2 11 28), Value.ref (E.2.2 11 29), Value.ref (E.2.2 11 30), Value.ref (E.2.2 11 31), Value.int a1] (Wd E M)) (QI E r0 M0) 0 0 (AA E) := by
  refine Met.ofW (cc := cL_stop) (maxL := 9) (ret := (some .int)) (by decide +kernel) rfl ?_
  intro p e s m args below meth c s₁ B hml hv
  obtain ⟨rfl, hP, hK⟩ := hv
  have X : Cx E (AA E) p s m c _ cL_stop 9 RL := ⟨⟨B.exec, B.bytes, hml, findClass_of_methodNamed B.named, fun w hw => atoms_spec (ws := Wm yL_stop cL_stop 9 (some .int)) B.pre w (List.mem_cons_of_mem _ hw)⟩, hK, hA, fun _ h => h⟩
  have hx := B.exec
  have hb := B.bytes
  have hr := B.returns
  have hlocks := B.notSynchronized
  clear B hml
  have hS : va_S (AA E) s.heap s.heap [] := va_S.rf
  have hl := lv_entry ([Value.ref (E.2.2 11 28), Value.ref (E.2.2 11 29), Value.ref (E.2.2 11 30), Value.ref (E.2.2 11 31), Value.int a1]) (n := 9) (Nat.le_of_ble_eq_true rfl)
  rw [lg_entry_eq]
  generalize (lg_sl ([Value.ref (E.2.2 11 28), Value.ref (E.2.2 11 29), Value.ref (E.2.2 11 30), Value.ref (E.2.2 11 31), Value.int a1]) ++ List.replicate (9 - (lg_sl ([Value.ref (E.2.2 11 28), Value.ref (E.2.2 11 29), Value.ref (E.2.2 11 30), Value.ref (E.2.2 11 31), Value.int a1])).length) Slot.unset).toArray = ls at hl ⊢
  have hl : lv_has ls 9 [(0, .ref (E.2.2 11 28)), (1, .ref (E.2.2 11 29)), (2, .ref (E.2.2 11 30)), (3, .ref (E.2.2 11 31)), (4, .int a1)] := hl
  have w_L178 : ∀ (n178 : Nat) (M : Mem) (y5 y7 : Int32) (H : Heap) (locs : List Loc) (ls : Array Slot), itr (f_L_stop_L178 ) (fun _ _ _ => none) n178 M y5 y7 = some (r0, M0) → va_P E.1 vwCl (wl E M) H → va_S (AA E) s.heap H locs → lv_has ls 9 [(0, .ref (E.2.2 11 28)), (1, .ref (E.2.2 11 29)), (5, .int y5), (7, .int y7)] → W p l e (headSpec (Wm yL_stop cL_stop 9 (some .int)) ({ frames := 1, cells := 0, slots := 0, locals := 33 } : Room)).room s m ([Value.ref (E.2.2 11 28), Value.ref (E.2.2 11 29), Value.ref (E.2.2 11 30), Value.ref (E.2.2 11 31), Value.int a1] : List Value).toArray below meth c H locs 0 0 (MQ below (QI E r0 M0) ([Value.ref (E.2.2 11 28), Value.ref (E.2.2 11 29), Value.ref (E.2.2 11 30), Value.ref (E.2.2 11 31), Value.int a1] : List Value).toArray s 0 0 (AA E)) (F0 m 178 ls []) := by
    intro n178
    induction n178 with
    | zero => intro M y5 y7 H locs ls h; exact (nomatch (show (none : Option (Int32 × Mem)) = some _ from h))
    | succ n178 ih178 =>
      intro M y5 y7 H locs ls h hP hS hl
      have h : f_L_stop_L178 (itr (f_L_stop_L178 ) (fun _ _ _ => none) n178) M y5 y7 = some (r0, M0) := h
      unfold f_L_stop_L178 at h
      refine lv_iload hx hb dL_stop_178 (lv_at hl 3 rfl) ?_
      refine lv_bipush (v := 16) hx hb dL_stop_180 (by decide) ?_
      refine lv_icmp_ge (tgt := 196) hx hb dL_stop_182 (by decide) (fun c12 => ?_) (fun c12 => ?_)
      · have h := br_1 h c12
        refine lv_aload_n hx hb dL_stop_196 rfl (lv_at hl 0 rfl) ?_
        refine lv_iconst (v := 3) hx hb dL_stop_197 (by decide) ?_
        refine lv_iconst (v := 1) hx hb dL_stop_198 (by decide) ?_
        refine mw_st X hP hS ix_28 (fun _ => rfl) (j := 3) (inb_vp (by decide)) rfl dL_stop_199 (fun H locs M13 eM13 hP hS => ?_)
        have h := bd_e h eM13
        refine lv_iload hx hb dL_stop_200 (lv_at hl 2 rfl) ?_
        have h := Option.some.inj h
        exact mw_iret X hr hlocks hP hS (congrArg Prod.fst h) (congrArg Prod.snd h) dL_stop_202
      · have h := br_0 h c12
        refine lv_aload_n hx hb dL_stop_185 rfl (lv_at hl 1 rfl) ?_
        refine lv_iload hx hb dL_stop_186 (lv_at hl 3 rfl) ?_
        refine lv_iconst (v := 0) hx hb dL_stop_188 (by decide) ?_
        obtain ⟨g15, h⟩ := gd_e h
        refine mw_st X hP hS ix_29 (fun _ => rfl) (inb_vp g15) rfl dL_stop_189 (fun H locs M14 eM14 hP hS => ?_)
        have h := bd_e h eM14
        obtain ⟨x16, ex16⟩ : ∃ y : Int32, y = y7 + (1 : Int32) := ⟨_, rfl⟩
        have h := bd_e h ex16
        refine lv_iinc (v := x16) (lv' := [(7, .int x16), (0, .ref (E.2.2 11 28)), (1, .ref (E.2.2 11 29)), (5, .int y5)]) hx hb dL_stop_190 hl (k := 3) rfl (by rw [ex16]; rfl) (by decide) rfl (fun ls hl => ?_)
        refine lv_goto (tgt := 178) hx hb dL_stop_193 (by decide) ?_
        exact ih178 _ _ _ _ _ _ h hP hS (lv_sub hl [1, 2, 3, 0] rfl)
  have w_L152 : ∀ (n152 : Nat) (M : Mem) (y5 y7 : Int32) (H : Heap) (locs : List Loc) (ls : Array Slot), itr (f_L_stop_L152 ) (fun _ _ _ => none) n152 M y5 y7 = some (r0, M0) → va_P E.1 vwCl (wl E M) H → va_S (AA E) s.heap H locs → lv_has ls 9 [(0, .ref (E.2.2 11 28)), (1, .ref (E.2.2 11 29)), (2, .ref (E.2.2 11 30)), (5, .int y5), (7, .int y7)] → W p l e (headSpec (Wm yL_stop cL_stop 9 (some .int)) ({ frames := 1, cells := 0, slots := 0, locals := 33 } : Room)).room s m ([Value.ref (E.2.2 11 28), Value.ref (E.2.2 11 29), Value.ref (E.2.2 11 30), Value.ref (E.2.2 11 31), Value.int a1] : List Value).toArray below meth c H locs 0 0 (MQ below (QI E r0 M0) ([Value.ref (E.2.2 11 28), Value.ref (E.2.2 11 29), Value.ref (E.2.2 11 30), Value.ref (E.2.2 11 31), Value.int a1] : List Value).toArray s 0 0 (AA E)) (F0 m 152 ls []) := by
    intro n152
    induction n152 with
    | zero => intro M y5 y7 H locs ls h; exact (nomatch (show (none : Option (Int32 × Mem)) = some _ from h))
    | succ n152 ih152 =>
      intro M y5 y7 H locs ls h hP hS hl
      have h : f_L_stop_L152 (itr (f_L_stop_L152 ) (fun _ _ _ => none) n152) M y5 y7 = some (r0, M0) := h
      unfold f_L_stop_L152 at h
      refine lv_iload hx hb dL_stop_152 (lv_at hl 4 rfl) ?_
      refine lv_bipush (v := 8) hx hb dL_stop_154 (by decide) ?_
      refine lv_icmp_ge (tgt := 175) hx hb dL_stop_156 (by decide) (fun c11 => ?_) (fun c11 => ?_)
      · have h := br_1 h c11
        refine lv_iconst (v := 0) hx hb dL_stop_175 (by decide) ?_
        refine lv_istore (lv' := [(7, .int (0 : Int32)), (0, .ref (E.2.2 11 28)), (1, .ref (E.2.2 11 29)), (2, .ref (E.2.2 11 30)), (5, .int y5)]) hx hb dL_stop_176 hl (by decide) rfl (fun ls hl => ?_)
        exact w_L178 FU _ _ _ _ _ _ h hP hS (lv_sub hl [1, 2, 4, 0] rfl)
      · have h := br_0 h c11
        refine lv_aload_n hx hb dL_stop_159 rfl (lv_at hl 2 rfl) ?_
        refine lv_bipush (v := 6) hx hb dL_stop_160 (by decide) ?_
        refine lv_iload hx hb dL_stop_162 (lv_at hl 4 rfl) ?_
        refine lv_imul hx hb dL_stop_164 ?_
        refine lv_iconst (v := 2) hx hb dL_stop_165 (by decide) ?_
        refine lv_iadd hx hb dL_stop_166 ?_
        refine lv_iconst (v := 0) hx hb dL_stop_167 (by decide) ?_
        obtain ⟨g18, h⟩ := gd_e h
        refine mw_st X hP hS ix_30 (fun _ => rfl) (inb_vp g18) rfl dL_stop_168 (fun H locs M17 eM17 hP hS => ?_)
        have h := bd_e h eM17
        obtain ⟨x19, ex19⟩ : ∃ y : Int32, y = y7 + (1 : Int32) := ⟨_, rfl⟩
        have h := bd_e h ex19
        refine lv_iinc (v := x19) (lv' := [(7, .int x19), (0, .ref (E.2.2 11 28)), (1, .ref (E.2.2 11 29)), (2, .ref (E.2.2 11 30)), (5, .int y5)]) hx hb dL_stop_169 hl (k := 4) rfl (by rw [ex19]; rfl) (by decide) rfl (fun ls hl => ?_)
        refine lv_goto (tgt := 152) hx hb dL_stop_172 (by decide) ?_
        exact ih152 _ _ _ _ _ _ h hP hS (lv_sub hl [1, 2, 3, 4, 0] rfl)
  have w_L139 : ∀ (M : Mem) (y5 z0 z1 z2 : Int32) (H : Heap) (locs : List Loc) (ls : Array Slot), f_L_stop_L139  M y5 z0 z1 z2 = some (r0, M0) → va_P E.1 vwCl (wl E M) H → va_S (AA E) s.heap H locs → lv_has ls 9 [(0, .ref (E.2.2 11 28)), (1, .ref (E.2.2 11 29)), (2, .ref (E.2.2 11 30)), (5, .int y5)] → W p l e (headSpec (Wm yL_stop cL_stop 9 (some .int)) ({ frames := 1, cells := 0, slots := 0, locals := 33 } : Room)).room s m ([Value.ref (E.2.2 11 28), Value.ref (E.2.2 11 29), Value.ref (E.2.2 11 30), Value.ref (E.2.2 11 31), Value.int a1] : List Value).toArray below meth c H locs 0 0 (MQ below (QI E r0 M0) ([Value.ref (E.2.2 11 28), Value.ref (E.2.2 11 29), Value.ref (E.2.2 11 30), Value.ref (E.2.2 11 31), Value.int a1] : List Value).toArray s 0 0 (AA E)) (F0 m 139 ls [.int z0, .int z1, .int z2, .ref (E.2.2 11 28)]) := by
    intro M y5 z0 z1 z2 H locs ls h hP hS hl
    unfold f_L_stop_L139 at h
    refine lv_isub hx hb dL_stop_139 ?_
    obtain ⟨g9, h⟩ := gd_e h
    refine mw_st X hP hS ix_28 (fun _ => rfl) (inb_vp g9) rfl dL_stop_140 (fun H locs M8 eM8 hP hS => ?_)
    have h := bd_e h eM8
    refine lv_aload_n hx hb dL_stop_141 rfl (lv_at hl 0 rfl) ?_
    refine lv_iconst (v := 1) hx hb dL_stop_142 (by decide) ?_
    refine lv_dup2_11 hx hb dL_stop_143 rfl rfl ?_
    refine mw_ld X hP ix_28 rfl (v := (M8 11 28 1)) (inb_vp (by decide)) rfl dL_stop_144 ?_
    refine lv_iload hx hb dL_stop_145 (lv_at hl 3 rfl) ?_
    refine lv_isub hx hb dL_stop_147 ?_
    refine mw_st X hP hS ix_28 (fun _ => rfl) (j := 1) (inb_vp (by decide)) rfl dL_stop_148 (fun H locs M10 eM10 hP hS => ?_)
    have h := bd_e h eM10
    refine lv_iconst (v := 0) hx hb dL_stop_149 (by decide) ?_
    refine lv_istore (lv' := [(7, .int (0 : Int32)), (0, .ref (E.2.2 11 28)), (1, .ref (E.2.2 11 29)), (2, .ref (E.2.2 11 30)), (5, .int y5)]) hx hb dL_stop_150 hl (by decide) rfl (fun ls hl => ?_)
    exact w_L152 FU _ _ _ _ _ _ h hP hS (lv_sub hl [1, 2, 3, 4, 0] rfl)
  have w_L122 : ∀ (M : Mem) (y6 z0 z1 : Int32) (H : Heap) (locs : List Loc) (ls : Array Slot), f_L_stop_L122  M y6 z0 z1 = some (r0, M0) → va_P E.1 vwCl (wl E M) H → va_S (AA E) s.heap H locs → lv_has ls 9 [(0, .ref (E.2.2 11 28)), (1, .ref (E.2.2 11 29)), (2, .ref (E.2.2 11 30)), (6, .int y6)] → W p l e (headSpec (Wm yL_stop cL_stop 9 (some .int)) ({ frames := 1, cells := 0, slots := 0, locals := 33 } : Room)).room s m ([Value.ref (E.2.2 11 28), Value.ref (E.2.2 11 29), Value.ref (E.2.2 11 30), Value.ref (E.2.2 11 31), Value.int a1] : List Value).toArray below meth c H locs 0 0 (MQ below (QI E r0 M0) ([Value.ref (E.2.2 11 28), Value.ref (E.2.2 11 29), Value.ref (E.2.2 11 30), Value.ref (E.2.2 11 31), Value.int a1] : List Value).toArray s 0 0 (AA E)) (F0 m 122 ls [.int z0, .int z1]) := by
    intro M y6 z0 z1 H locs ls h hP hS hl
    unfold f_L_stop_L122 at h
    refine lv_iadd hx hb dL_stop_122 ?_
    refine lv_topi (fun x6 ex6 => ?_)
    have h := bd_e h ex6
    refine lv_istore (lv' := [(5, .int x6), (0, .ref (E.2.2 11 28)), (1, .ref (E.2.2 11 29)), (2, .ref (E.2.2 11 30)), (6, .int y6)]) hx hb dL_stop_123 hl (by decide) rfl (fun ls hl => ?_)
    refine lv_aload_n hx hb dL_stop_125 rfl (lv_at hl 1 rfl) ?_
    refine lv_iconst (v := 2) hx hb dL_stop_126 (by decide) ?_
    refine lv_dup2_11 hx hb dL_stop_127 rfl rfl ?_
    refine mw_ld X hP ix_28 rfl (v := (M 11 28 2)) (inb_vp (by decide)) rfl dL_stop_128 ?_
    refine lv_iload hx hb dL_stop_129 (lv_at hl 4 rfl) ?_
    refine lv_if_eq (tgt := 138) hx hb dL_stop_131 (by decide) (fun c7 => ?_) (fun c7 => ?_)
    · have h := br_1 h c7
      refine lv_iconst (v := 0) hx hb dL_stop_138 (by decide) ?_
      exact w_L139 _ _ _ _ _ _ _ _ h hP hS (lv_sub hl [1, 2, 3, 0] rfl)
    · have h := br_0 h c7
      refine lv_iconst (v := 1) hx hb dL_stop_134 (by decide) ?_
      refine lv_goto (tgt := 139) hx hb dL_stop_135 (by decide) ?_
      exact w_L139 _ _ _ _ _ _ _ _ h hP hS (lv_sub hl [1, 2, 3, 0] rfl)
  have w_L110 : ∀ (M : Mem) (y5 y6 : Int32) (H : Heap) (locs : List Loc) (ls : Array Slot), f_L_stop_L110  M y5 y6 = some (r0, M0) → va_P E.1 vwCl (wl E M) H → va_S (AA E) s.heap H locs → lv_has ls 9 [(0, .ref (E.2.2 11 28)), (1, .ref (E.2.2 11 29)), (2, .ref (E.2.2 11 30)), (5, .int y5), (6, .int y6)] → W p l e (headSpec (Wm yL_stop cL_stop 9 (some .int)) ({ frames := 1, cells := 0, slots := 0, locals := 33 } : Room)).room s m ([Value.ref (E.2.2 11 28), Value.ref (E.2.2 11 29), Value.ref (E.2.2 11 30), Value.ref (E.2.2 11 31), Value.int a1] : List Value).toArray below meth c H locs 0 0 (MQ below (QI E r0 M0) ([Value.ref (E.2.2 11 28), Value.ref (E.2.2 11 29), Value.ref (E.2.2 11 30), Value.ref (E.2.2 11 31), Value.int a1] : List Value).toArray s 0 0 (AA E)) (F0 m 110 ls []) := by
    intro M y5 y6 H locs ls h hP hS hl
    unfold f_L_stop_L110 at h
    refine lv_iload hx hb dL_stop_110 (lv_at hl 3 rfl) ?_
    refine lv_iload hx hb dL_stop_112 (lv_at hl 4 rfl) ?_
    refine lv_if_eq (tgt := 121) hx hb dL_stop_114 (by decide) (fun c5 => ?_) (fun c5 => ?_)
    · have h := br_1 h c5
      refine lv_iconst (v := 0) hx hb dL_stop_121 (by decide) ?_
      exact w_L122 _ _ _ _ _ _ _ h hP hS (lv_sub hl [0, 1, 2, 4] rfl)
    · have h := br_0 h c5
      refine lv_iconst (v := 1) hx hb dL_stop_117 (by decide) ?_
      refine lv_goto (tgt := 122) hx hb dL_stop_118 (by decide) ?_
      exact w_L122 _ _ _ _ _ _ _ h hP hS (lv_sub hl [0, 1, 2, 4] rfl)
  have w_L70 : ∀ (n70 : Nat) (M : Mem) (y5 y6 y8 : Int32) (H : Heap) (locs : List Loc) (ls : Array Slot), itr (f_L_stop_L70 ) (fun _ _ _ _ => none) n70 M y5 y6 y8 = some (r0, M0) → va_P E.1 vwCl (wl E M) H → va_S (AA E) s.heap H locs → lv_has ls 9 [(0, .ref (E.2.2 11 28)), (1, .ref (E.2.2 11 29)), (2, .ref (E.2.2 11 30)), (5, .int y5), (6, .int y6), (8, .int y8)] → W p l e (headSpec (Wm yL_stop cL_stop 9 (some .int)) ({ frames := 1, cells := 0, slots := 0, locals := 33 } : Room)).room s m ([Value.ref (E.2.2 11 28), Value.ref (E.2.2 11 29), Value.ref (E.2.2 11 30), Value.ref (E.2.2 11 31), Value.int a1] : List Value).toArray below meth c H locs 0 0 (MQ below (QI E r0 M0) ([Value.ref (E.2.2 11 28), Value.ref (E.2.2 11 29), Value.ref (E.2.2 11 30), Value.ref (E.2.2 11 31), Value.int a1] : List Value).toArray s 0 0 (AA E)) (F0 m 70 ls []) := by
    intro n70
    induction n70 with
    | zero => intro M y5 y6 y8 H locs ls h; exact (nomatch (show (none : Option (Int32 × Mem)) = some _ from h))
    | succ n70 ih70 =>
      intro M y5 y6 y8 H locs ls h hP hS hl
      have h : f_L_stop_L70 (itr (f_L_stop_L70 ) (fun _ _ _ _ => none) n70) M y5 y6 y8 = some (r0, M0) := h
      have w_L102 : ∀ (M : Mem) (y5 y8 z0 : Int32) (H : Heap) (locs : List Loc) (ls : Array Slot), f_L_stop_L102 (itr (f_L_stop_L70 ) (fun _ _ _ _ => none) n70) M y5 y8 z0 = some (r0, M0) → va_P E.1 vwCl (wl E M) H → va_S (AA E) s.heap H locs → lv_has ls 9 [(0, .ref (E.2.2 11 28)), (1, .ref (E.2.2 11 29)), (2, .ref (E.2.2 11 30)), (5, .int y5), (8, .int y8)] → W p l e (headSpec (Wm yL_stop cL_stop 9 (some .int)) ({ frames := 1, cells := 0, slots := 0, locals := 33 } : Room)).room s m ([Value.ref (E.2.2 11 28), Value.ref (E.2.2 11 29), Value.ref (E.2.2 11 30), Value.ref (E.2.2 11 31), Value.int a1] : List Value).toArray below meth c H locs 0 0 (MQ below (QI E r0 M0) ([Value.ref (E.2.2 11 28), Value.ref (E.2.2 11 29), Value.ref (E.2.2 11 30), Value.ref (E.2.2 11 31), Value.int a1] : List Value).toArray s 0 0 (AA E)) (F0 m 102 ls [.int z0]) := by
        intro M y5 y8 z0 H locs ls h hP hS hl
        unfold f_L_stop_L102 at h
        refine lv_istore (lv' := [(6, .int z0), (0, .ref (E.2.2 11 28)), (1, .ref (E.2.2 11 29)), (2, .ref (E.2.2 11 30)), (5, .int y5), (8, .int y8)]) hx hb dL_stop_102 hl (by decide) rfl (fun ls hl => ?_)
        obtain ⟨x24, ex24⟩ : ∃ y : Int32, y = y8 + (1 : Int32) := ⟨_, rfl⟩
        have h := bd_e h ex24
        refine lv_iinc (v := x24) (lv' := [(8, .int x24), (6, .int z0), (0, .ref (E.2.2 11 28)), (1, .ref (E.2.2 11 29)), (2, .ref (E.2.2 11 30)), (5, .int y5)]) hx hb dL_stop_104 hl (k := 5) rfl (by rw [ex24]; rfl) (by decide) rfl (fun ls hl => ?_)
        refine lv_goto (tgt := 70) hx hb dL_stop_107 (by decide) ?_
        exact ih70 _ _ _ _ _ _ _ h hP hS (lv_sub hl [2, 3, 4, 5, 1, 0] rfl)
      have w_L101 : ∀ (M : Mem) (y5 y8 : Int32) (H : Heap) (locs : List Loc) (ls : Array Slot), f_L_stop_L101 (itr (f_L_stop_L70 ) (fun _ _ _ _ => none) n70) M y5 y8 = some (r0, M0) → va_P E.1 vwCl (wl E M) H → va_S (AA E) s.heap H locs → lv_has ls 9 [(0, .ref (E.2.2 11 28)), (1, .ref (E.2.2 11 29)), (2, .ref (E.2.2 11 30)), (5, .int y5), (8, .int y8)] → W p l e (headSpec (Wm yL_stop cL_stop 9 (some .int)) ({ frames := 1, cells := 0, slots := 0, locals := 33 } : Room)).room s m ([Value.ref (E.2.2 11 28), Value.ref (E.2.2 11 29), Value.ref (E.2.2 11 30), Value.ref (E.2.2 11 31), Value.int a1] : List Value).toArray below meth c H locs 0 0 (MQ below (QI E r0 M0) ([Value.ref (E.2.2 11 28), Value.ref (E.2.2 11 29), Value.ref (E.2.2 11 30), Value.ref (E.2.2 11 31), Value.int a1] : List Value).toArray s 0 0 (AA E)) (F0 m 101 ls []) := by
        intro M y5 y8 H locs ls h hP hS hl
        unfold f_L_stop_L101 at h
        refine lv_iconst (v := 0) hx hb dL_stop_101 (by decide) ?_
        exact w_L102 _ _ _ _ _ _ _ h hP hS (lv_sub hl [0, 1, 2, 3, 4] rfl)
      unfold f_L_stop_L70 at h
      refine lv_iload hx hb dL_stop_70 (lv_at hl 5 rfl) ?_
      refine lv_bipush (v := 8) hx hb dL_stop_72 (by decide) ?_
      refine lv_icmp_ge (tgt := 110) hx hb dL_stop_74 (by decide) (fun c22 => ?_) (fun c22 => ?_)
      · have h := br_1 h c22
        exact w_L110 _ _ _ _ _ _ h hP hS (lv_sub hl [0, 1, 2, 3, 4] rfl)
      · have h := br_0 h c22
        refine lv_iload hx hb dL_stop_77 (lv_at hl 4 rfl) ?_
        refine lv_if_eq (tgt := 101) hx hb dL_stop_79 (by decide) (fun c23 => ?_) (fun c23 => ?_)
        · have h := br_1 h c23
          exact w_L101 _ _ _ _ _ _ h hP hS (lv_sub hl [0, 1, 2, 3, 5] rfl)
        · have h := br_0 h c23
          refine lv_aload_n hx hb dL_stop_82 rfl (lv_at hl 0 rfl) ?_
          refine lv_iconst (v := 2) hx hb dL_stop_83 (by decide) ?_
          refine mw_ld X hP ix_28 rfl (v := (M 11 28 2)) (inb_vp (by decide)) rfl dL_stop_84 ?_
          refine lv_aload_n hx hb dL_stop_85 rfl (lv_at hl 2 rfl) ?_
          refine lv_bipush (v := 6) hx hb dL_stop_86 (by decide) ?_
          refine lv_iload hx hb dL_stop_88 (lv_at hl 5 rfl) ?_
          refine lv_imul hx hb dL_stop_90 ?_
          refine lv_iconst (v := 1) hx hb dL_stop_91 (by decide) ?_
          refine lv_iadd hx hb dL_stop_92 ?_
          obtain ⟨g25, h⟩ := gd_e h
          refine mw_ld X hP ix_30 rfl (inb_vp g25) rfl dL_stop_93 ?_
          refine lv_icmp_le (tgt := 101) hx hb dL_stop_94 (by decide) (fun c26 => ?_) (fun c26 => ?_)
          · have h := br_1 h c26
            exact w_L101 _ _ _ _ _ _ h hP hS (lv_sub hl [0, 1, 2, 3, 5] rfl)
          · have h := br_0 h c26
            refine lv_iconst (v := 1) hx hb dL_stop_97 (by decide) ?_
            refine lv_goto (tgt := 102) hx hb dL_stop_98 (by decide) ?_
            exact w_L102 _ _ _ _ _ _ _ h hP hS (lv_sub hl [0, 1, 2, 3, 5] rfl)
  have w_L65 : ∀ (M : Mem) (y5 z0 : Int32) (H : Heap) (locs : List Loc) (ls : Array Slot), f_L_stop_L65  M y5 z0 = some (r0, M0) → va_P E.1 vwCl (wl E M) H → va_S (AA E) s.heap H locs → lv_has ls 9 [(0, .ref (E.2.2 11 28)), (1, .ref (E.2.2 11 29)), (2, .ref (E.2.2 11 30)), (5, .int y5)] → W p l e (headSpec (Wm yL_stop cL_stop 9 (some .int)) ({ frames := 1, cells := 0, slots := 0, locals := 33 } : Room)).room s m ([Value.ref (E.2.2 11 28), Value.ref (E.2.2 11 29), Value.ref (E.2.2 11 30), Value.ref (E.2.2 11 31), Value.int a1] : List Value).toArray below meth c H locs 0 0 (MQ below (QI E r0 M0) ([Value.ref (E.2.2 11 28), Value.ref (E.2.2 11 29), Value.ref (E.2.2 11 30), Value.ref (E.2.2 11 31), Value.int a1] : List Value).toArray s 0 0 (AA E)) (F0 m 65 ls [.int z0]) := by
    intro M y5 z0 H locs ls h hP hS hl
    unfold f_L_stop_L65 at h
    refine lv_istore (lv' := [(6, .int z0), (0, .ref (E.2.2 11 28)), (1, .ref (E.2.2 11 29)), (2, .ref (E.2.2 11 30)), (5, .int y5)]) hx hb dL_stop_65 hl (by decide) rfl (fun ls hl => ?_)
    refine lv_iconst (v := 0) hx hb dL_stop_67 (by decide) ?_
    refine lv_istore (lv' := [(8, .int (0 : Int32)), (6, .int z0), (0, .ref (E.2.2 11 28)), (1, .ref (E.2.2 11 29)), (2, .ref (E.2.2 11 30)), (5, .int y5)]) hx hb dL_stop_68 hl (by decide) rfl (fun ls hl => ?_)
    exact w_L70 FU _ _ _ _ _ _ _ h hP hS (lv_sub hl [2, 3, 4, 5, 1, 0] rfl)
  have w_L64 : ∀ (M : Mem) (y5 : Int32) (H : Heap) (locs : List Loc) (ls : Array Slot), f_L_stop_L64  M y5 = some (r0, M0) → va_P E.1 vwCl (wl E M) H → va_S (AA E) s.heap H locs → lv_has ls 9 [(0, .ref (E.2.2 11 28)), (1, .ref (E.2.2 11 29)), (2, .ref (E.2.2 11 30)), (5, .int y5)] → W p l e (headSpec (Wm yL_stop cL_stop 9 (some .int)) ({ frames := 1, cells := 0, slots := 0, locals := 33 } : Room)).room s m ([Value.ref (E.2.2 11 28), Value.ref (E.2.2 11 29), Value.ref (E.2.2 11 30), Value.ref (E.2.2 11 31), Value.int a1] : List Value).toArray below meth c H locs 0 0 (MQ below (QI E r0 M0) ([Value.ref (E.2.2 11 28), Value.ref (E.2.2 11 29), Value.ref (E.2.2 11 30), Value.ref (E.2.2 11 31), Value.int a1] : List Value).toArray s 0 0 (AA E)) (F0 m 64 ls []) := by
    intro M y5 H locs ls h hP hS hl
    unfold f_L_stop_L64 at h
    refine lv_iconst (v := 0) hx hb dL_stop_64 (by decide) ?_
    exact w_L65 _ _ _ _ _ _ h hP hS (lv_sub hl [0, 1, 2, 3] rfl)
  have w_L30 : ∀ (M : Mem) (y5 z0 : Int32) (H : Heap) (locs : List Loc) (ls : Array Slot), f_L_stop_L30  M y5 z0 = some (r0, M0) → va_P E.1 vwCl (wl E M) H → va_S (AA E) s.heap H locs → lv_has ls 9 [(0, .ref (E.2.2 11 28)), (1, .ref (E.2.2 11 29)), (2, .ref (E.2.2 11 30)), (3, .ref (E.2.2 11 31)), (5, .int y5)] → W p l e (headSpec (Wm yL_stop cL_stop 9 (some .int)) ({ frames := 1, cells := 0, slots := 0, locals := 33 } : Room)).room s m ([Value.ref (E.2.2 11 28), Value.ref (E.2.2 11 29), Value.ref (E.2.2 11 30), Value.ref (E.2.2 11 31), Value.int a1] : List Value).toArray below meth c H locs 0 0 (MQ below (QI E r0 M0) ([Value.ref (E.2.2 11 28), Value.ref (E.2.2 11 29), Value.ref (E.2.2 11 30), Value.ref (E.2.2 11 31), Value.int a1] : List Value).toArray s 0 0 (AA E)) (F0 m 30 ls [.int z0]) := by
    intro M y5 z0 H locs ls h hP hS hl
    unfold f_L_stop_L30 at h
    refine lv_istore (lv' := [(6, .int z0), (0, .ref (E.2.2 11 28)), (1, .ref (E.2.2 11 29)), (2, .ref (E.2.2 11 30)), (3, .ref (E.2.2 11 31)), (5, .int y5)]) hx hb dL_stop_30 hl (by decide) rfl (fun ls hl => ?_)
    refine lv_iload hx hb dL_stop_32 (lv_at hl 0 rfl) ?_
    refine lv_if_eq (tgt := 110) hx hb dL_stop_34 (by decide) (fun c4 => ?_) (fun c4 => ?_)
    · have h := br_1 h c4
      exact w_L110 _ _ _ _ _ _ h hP hS (lv_sub hl [1, 2, 3, 5, 0] rfl)
    · have h := br_0 h c4
      refine lv_aload_n hx hb dL_stop_37 rfl (lv_at hl 4 rfl) ?_
      refine lv_aload_n hx hb dL_stop_38 rfl (lv_at hl 1 rfl) ?_
      refine lv_aload_n hx hb dL_stop_39 rfl (lv_at hl 1 rfl) ?_
      refine lv_iconst (v := 2) hx hb dL_stop_40 (by decide) ?_
      refine mw_ld X hP ix_28 rfl (v := (M 11 28 2)) (inb_vp (by decide)) rfl dL_stop_41 ?_
      refine lv_iconst (v := 0) hx hb dL_stop_42 (by decide) ?_
      obtain ⟨v20, hv20, h⟩ := bO_e h
      refine mw_callSi X (c_L_of l E hA hv20) pk_L_of wm_176 wm_175 ⟨Nat.le_of_ble_eq_true rfl, Nat.le_of_ble_eq_true rfl⟩ ⟨rfl, rfl⟩ hP hS rfl hl.1 (Nat.le_of_ble_eq_true rfl) ⟨Nat.zero_le _, Nat.zero_le _⟩ rfl dL_stop_43 (fun H locs hP hS => ?_)
      refine lv_istore (lv' := [(7, .int v20), (6, .int z0), (0, .ref (E.2.2 11 28)), (1, .ref (E.2.2 11 29)), (2, .ref (E.2.2 11 30)), (3, .ref (E.2.2 11 31)), (5, .int y5)]) hx hb dL_stop_46 hl (by decide) rfl (fun ls hl => ?_)
      refine lv_iload hx hb dL_stop_48 (lv_at hl 0 rfl) ?_
      refine lv_iconst (v := 2) hx hb dL_stop_50 (by decide) ?_
      refine lv_icmp_eq (tgt := 64) hx hb dL_stop_51 (by decide) (fun c21 => ?_) (fun c21 => ?_)
      · have h := br_1 h c21
        exact w_L64 _ _ _ _ _ h hP hS (lv_sub hl [2, 3, 4, 6] rfl)
      · have h := br_0 h c21
        refine lv_iload hx hb dL_stop_54 (lv_at hl 0 rfl) ?_
        refine lv_iconst (v := 5) hx hb dL_stop_56 (by decide) ?_
        refine lv_icmp_eq (tgt := 64) hx hb dL_stop_57 (by decide) (fun c27 => ?_) (fun c27 => ?_)
        · have h := br_1 h c27
          exact w_L64 _ _ _ _ _ h hP hS (lv_sub hl [2, 3, 4, 6] rfl)
        · have h := br_0 h c27
          refine lv_iconst (v := 1) hx hb dL_stop_60 (by decide) ?_
          refine lv_goto (tgt := 65) hx hb dL_stop_61 (by decide) ?_
          exact w_L65 _ _ _ _ _ _ h hP hS (lv_sub hl [2, 3, 4, 6] rfl)
  have w_L29 : ∀ (M : Mem) (y5 : Int32) (H : Heap) (locs : List Loc) (ls : Array Slot), f_L_stop_L29  M y5 = some (r0, M0) → va_P E.1 vwCl (wl E M) H → va_S (AA E) s.heap H locs → lv_has ls 9 [(0, .ref (E.2.2 11 28)), (1, .ref (E.2.2 11 29)), (2, .ref (E.2.2 11 30)), (3, .ref (E.2.2 11 31)), (5, .int y5)] → W p l e (headSpec (Wm yL_stop cL_stop 9 (some .int)) ({ frames := 1, cells := 0, slots := 0, locals := 33 } : Room)).room s m ([Value.ref (E.2.2 11 28), Value.ref (E.2.2 11 29), Value.ref (E.2.2 11 30), Value.ref (E.2.2 11 31), Value.int a1] : List Value).toArray below meth c H locs 0 0 (MQ below (QI E r0 M0) ([Value.ref (E.2.2 11 28), Value.ref (E.2.2 11 29), Value.ref (E.2.2 11 30), Value.ref (E.2.2 11 31), Value.int a1] : List Value).toArray s 0 0 (AA E)) (F0 m 29 ls []) := by
    intro M y5 H locs ls h hP hS hl
    unfold f_L_stop_L29 at h
    refine lv_iconst (v := 0) hx hb dL_stop_29 (by decide) ?_
    exact w_L30 _ _ _ _ _ _ h hP hS (lv_sub hl [0, 1, 2, 3, 4] rfl)
  unfold f_L_stop at h
  refine lv_aload_n hx hb dL_stop_0 rfl (lv_at hl 0 rfl) ?_
  obtain ⟨v1, hv1, h⟩ := bO_e h
  refine mw_callSi X (c_L_last l E hA hv1) pk_L_last wm_170 wm_169 ⟨Nat.le_of_ble_eq_true rfl, Nat.le_of_ble_eq_true rfl⟩ ⟨rfl, rfl⟩ hP hS rfl hl.1 (Nat.le_of_ble_eq_true rfl) ⟨Nat.zero_le _, Nat.zero_le _⟩ rfl dL_stop_1 (fun H locs hP hS => ?_)
  refine lv_aload_n hx hb dL_stop_4 rfl (lv_at hl 0 rfl) ?_
  refine lv_iconst (v := 2) hx hb dL_stop_5 (by decide) ?_
  refine mw_ld X hP ix_28 rfl (v := (M 11 28 2)) (inb_vp (by decide)) rfl dL_stop_6 ?_
  refine lv_isub hx hb dL_stop_7 ?_
  refine lv_topi (fun x2 ex2 => ?_)
  have h := bd_e h ex2
  refine lv_istore (lv' := [(5, .int x2), (0, .ref (E.2.2 11 28)), (1, .ref (E.2.2 11 29)), (2, .ref (E.2.2 11 30)), (3, .ref (E.2.2 11 31)), (4, .int a1)]) hx hb dL_stop_8 hl (by decide) rfl (fun ls hl => ?_)
  refine lv_iload hx hb dL_stop_10 (lv_at hl 5 rfl) ?_
  refine lv_iconst (v := 1) hx hb dL_stop_12 (by decide) ?_
  refine lv_icmp_ne (tgt := 29) hx hb dL_stop_13 (by decide) (fun c3 => ?_) (fun c3 => ?_)
  · have h := br_0 h c3
    exact w_L29 _ _ _ _ _ h hP hS (lv_sub hl [1, 2, 3, 4, 0] rfl)
  · have h := br_1 h c3
    refine lv_aload_n hx hb dL_stop_16 rfl (lv_at hl 1 rfl) ?_
    refine lv_iconst (v := 2) hx hb dL_stop_17 (by decide) ?_
    refine mw_ld X hP ix_28 rfl (v := (M 11 28 2)) (inb_vp (by decide)) rfl dL_stop_18 ?_
    refine lv_aload_n hx hb dL_stop_19 rfl (lv_at hl 1 rfl) ?_
    refine lv_iconst (v := 0) hx hb dL_stop_20 (by decide) ?_
    refine mw_ld X hP ix_28 rfl (v := (M 11 28 0)) (inb_vp (by decide)) rfl dL_stop_21 ?_
    refine lv_icmp_lt (tgt := 29) hx hb dL_stop_22 (by decide) (fun c28 => ?_) (fun c28 => ?_)
    · have h := br_1 h c28
      exact w_L29 _ _ _ _ _ h hP hS (lv_sub hl [1, 2, 3, 4, 0] rfl)
    · have h := br_0 h c28
      refine lv_iconst (v := 1) hx hb dL_stop_25 (by decide) ?_
      refine lv_goto (tgt := 30) hx hb dL_stop_26 (by decide) ?_
      exact w_L30 _ _ _ _ _ _ h hP hS (lv_sub hl [1, 2, 3, 4, 0] rfl)
