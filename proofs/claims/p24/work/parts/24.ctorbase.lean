/-! constructors: rows -/
def Z0 (r : Nat) : Nat → Int32 := if r = 11 then (fun i => if i = 7 then 1 else 0) else fun _ => 0
def bk (E : En) (A : Nat → Nat) (lo n : Nat) : va_W := (List.range n).map (fun j => (A (lo + j), cel (E.1, E.2.1, fun _ => A) 0 (lo + j) (Z0 (lo + j))))
def KK (E : En) (U : State) : Prop := (va_K E.1 vwCl (tyE E) U ∧ NK U) ∧ va_AO "SealedGroups$Store" U
theorem KK.warm {E : En} {s U : State} (hW : s.WarmedH U.vm) (h : KK E s) : KK E U := ⟨⟨va_K.moved hW.alike h.1.1, NK.warm hW h.1.2⟩, va_AO.moved hW.alike h.2⟩
def CPre (E : En) (h0 : Nat) (o : va_E) (sz : Nat) : State → Prop := fun U => U.heap.size = sz ∧ va_P E.1 vwCl [(h0, o)] U.heap ∧ KK E U
def CQ {S : Type} (E : En) (h0 : Nat) (o : va_E) (sz : Nat) (post : S → Prop) (w1 : S → va_W) : Array Value → State → Outcome → State → Prop := va_Qv post (fun u t => va_P E.1 vwCl (w1 u) t.heap ∧ KK E t ∧ va_D (va_A [(h0, o)] sz) (w1 u)) (va_A [(h0, o)] sz)
def Cy (E : En) (p : Program) (s : State) (m : MethodId) (c : Code) (args : Array Value) (cc : ByteArray) (nL : Nat) (own : String) : Prop := CallFix p m c cc nL s args wsL_law own ∧ KK E s
theorem CPre_blind {E : En} {h0 : Nat} {o : va_E} {sz : Nat} {av : List Value} : FrameBlind (va_Pc av (CPre E h0 o sz)) := fun a U g mk q => ⟨q.1, q.2.1, q.2.2.1, ⟨va_K.moved (u := U) (U := U.calling g mk a) (Vm.Alike.refl U.vm) q.2.2.2.1.1, NK.same (u := U) (U := U.calling g mk a) rfl q.2.2.2.1.2⟩, va_AO.moved (u := U) (U := U.calling g mk a) (Vm.Alike.refl U.vm) q.2.2.2.2⟩
theorem cy_D1 {A : Nat → Prop} {h0 : Nat} {o : va_E} (h : A h0) : va_D A [(h0, o)] := by
  refine ⟨fun i j a b ha hb _ => ?_, fun k q hk => ?_⟩
  · have h1 := (List.getElem?_eq_some_iff.mp ha).1
    have h2 := (List.getElem?_eq_some_iff.mp hb).1
    simp at h1 h2
    omega
  · have h1 := List.mem_of_getElem? hk
    rw [List.mem_singleton.mp h1]
    exact h
theorem cy_join {A : Nat → Prop} {D : va_G} {ws w1 : va_W} {q : Nat} {o : va_E} {H H1 : Heap} (hP : va_P D vwCl (ws ++ [(q, o)]) H) (hD : va_D A (ws ++ [(q, o)])) (hk : ∀ x : Nat, x < H.size → ¬ va_A [(q, o)] H.size x → H1[x]? = H[x]?) (hF : ∀ x, va_A [(q, o)] H.size x → A x) (hP1 : va_P D vwCl w1 H1) (hD1 : va_D (va_A [(q, o)] H.size) w1) : va_P D vwCl (ws ++ w1) H1 ∧ va_D A (ws ++ w1) := by
  have hw : ∀ (k : Nat) (x : Nat × va_E), ws[k]? = some x → (ws ++ [(q, o)])[k]? = some x := fun k x h => by rw [List.getElem?_append_left (List.getElem?_eq_some_iff.mp h).1]; exact h
  have ap : ∀ (k : Nat) (x : Nat × va_E), ws[k]? = some x → x.1 < H.size ∧ ¬ va_A [(q, o)] H.size x.1 := by
    intro k x hx
    have hl := (hP k x (hw k x hx)).lt
    refine ⟨hl, fun h => ?_⟩
    rcases h with ⟨k2, e, h⟩ | h
    · have h1 := List.mem_singleton.mp (List.mem_of_getElem? h)
      have h2 : (ws ++ [(q, o)])[ws.length]? = some (q, o) := by simp
      have h3 := hD.1 k ws.length x (q, o) (hw k x hx) h2 (by have h5 := congrArg Prod.fst h1; exact h5)
      have h4 := (List.getElem?_eq_some_iff.mp hx).1
      omega
    · omega
  refine ⟨va_P.app (fun k x hx => (hP k x (hw k x hx)).kept (hk x.1 (ap k x hx).1 (ap k x hx).2)) hP1, va_D.app ⟨fun i j a b ha hb => hD.1 i j a b (hw i a ha) (hw j b hb), fun k x hx => hD.2 k x (hw k x hx)⟩ (hD1.weaken (fun k x _ h => hF x.1 h)) (fun i j x y hx hy hxy => ?_)⟩
  exact (ap i x hx).2 (by rw [hxy]; exact hD1.2 j y hy)
section CT
variable {p : Program} {l : Launch} {e : Env} {R : Room} {s : State} {m : MethodId} {args : Array Value} {below : List Frame} {meth : Method} {c : Code} {H : Heap} {locs : List Loc} {cells slots : Nat} {Q : State → Prop} {cc : ByteArray} {pc nL : Nat} {ls : Array Slot} {rest : List Value} {E : En} {own : String} {H0 : Heap} {A : Nat → Prop} {ws : va_W}
theorem cy_free {q : Nat} {o : va_E} (hD : va_D A (ws ++ [(q, o)])) (hS : va_S A H0 H locs) (hA : ∀ x, H0.size ≤ x → A x) : ∀ x, va_A [(q, o)] H.size x → A x := va_free (wc := [(q, o)]) hD hS hA [ws.length] (by simp)
theorem cy_ctorI {S : Type} {post : S → Prop} {w1 : S → va_W} {C : String} {y : MethodName} {bytes : ByteArray} {maxL index mc ms q : Nat} {o : va_E} {rm : Room} (X : Cy E p s m c args cc nL own) (hM : Met l y (Wm y bytes maxL none) rm (va_Pc [.ref q] (CPre E q o H.size)) (CQ E q o H.size post w1) mc ms (va_A [(q, o)] H.size)) (pk : Pk C y bytes maxL none 0) (hin : y.name = "<init>" ∧ Cond.instanceMethod y ∈ wsL_law) (hlk : Cond.methodLink own index y ∈ wsL_law) (hR : rm.frames + 1 ≤ R.frames ∧ 8 + (maxL + 11) + rm.locals ≤ R.locals) (hrm : rm.cells = mc ∧ rm.slots = ms) (hP : va_P E.1 vwCl (ws ++ [(q, o)]) H) (hD : va_D A (ws ++ [(q, o)])) (hS : va_S A H0 H locs) (hA : ∀ x, H0.size ≤ x → A x) (hls : ls.size = nL) (hW : (rest.map fun v => v.category).sum ≤ 8) (hf : cells + mc ≤ R.cells ∧ slots + ms ≤ R.slots) (hdg : decode cc pc = .ok (.invokespecial index, 3))
    (kk : ∀ (u : S) (H1 : Heap) (locs1 : List Loc), post u → va_P E.1 vwCl (ws ++ w1 u) H1 → va_D A (ws ++ w1 u) → va_S A H0 H1 locs1 → W p l e R s m args below meth c H1 locs1 (cells + mc) (slots + ms) Q (F0 m (pc + 3) ls rest)) : W p l e R s m args below meth c H locs cells slots Q (F0 m pc ls (.ref q :: rest)) := by
  have hF := cy_free hD hS hA
  have ht := X.1.2.2.2.2
  have hPc : va_P E.1 vwCl [(q, o)] H := fun k x hx => hP (ws.length + k) x (by rw [List.getElem?_append_right (by omega)]; rw [show ws.length + k - ws.length = k by omega]; exact hx)
  refine va_callv (A1 := va_A [(q, o)] H.size) (va_runI (As := []) (rest := rest) X.1 hM ⟨callB_of 0 ht (Wm_good (y' := y) (b' := bytes) (maxL' := maxL) (ret' := none) pk.1) rfl hrm.1 hrm.2 (ht _ pk.2.1) (ht _ hlk) pk.2.2.2 hR, hin.1, ht _ hin.2⟩ ⟨CPre_blind, fun U hU hW => ⟨rfl, by rw [hU], by rw [hU]; exact hPc, X.2.warm hW⟩⟩ rfl rfl hls rfl (lv_room hW) hdg hf) hS (fun x _ h => hF x h) hF (fun u t H1 locs1 ht _ hr hB _ hk hS1 => ?_)
  obtain ⟨hP1, -, hD1⟩ := hB
  rw [ht] at hP1
  obtain ⟨hP2, hD2⟩ := cy_join hP hD hk hF hP1 hD1
  exact kk u H1 locs1 hr hP2 hD2 hS1
theorem cy_ctorN {S : Type} {post : S → Prop} {w1 : S → va_W} {C : String} {y : MethodName} {bytes : ByteArray} {maxL index mc ms q : Nat} {o : va_E} {rm : Room} (X : Cy E p s m c args cc nL own) (hM : Met l y (Wm y bytes maxL none) rm (va_Pc [.ref q] (CPre E q o H.size)) (CQ E q o H.size post w1) mc ms (va_A [(q, o)] H.size)) (pk : Pk C y bytes maxL none 0) (hin : y.name = "<init>" ∧ Cond.instanceMethod y ∈ wsL_law) (hlk : (own, index, y) ∈ nestM) (hR : rm.frames + 1 ≤ R.frames ∧ 8 + (maxL + 11) + rm.locals ≤ R.locals) (hrm : rm.cells = mc ∧ rm.slots = ms) (hP : va_P E.1 vwCl (ws ++ [(q, o)]) H) (hD : va_D A (ws ++ [(q, o)])) (hS : va_S A H0 H locs) (hA : ∀ x, H0.size ≤ x → A x) (hls : ls.size = nL) (hW : (rest.map fun v => v.category).sum ≤ 8) (hf : cells + mc ≤ R.cells ∧ slots + ms ≤ R.slots) (hdg : decode cc pc = .ok (.invokespecial index, 3))
    (kk : ∀ (u : S) (H1 : Heap) (locs1 : List Loc), post u → va_P E.1 vwCl (ws ++ w1 u) H1 → va_D A (ws ++ w1 u) → va_S A H0 H1 locs1 → W p l e R s m args below meth c H1 locs1 (cells + mc) (slots + ms) Q (F0 m (pc + 3) ls rest)) : W p l e R s m args below meth c H locs cells slots Q (F0 m pc ls (.ref q :: rest)) := by
  have hF := cy_free hD hS hA
  have ht := X.1.2.2.2.2
  have hPc : va_P E.1 vwCl [(q, o)] H := fun k x hx => hP (ws.length + k) x (by rw [List.getElem?_append_right (by omega)]; rw [show ws.length + k - ws.length = k by omega]; exact hx)
  refine va_callv (A1 := va_A [(q, o)] H.size) (va_runIN (As := []) (rest := rest) X.1 hM ⟨va_cnB (host := "SealedGroups") 0 ht (Wm_good (y' := y) (b' := bytes) (maxL' := maxL) (ret' := none) pk.1) rfl hrm.1 hrm.2 (X.2.1.2.2 _ hlk) (ht _ pk.2.1) pk.2.2.2 hR, hin.1, ht _ hin.2⟩ ⟨CPre_blind, fun U hU hW => ⟨rfl, by rw [hU], by rw [hU]; exact hPc, X.2.warm hW⟩⟩ rfl rfl hls rfl (lv_room hW) hdg hf) hS (fun x _ h => hF x h) hF (fun u t H1 locs1 ht _ hr hB _ hk hS1 => ?_)
  obtain ⟨hP1, -, hD1⟩ := hB
  rw [ht] at hP1
  obtain ⟨hP2, hD2⟩ := cy_join hP hD hk hF hP1 hD1
  exact kk u H1 locs1 hr hP2 hD2 hS1
theorem cy_new {C : String} {T : u_T} {N ci index : Nat} (X : Cy E p s m c args cc nL own) (hin : ∀ w ∈ u_ws C T N, w ∈ wsL_law) (ty : Nat → FieldType) (hty : ∀ k, k < N → parseFieldDescriptor (T k).2.2.1 = some (ty k)) (hcl : Cond.classLink own index C ∈ wsL_law) (hinst : Cond.instantiable C N ∈ wsL_law) (hini : Cond.initialized C ∈ wsL_law) (hP : va_P E.1 vwCl ws H) (hD : va_D A ws) (hS : va_S A H0 H locs) (hA : ∀ x, H0.size ≤ x → A x) (hc : vwCl[ci]? = some (C, T, N)) {fs : List Value} (hfs : ∀ j, j < N → defaultValue (ty j) = vp_V fs j) (hcells : cells + 1 ≤ R.cells) (hslots : slots + N ≤ R.slots) (hdg : decode cc pc = .ok (.new index, 3))
    (kk : ∀ (q : Nat) (H1 : Heap), va_P E.1 vwCl (ws ++ [(q, .inr (ci, fs))]) H1 → va_D A (ws ++ [(q, .inr (ci, fs))]) → va_S A H0 H1 locs → W p l e R s m args below meth c H1 locs (cells + 1) (slots + N) Q (F0 m (pc + 3) ls (.ref q :: rest))) : W p l e R s m args below meth c H locs cells slots Q (F0 m pc ls rest) := by
  have ht := X.1.2.2.2.2
  exact va_new X.1.1 X.1.2.1 ht hin ty hty X.1.2.2.2.1 (ht _ hcl) (ht _ hinst) (ht _ hini) X.2.1.1 hP hD hS hA hc hfs hcells hslots hdg kk
theorem cy_newi {n : Int32} {N' : Nat} (X : Cy E p s m c args cc nL own) (harr : Cond.arrayClass .int ∈ wsL_law) (hP : va_P E.1 vwCl ws H) (hD : va_D A ws) (hS : va_S A H0 H locs) (hA : ∀ x, H0.size ≤ x → A x) (hn : ¬ n < 0) (hN : n.toNatClampNeg = N') (hbytes : N' * componentBytes .int ≤ 536870912) (hcells : cells + 1 ≤ R.cells) (hslots : slots + N' ≤ R.slots) (hdg : decode cc pc = .ok (.newarray .int, 2))
    (kk : ∀ (q : Nat) (H1 : Heap), va_P E.1 vwCl (ws ++ [(q, .inl (E.2.1.1, N', .inl (fun _ => 0)))]) H1 → va_D A (ws ++ [(q, .inl (E.2.1.1, N', .inl (fun _ => 0)))]) → va_S A H0 H1 locs → W p l e R s m args below meth c H1 locs (cells + 1) (slots + N') Q (F0 m (pc + 2) ls (.ref q :: rest))) : W p l e R s m args below meth c H locs cells slots Q (F0 m pc ls (.int n :: rest)) := by
  refine va_newa (atype := .int) X.1.1 X.1.2.1 (X.1.2.2.2.2 _ harr) rfl X.2.1.1 hP hD hS hA (a0 := (N', .inl (fun _ => 0))) (fun _ => rfl) hn hN hbytes hcells hslots hdg (fun q cA H1 hK1 hP1 hD1 hS1 => ?_)
  have h1 : s.vm.findClass ("[" ++ (FieldType.int).toString) = some cA := (hK1.2 4 (cA, .int) rfl).2
  have h2 : s.vm.findClass ("[" ++ (FieldType.int).toString) = some E.2.1.1 := (hK1.2 0 (E.2.1.1, .int) rfl).2
  have h3 : cA = E.2.1.1 := Option.some.inj (h1.symm.trans h2)
  subst h3
  exact kk q H1 hP1 hD1 hS1
theorem cy_newc {n : Int32} {N' : Nat} (X : Cy E p s m c args cc nL own) (harr : Cond.arrayClass .char ∈ wsL_law) (hP : va_P E.1 vwCl ws H) (hD : va_D A ws) (hS : va_S A H0 H locs) (hA : ∀ x, H0.size ≤ x → A x) (hn : ¬ n < 0) (hN : n.toNatClampNeg = N') (hbytes : N' * componentBytes .char ≤ 536870912) (hcells : cells + 1 ≤ R.cells) (hslots : slots + N' ≤ R.slots) (hdg : decode cc pc = .ok (.newarray .char, 2))
    (kk : ∀ (q : Nat) (H1 : Heap), va_P E.1 vwCl (ws ++ [(q, .inl (E.2.1.2.1, N', .inl (fun _ => 0)))]) H1 → va_D A (ws ++ [(q, .inl (E.2.1.2.1, N', .inl (fun _ => 0)))]) → va_S A H0 H1 locs → W p l e R s m args below meth c H1 locs (cells + 1) (slots + N') Q (F0 m (pc + 2) ls (.ref q :: rest))) : W p l e R s m args below meth c H locs cells slots Q (F0 m pc ls (.int n :: rest)) := by
  refine va_newa (atype := .char) X.1.1 X.1.2.1 (X.1.2.2.2.2 _ harr) rfl X.2.1.1 hP hD hS hA (a0 := (N', .inl (fun _ => 0))) (fun _ => rfl) hn hN hbytes hcells hslots hdg (fun q cA H1 hK1 hP1 hD1 hS1 => ?_)
  have h1 : s.vm.findClass ("[" ++ (FieldType.char).toString) = some cA := (hK1.2 4 (cA, .char) rfl).2
  have h2 : s.vm.findClass ("[" ++ (FieldType.char).toString) = some E.2.1.2.1 := (hK1.2 1 (E.2.1.2.1, .char) rfl).2
  have h3 : cA = E.2.1.2.1 := Option.some.inj (h1.symm.trans h2)
  subst h3
  exact kk q H1 hP1 hD1 hS1
theorem cy_newl {n : Int32} {N' : Nat} (X : Cy E p s m c args cc nL own) (harr : Cond.arrayClass .long ∈ wsL_law) (hP : va_P E.1 vwCl ws H) (hD : va_D A ws) (hS : va_S A H0 H locs) (hA : ∀ x, H0.size ≤ x → A x) (hn : ¬ n < 0) (hN : n.toNatClampNeg = N') (hbytes : N' * componentBytes .long ≤ 536870912) (hcells : cells + 1 ≤ R.cells) (hslots : slots + N' ≤ R.slots) (hdg : decode cc pc = .ok (.newarray .long, 2))
    (kk : ∀ (q : Nat) (H1 : Heap), va_P E.1 vwCl (ws ++ [(q, .inl (E.2.1.2.2.2.1, N', .inr (.inl (fun _ => 0))))]) H1 → va_D A (ws ++ [(q, .inl (E.2.1.2.2.2.1, N', .inr (.inl (fun _ => 0))))]) → va_S A H0 H1 locs → W p l e R s m args below meth c H1 locs (cells + 1) (slots + N') Q (F0 m (pc + 2) ls (.ref q :: rest))) : W p l e R s m args below meth c H locs cells slots Q (F0 m pc ls (.int n :: rest)) := by
  refine va_newa (atype := .long) X.1.1 X.1.2.1 (X.1.2.2.2.2 _ harr) rfl X.2.1.1 hP hD hS hA (a0 := (N', .inr (.inl (fun _ => 0)))) (fun _ => rfl) hn hN hbytes hcells hslots hdg (fun q cA H1 hK1 hP1 hD1 hS1 => ?_)
  have h1 : s.vm.findClass ("[" ++ (FieldType.long).toString) = some cA := (hK1.2 4 (cA, .long) rfl).2
  have h2 : s.vm.findClass ("[" ++ (FieldType.long).toString) = some E.2.1.2.2.2.1 := (hK1.2 3 (E.2.1.2.2.2.1, .long) rfl).2
  have h3 : cA = E.2.1.2.2.2.1 := Option.some.inj (h1.symm.trans h2)
  subst h3
  exact kk q H1 hP1 hD1 hS1
theorem cy_newq {n : Int32} {N' index : Nat} (X : Cy E p s m c args cc nL own) (hcl : Cond.classLink own index "SealedGroups$Store" ∈ wsL_law) (hP : va_P E.1 vwCl ws H) (hD : va_D A ws) (hS : va_S A H0 H locs) (hA : ∀ x, H0.size ≤ x → A x) (hn : ¬ n < 0) (hN : n.toNatClampNeg = N') (hbytes : N' * 4 ≤ 536870912) (hcells : cells + 1 ≤ R.cells) (hslots : slots + N' ≤ R.slots) (hdg : decode cc pc = .ok (.anewarray index, 3))
    (kk : ∀ (q : Nat) (H1 : Heap), va_P E.1 vwCl (ws ++ [(q, .inl (E.2.1.2.2.1, N', .inr (.inr (.inr (.inr (fun _ => none))))))]) H1 → va_D A (ws ++ [(q, .inl (E.2.1.2.2.1, N', .inr (.inr (.inr (.inr (fun _ => none))))))]) → va_S A H0 H1 locs → W p l e R s m args below meth c H1 locs (cells + 1) (slots + N') Q (F0 m (pc + 3) ls (.ref q :: rest))) : W p l e R s m args below meth c H locs cells slots Q (F0 m pc ls (.int n :: rest)) := by
  refine va_newq X.1.1 X.1.2.1 X.1.2.2.2.1 (X.1.2.2.2.2 _ hcl) X.2.2 X.2.1.1 hP hD hS hA hn hN hbytes hcells hslots hdg (fun q cA H1 hK1 hP1 hD1 hS1 => ?_)
  obtain ⟨-, -, -, -, -, h1⟩ : ∃ (_ : Unit), True ∧ True ∧ True ∧ True ∧ s.vm.findClass ("[" ++ (FieldType.object "SealedGroups$Store").toString) = some cA := by
    obtain ⟨kA, comp, -, -, -, h⟩ := (hK1.2 4 (cA, .object "SealedGroups$Store") rfl).2
    exact ⟨(), trivial, trivial, trivial, trivial, h⟩
  obtain ⟨-, -, -, -, -, h2⟩ : ∃ (_ : Unit), True ∧ True ∧ True ∧ True ∧ s.vm.findClass ("[" ++ (FieldType.object "SealedGroups$Store").toString) = some E.2.1.2.2.1 := by
    obtain ⟨kA, comp, -, -, -, h⟩ := (hK1.2 2 (E.2.1.2.2.1, .object "SealedGroups$Store") rfl).2
    exact ⟨(), trivial, trivial, trivial, trivial, h⟩
  have h3 : cA = E.2.1.2.2.1 := Option.some.inj (h1.symm.trans h2)
  subst h3
  exact kk q H1 hP1 hD1 hS1
theorem cy_vret {S : Type} {post : S → Prop} {w1 : S → va_W} {h0 : Nat} {o : va_E} (X : Cy E p s m c args cc nL own) (hr : meth.sig.returnType = none) (hlocks : meth.locks = false) (u : S) (hu : post u) (hP : va_P E.1 vwCl (w1 u) H) (hD : va_D (va_A [(h0, o)] s.heap.size) (w1 u)) (hS : va_S (va_A [(h0, o)] s.heap.size) s.heap H locs) (hdg : decode cc pc = .ok (.return_, 1)) : W p l e R s m args below meth c H locs cells slots (MQ below (CQ E h0 o s.heap.size post w1) args s cells slots (va_A [(h0, o)] s.heap.size)) (F0 m pc ls []) :=
  W.vret X.1.1 X.1.2.1 hr (fun t ht hW => ⟨⟨u, rfl, hu, by rw [ht]; exact hP, X.2.warm hW, hD⟩, hS.F ht⟩) hS.2.2 hdg hlocks
end CT
