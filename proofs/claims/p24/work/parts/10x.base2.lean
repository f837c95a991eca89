/-! rows for longs, for the rows that a call makes, and for the script -/
def ldl (M : Mem) (i : Nat) : Int64 := jl (M 11 31) i
def stl (M : Mem) (i : Nat) (v : Int64) : Mem := sr M 11 31 (jset (M 11 31) i v)
/-- the world with one more row of the law's own at the cell q -/
def exE (E : En) (r q : Nat) : En := (E.1, (E.2.1.1, E.2.1.2.1, E.2.1.2.2.1, E.2.1.2.2.2.1, tau E + 1), fun g' r' => if g' = 11 ∧ r' = r then q else E.2.2 g' r')
theorem cel_ad {E E1 : En} (h1 : E1.2.1.1 = E.2.1.1) (h2 : E1.2.1.2.1 = E.2.1.2.1) (h3 : E1.2.1.2.2.1 = E.2.1.2.2.1) (h4 : E1.2.1.2.2.2.1 = E.2.1.2.2.2.1) (h : ∀ g r, r < 32 → E1.2.2 g r = E.2.2 g r) (g r : Nat) (f : Nat → Int32) : cel E1 g r f = cel E g r f := by
  unfold cel
  split <;> simp only [h1, h2, h3, h4, h _ 0 (by decide), h _ 1 (by decide), h _ 2 (by decide), h _ 3 (by decide), h _ 4 (by decide), h _ 5 (by decide), h _ 6 (by decide), h _ 7 (by decide), h _ 8 (by decide), h _ 9 (by decide), h _ 10 (by decide), h _ 11 (by decide), h _ 12 (by decide), h _ 13 (by decide), h _ 14 (by decide), h _ 15 (by decide), h _ 16 (by decide), h _ 17 (by decide), h _ 18 (by decide), h _ 20 (by decide), h _ 21 (by decide), h _ 22 (by decide), h _ 23 (by decide), h _ 24 (by decide), h _ 25 (by decide), h _ 26 (by decide)]
theorem cel_ex {E : En} {r q : Nat} (hr : 32 < r) (g r0 : Nat) (f : Nat → Int32) : cel (exE E r q) g r0 f = cel E g r0 f :=
  cel_ad (E := E) (E1 := exE E r q) rfl rfl rfl rfl (fun g' r' h => if_neg (fun e => by omega)) g r0 f
theorem ix_ex {E : En} {r q : Nat} (ht : tmpl[tau E]? = some (11, r)) : ix (exE E r q) = ix E ++ [(11, r)] := by
  show idx0 ++ tmpl.take (tau E + 1) = idx0 ++ tmpl.take (tau E) ++ [(11, r)]
  rw [List.append_assoc, List.take_add_one, ht]
  rfl
theorem tmp_r {E : En} {r : Nat} (ht : tmpl[tau E]? = some (11, r)) : (11, r) ∉ ix E ∧ 32 < r := by
  have h0 : ∀ x ∈ idx0, x.1 = 11 → x.2 < 33 := by decide +kernel
  have h2 : (tau E = 0 ∧ r = 33) ∨ (tau E = 1 ∧ r = 34) := by
    rcases Nat.lt_or_ge (tau E) 2 with h | h
    · rcases (show tau E = 0 ∨ tau E = 1 by omega) with e | e
      · rw [e] at ht; exact Or.inl ⟨e, by have := Option.some.inj ht; exact (congrArg Prod.snd this).symm⟩
      · rw [e] at ht; exact Or.inr ⟨e, by have := Option.some.inj ht; exact (congrArg Prod.snd this).symm⟩
    · rw [List.getElem?_eq_none (by exact h)] at ht; cases ht
  refine ⟨fun hm => ?_, by rcases h2 with h | h <;> omega⟩
  rcases List.mem_append.mp hm with h | h
  · have := h0 _ h rfl
    rcases h2 with h | h <;> simp only [] at this <;> omega
  · rcases h2 with ⟨e, rfl⟩ | ⟨e, rfl⟩ <;> rw [e] at h <;> revert h <;> decide
theorem wl_ex {E : En} {r q : Nat} (ht : tmpl[tau E]? = some (11, r)) (M : Mem) : wl (exE E r q) M = wl E M ++ [(q, cel E 11 r (M 11 r))] := by
  obtain ⟨h1, h2⟩ := tmp_r ht
  unfold wl
  rw [ix_ex ht, List.map_append]
  congr 1
  · refine List.map_congr_left fun x hx => ?_
    rw [cel_ex h2]
    have : (exE E r q).2.2 x.1 x.2 = E.2.2 x.1 x.2 := if_neg (fun e => h1 (by rw [← e.1, ← e.2]; exact hx))
    rw [this]
  · show [((exE E r q).2.2 11 r, cel (exE E r q) 11 r (M 11 r))] = _
    rw [cel_ex h2]
    have : (exE E r q).2.2 11 r = q := if_pos ⟨rfl, rfl⟩
    rw [this]
theorem wl_off {E : En} {r : Nat} (ht : (11, r) ∉ ix E) (M : Mem) (f : Nat → Int32) : wl E (sr M 11 r f) = wl E M := by
  refine List.map_congr_left fun x hx => ?_
  rw [sr_ne]
  rintro ⟨e1, e2⟩
  exact ht (by rw [← e1, ← e2]; exact hx)
theorem ex_back {E E1 : En} {r q : Nat} (e : E1 = exE E r q) (ht : tmpl[tau E]? = some (11, r)) {M : Mem} {H : Heap} (hP : va_P E1.1 vwCl (wl E1 M) H) : va_P E.1 vwCl (wl E M) H := by
  subst e
  rw [wl_ex ht] at hP
  intro k x hx
  exact hP k x (by rw [List.getElem?_append_left (List.getElem?_eq_some_iff.mp hx).1]; exact hx)
/-- contracts of what makes rows of its own -/
def WdS (E : En) (M : Mem) (sz : Nat) (U : State) : Prop := U.heap.size = sz ∧ Wd E M U
def AS (E : En) (sz : Nat) : Nat → Prop := fun q => AA E q ∨ sz ≤ q
def QIs (E : En) (sz : Nat) (r : Int32) (M : Mem) : Array Value → State → Outcome → State → Prop := va_Qi (fun r' (_ : Unit) => r' = r) (fun _ t => Wd E M t) (AS E sz)
theorem WdS_blind {E : En} {M : Mem} {sz : Nat} {av : List Value} : FrameBlind (va_Pc av (WdS E M sz)) := fun a U g mk q => ⟨q.1, q.2.1, (Wd_blind (av := av) a U g mk ⟨q.1, q.2.2⟩).2⟩
/-- the script among what a call needs -/
def WdX (E : En) (M : Mem) (b L : Nat) (xs : Nat → Int32) (U : State) : Prop := va_X b L xs U U.heap ∧ b < U.heap.size ∧ ¬ AA E b ∧ Wd E M U
theorem WdX_blind {E : En} {M : Mem} {b L : Nat} {xs : Nat → Int32} {av : List Value} : FrameBlind (va_Pc av (WdX E M b L xs)) := fun a U g mk q => ⟨q.1, va_X.moved (u := U) (U := U.calling g mk a) (Vm.Alike.refl U.vm) q.2.1, q.2.2.1, q.2.2.2.1, (Wd_blind (av := av) a U g mk ⟨q.1, q.2.2.2.2⟩).2⟩
section MW2
variable {p : Program} {l : Launch} {e : Env} {R : Room} {s : State} {m : MethodId} {args : Array Value} {below : List Frame} {meth : Method} {c : Code} {H : Heap} {locs : List Loc} {cells slots : Nat} {Q : State → Prop} {cc : ByteArray} {pc nL : Nat} {ls : Array Slot} {rest : List Value} {E : En} {M : Mem} {own : String} {H0 : Heap} {A : Nat → Prop}
theorem mw_lld (X : Cx E A p s m c args cc nL own) (hP : va_P E.1 vwCl (wl E M) H) {i : Int32} (hin : vp_in i 64) (hdg : decode cc pc = .ok (.laload, 1)) (kk : W p l e R s m args below meth c H locs cells slots Q (F0 m (pc + 1) ls (.long (ldl M i.toNatClampNeg) :: rest))) : W p l e R s m args below meth c H locs cells slots Q (F0 m pc ls (.int i :: .ref (E.2.2 11 31) :: rest)) := by
  obtain ⟨j, -, hj⟩ := wl_at (E := E) (M := M) (ix_b (show (11, 31) ∈ idx0 by decide))
  exact va_lald X.1.1 X.1.2.1 X.2.1.1 hP j 3 (f := jl (M 11 31)) hj rfl hin hdg kk
theorem mw_lst (X : Cx E A p s m c args cc nL own) (hP : va_P E.1 vwCl (wl E M) H) (hS : va_S A H0 H locs) {i : Int32} {x : Int64} {j : Nat} (hin : vp_in i 64) (hj : i.toNatClampNeg = j) (hdg : decode cc pc = .ok (.lastore, 1)) (kk : ∀ (H1 : Heap) (locs1 : List Loc) (M1 : Mem), M1 = stl M j x → va_P E.1 vwCl (wl E M1) H1 → va_S A H0 H1 locs1 → W p l e R s m args below meth c H1 locs1 cells slots Q (F0 m (pc + 1) ls rest)) : W p l e R s m args below meth c H locs cells slots Q (F0 m pc ls (.long x :: .int i :: .ref (E.2.2 11 31) :: rest)) := by
  obtain ⟨q, h0, hq⟩ := wl_at (E := E) (M := M) (ix_b (show (11, 31) ∈ idx0 by decide))
  subst hj
  refine va_last X.1.1 X.1.2.1 X.2.1.1 hP (wl_D X.2.2.1 X.2.2.2 M) hS q 3 (f := jl (M 11 31)) hq rfl hin hdg (fun H1 locs1 hP1 _ hS1 => ?_)
  rw [← jl_jset, wl_set h0 (f := jset (M 11 31) i.toNatClampNeg x) (show cel E 11 31 (jset (M 11 31) i.toNatClampNeg x) = .inl (E.2.1.2.2.2.1, 64, .inr (.inl (jl (jset (M 11 31) i.toNatClampNeg x)))) from rfl)] at hP1
  exact kk H1 locs1 _ rfl hP1 hS1
theorem mw_new (X : Cx E A p s m c args cc nL own) {r : Nat} (ht : tmpl[tau E]? = some (11, r)) (hw : Cond.arrayClass .int ∈ wsL_law) (hP : va_P E.1 vwCl (wl E M) H) (hS : va_S A H0 H locs) (hA : ∀ x, H0.size ≤ x → A x) {n : Int32} {N' : Nat} (hn : ¬ n < 0) (hN : n.toNatClampNeg = N') (hbytes : N' * componentBytes .int ≤ 536870912) (hcells : cells + 1 ≤ R.cells) (hslots : slots + N' ≤ R.slots) (hc : cel E 11 r (fun _ => 0) = .inl (E.2.1.1, N', .inl (fun _ => 0))) (hdg : decode cc pc = .ok (.newarray .int, 2))
    (kk : ∀ (E1 : En) (q : Nat) (H1 : Heap) (M1 : Mem), E1 = exE E r q → M1 = sr M 11 r (fun _ => 0) → Cx E1 A p s m c args cc nL own → va_P E1.1 vwCl (wl E1 M1) H1 → va_S A H0 H1 locs → W p l e R s m args below meth c H1 locs (cells + 1) (slots + N') Q (F0 m (pc + 2) ls (.ref (E1.2.2 11 r) :: rest))) : W p l e R s m args below meth c H locs cells slots Q (F0 m pc ls (.int n :: rest)) := by
  have hD := wl_D X.2.2.1 X.2.2.2 M
  refine va_newa (atype := .int) X.1.1 X.1.2.1 (X.1.2.2.2.2 _ hw) rfl X.2.1.1 hP hD hS hA (a0 := (N', .inl (fun _ => 0))) (fun _ => rfl) hn hN hbytes hcells hslots hdg (fun q cA H1 hK1 hP1 hD1 hS1 => ?_)
  have h1 : s.vm.findClass ("[" ++ (FieldType.int).toString) = some cA := (hK1.2 4 (cA, .int) rfl).2
  have h2 : s.vm.findClass ("[" ++ (FieldType.int).toString) = some E.2.1.1 := (hK1.2 0 (E.2.1.1, .int) rfl).2
  have h3 : cA = E.2.1.1 := Option.some.inj (h1.symm.trans h2)
  subst h3
  obtain ⟨n1, n2⟩ := tmp_r ht
  have hw1 : wl (exE E r q) (sr M 11 r (fun _ => 0)) = wl E M ++ [(q, .inl (E.2.1.1, N', .inl (fun _ => 0)))] := by
    rw [wl_ex ht, wl_off n1, sr_at, hc]
  have hP2 : va_P (exE E r q).1 vwCl (wl (exE E r q) (sr M 11 r (fun _ => 0))) H1 := by rw [hw1]; exact hP1
  have hD2 : va_D A (wl (exE E r q) (sr M 11 r (fun _ => 0))) := by rw [hw1]; exact hD1
  have eq : (exE E r q).2.2 11 r = q := if_pos ⟨rfl, rfl⟩
  have g := kk (exE E r q) q H1 (sr M 11 r (fun _ => 0)) rfl rfl ⟨X.1, X.2.1, ?_, ?_⟩ hP2 hS1
  · rw [eq] at g; exact g
  · intro x hx y hy hxy
    obtain ⟨i1, hix⟩ := List.getElem?_of_mem hx
    obtain ⟨i2, hiy⟩ := List.getElem?_of_mem hy
    have h1 := hD2.1 i1 i2 _ _ (wl_get hix) (wl_get hiy) hxy
    subst h1
    rw [hix] at hiy
    exact Option.some.inj hiy
  · rintro z ⟨x, hx, rfl⟩
    obtain ⟨i1, hix⟩ := List.getElem?_of_mem hx
    exact hD2.2 i1 _ (wl_get hix)
theorem mw_callSx {C : String} {y : MethodName} {bytes : ByteArray} {maxL n index mc ms : Nat} {ret : Option FieldType} {rm : Room} {As st0 : List Value} {M1 : Mem} {r : Int32} (X : Cx E A p s m c args cc nL own) (hA : ∀ x, H0.size ≤ x → A x) (hM : Met l y (Wm y bytes maxL ret) rm (va_Pc As (WdS E M H.size)) (QIs E H.size r M1) mc ms (AS E H.size)) (pk : Pk C y bytes maxL ret n) (hsy : Cond.static y ∈ wsL_law) (hlk : Cond.methodLink own index y ∈ wsL_law) (hR : rm.frames + 1 ≤ R.frames ∧ 8 + (maxL + 11) + rm.locals ≤ R.locals) (hrm : rm.cells = mc ∧ rm.slots = ms) (hP : va_P E.1 vwCl (wl E M) H) (hS : va_S A H0 H locs) (hlen : As.length = n) (hls : ls.size = nL) (hW : (rest.map fun v => v.category).sum ≤ 8) (hcs : cells + mc ≤ R.cells ∧ slots + ms ≤ R.slots) (hst : st0 = As.reverse ++ rest) (hdg : decode cc pc = .ok (.invokestatic index, 3))
    (kk : ∀ (H1 : Heap) (locs1 : List Loc), va_P E.1 vwCl (wl E M1) H1 → va_S A H0 H1 locs1 → W p l e R s m args below meth c H1 locs1 (cells + mc) (slots + ms) Q (F0 m (pc + 3) ls (.int r :: rest))) : W p l e R s m args below meth c H locs cells slots Q (F0 m pc ls st0) := by
  subst hst
  have hf : ∀ q, AS E H.size q → A q := fun q h => h.elim (X.2.2.2 q) (fun h => hA q (Nat.le_trans hS.1 h))
  refine va_calli (A1 := AS E H.size) (va_runS (As := As) (rest := rest) X.1 hM ⟨callB_of n X.1.2.2.2.2 (Wm_good (y' := y) (b' := bytes) (maxL' := maxL) (ret' := ret) pk.1) rfl hrm.1 hrm.2 (X.1.2.2.2.2 _ pk.2.1) (X.1.2.2.2.2 _ hlk) pk.2.2.2 hR, X.1.2.2.2.2 _ hsy⟩ ⟨WdS_blind, fun U hU hW => ⟨rfl, by rw [hU], (mw_pre X hP (av := As) U hU hW).2⟩⟩ rfl hlen hls rfl (lv_room hW) hdg hcs) hS (fun q _ h => hf q h) hf (fun r1 u t H1 locs1 ht _ hr hB _ _ hS1 => ?_)
  subst hr
  exact kk H1 locs1 (by rw [← ht]; exact hB.1) hS1
theorem mw_callSc {C : String} {y : MethodName} {bytes : ByteArray} {maxL n index b L : Nat} {xs : Nat → Int32} {ret : Option FieldType} {rm : Room} {As st0 : List Value} {M1 : Mem} {r : Int32} (X : Cx E A p s m c args cc nL own) (hM : Met l y (Wm y bytes maxL ret) rm (va_Pc As (WdX E M b L xs)) (QI E r M1) 0 0 (AA E)) (pk : Pk C y bytes maxL ret n) (hsy : Cond.static y ∈ wsL_law) (hlk : Cond.methodLink own index y ∈ wsL_law) (hR : rm.frames + 1 ≤ R.frames ∧ 8 + (maxL + 11) + rm.locals ≤ R.locals) (hrm : rm.cells = 0 ∧ rm.slots = 0) (hX : va_X b L xs s H0) (hbl : b < H0.size) (hbA : ¬ A b) (hP : va_P E.1 vwCl (wl E M) H) (hS : va_S A H0 H locs) (hlen : As.length = n) (hls : ls.size = nL) (hW : (rest.map fun v => v.category).sum ≤ 8) (hcs : cells ≤ R.cells ∧ slots ≤ R.slots) (hst : st0 = As.reverse ++ rest) (hdg : decode cc pc = .ok (.invokestatic index, 3))
    (kk : ∀ (H1 : Heap) (locs1 : List Loc), va_P E.1 vwCl (wl E M1) H1 → va_S A H0 H1 locs1 → W p l e R s m args below meth c H1 locs1 cells slots Q (F0 m (pc + 3) ls (.int r :: rest))) : W p l e R s m args below meth c H locs cells slots Q (F0 m pc ls st0) := by
  subst hst
  refine va_calli (A1 := AA E) (va_runS (As := As) (rest := rest) X.1 hM ⟨mw_cb X pk hlk hR hrm, X.1.2.2.2.2 _ hsy⟩ ⟨WdX_blind, fun U hU hW => ⟨rfl, va_X.moved hW.alike (by rw [hU]; exact hX.kept (hS.2.1 b hbl hbA)), by rw [hU]; exact Nat.lt_of_lt_of_le hbl hS.1, fun h => hbA (X.2.2.2 b h), (mw_pre X hP (av := As) U hU hW).2⟩⟩ rfl hlen hls rfl (lv_room hW) hdg hcs) hS (fun q _ h => X.2.2.2 q h) X.2.2.2 (fun r1 u t H1 locs1 ht _ hr hB _ _ hS1 => ?_)
  subst hr
  exact kk H1 locs1 (by rw [← ht]; exact hB.1) hS1
theorem mw_iretS {r0 v : Int32} {M0 : Mem} {sz : Nat} (X : Cx E (AS E sz) p s m c args cc nL own) (hr : meth.sig.returnType = some .int) (hlocks : meth.locks = false) (hP : va_P E.1 vwCl (wl E M) H) (hS : va_S (AS E sz) s.heap H locs) (hv : v = r0) (hM : M = M0) (hdg : decode cc pc = .ok (.ireturn, 1)) : W p l e R s m args below meth c H locs cells slots (MQ below (QIs E sz r0 M0) args s cells slots (AS E sz)) (F0 m pc ls [.int v]) := by
  subst hv; subst hM
  exact W.iret X.1.1 X.1.2.1 hr (fun t ht hW => ⟨⟨v, (), rfl, rfl, by rw [ht]; exact hP, va_K.moved hW.alike X.2.1.1, X.2.1.2.warm hW⟩, hS.F ht⟩) hS.2.2 hdg hlocks
theorem mw_zretS {r0 v : Int32} {M0 : Mem} {sz : Nat} (X : Cx E (AS E sz) p s m c args cc nL own) (hr : meth.sig.returnType = some .boolean) (hlocks : meth.locks = false) (hP : va_P E.1 vwCl (wl E M) H) (hS : va_S (AS E sz) s.heap H locs) (hB : isB v) (hv : v = r0) (hM : M = M0) (hdg : decode cc pc = .ok (.ireturn, 1)) : W p l e R s m args below meth c H locs cells slots (MQ below (QIs E sz r0 M0) args s cells slots (AS E sz)) (F0 m pc ls [.int v]) := by
  subst hv; subst hM
  exact W.zret X.1.1 X.1.2.1 hr (isB_n hB) (fun t ht hW => ⟨⟨v, (), rfl, rfl, by rw [ht]; exact hP, va_K.moved hW.alike X.2.1.1, X.2.1.2.warm hW⟩, hS.F ht⟩) hS.2.2 hdg hlocks
end MW2
