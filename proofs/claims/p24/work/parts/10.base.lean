/-! flat memory, layout of the cells, the world, and rows of the kit turned to it -/
abbrev Mem : Type := Nat → Nat → Nat → Int32
def sr (M : Mem) (g r : Nat) (f : Nat → Int32) : Mem := fun g' r' => if g' = g ∧ r' = r then f else M g' r'
def st (M : Mem) (g r i : Nat) (v : Int32) : Mem := sr M g r (upd (M g r) i v)
theorem sr_at {M : Mem} {g r : Nat} {f : Nat → Int32} : sr M g r f g r = f := by simp [sr]
theorem sr_ne {M : Mem} {g r g' r' : Nat} {f : Nat → Int32} (h : ¬ (g' = g ∧ r' = r)) : sr M g r f g' r' = M g' r' := by simp only [sr, if_neg h]
def sgr (g : Nat) : List (Nat × Nat) := (List.range 19).map (fun r => (g, r))
def idx0 : List (Nat × Nat) := (10, 27) :: ((((sgr 0 ++ sgr 1) ++ [(7, 20), (7, 21), (7, 22)]) ++ ((8, 23) :: ((((([(8, 24)] ++ sgr 2) ++ sgr 3) ++ sgr 4) ++ sgr 5) ++ sgr 6))) ++ [(9, 25), (9, 26)]) ++ [(11, 28), (11, 29), (11, 30), (11, 31), (11, 32)]
/-- rows that a call of the law makes for itself and leaves behind -/
def tmpl : List (Nat × Nat) := [(11, 33), (11, 34)]
def pos (x : Nat × Nat) : Nat := if x.1 = 10 then 0 else if x.1 = 0 then 1 + x.2 else if x.1 = 1 then 20 + x.2 else if x.1 = 7 then 19 + x.2 else if x.1 = 8 then 19 + x.2 else if x.1 < 7 then 6 + 19 * x.1 + x.2 else if x.1 = 9 then 114 + x.2 else 113 + x.2
theorem idx_len : idx0.length = 146 := by decide +kernel
theorem idx_all : ∀ i, i < 148 → (idx0 ++ tmpl)[i]?.map pos = some i := by decide +kernel
abbrev En : Type := va_G × (ClassId × ClassId × ClassId × ClassId × Nat) × (Nat → Nat → Nat)
abbrev tau (E : En) : Nat := E.2.1.2.2.2.2
def ix (E : En) : List (Nat × Nat) := idx0 ++ tmpl.take (tau E)
theorem ix_sub {E : En} {i : Nat} {x : Nat × Nat} (h : (ix E)[i]? = some x) : (idx0 ++ tmpl)[i]? = some x := by
  unfold ix at h
  by_cases hi : i < idx0.length
  · rw [List.getElem?_append_left hi] at h ⊢; exact h
  · rw [List.getElem?_append_right (Nat.not_lt.mp hi)] at h ⊢
    rw [List.getElem?_take] at h
    split at h
    · exact h
    · cases h
theorem idx_pos {E : En} {i : Nat} {x : Nat × Nat} (h : (ix E)[i]? = some x) : pos x = i := by
  have h := ix_sub h
  have hi : i < 148 := by
    have h1 := (List.getElem?_eq_some_iff.mp h).1
    have h2 : (idx0 ++ tmpl).length = 148 := by rw [List.length_append, idx_len]; rfl
    omega
  have := idx_all i hi
  rw [h] at this
  exact Option.some.inj this
theorem idx_inj {E : En} {i j : Nat} {x : Nat × Nat} (h : (ix E)[i]? = some x) (h2 : (ix E)[j]? = some x) : i = j := by rw [← idx_pos h, ← idx_pos h2]
theorem ix_b {E : En} {x : Nat × Nat} (h : x ∈ idx0) : x ∈ ix E := List.mem_append_left _ h
theorem ms_all : ∀ k, k < 7 → ∀ r, r < 19 → (k, r) ∈ idx0 := by decide +kernel
theorem ms {E : En} {k : Nat} (hk : k < 7) (r : Nat) (hr : r < 19 := by decide) : (k, r) ∈ ix E := ix_b (ms_all k hk r hr)
def len (r : Nat) : Nat := if r < 7 then 8 else if r < 11 then 4 else if r < 18 then 128 else if r < 22 then 8 else if r = 22 then 128 else if r = 28 then 5 else if r = 29 then 16 else if r = 30 then 48 else if r = 31 then 64 else if r = 33 then 2 else 8
/-- a long out of two ints, by numbers -/
def jN (n : Nat) : Int64 := Int64.ofNat n
def jT (v : Int64) : Nat := v.toBitVec.toNat
def jl (f : Nat → Int32) (i : Nat) : Int64 := jN ((f (2 * i)).toBitVec.toNat + 4294967296 * (f (2 * i + 1)).toBitVec.toNat)
def jset (f : Nat → Int32) (i : Nat) (v : Int64) : Nat → Int32 := upd (upd f (2 * i) (Int32.ofNat (jT v % 4294967296))) (2 * i + 1) (Int32.ofNat (jT v / 4294967296))
theorem jset_lo (n : Nat) (h : n < 4294967296) : (Int32.ofNat n).toBitVec.toNat = n := by
  rw [Int32.toBitVec_ofNat', BitVec.toNat_ofNat]
  exact Nat.mod_eq_of_lt h
theorem jl_jset (f : Nat → Int32) (i : Nat) (v : Int64) : jl (jset f i v) = vp_updL (jl f) i v := by
  funext j
  have hv : jT v < 18446744073709551616 := v.toBitVec.isLt
  unfold vp_updL
  by_cases h : j = i
  · subst h
    rw [if_pos rfl]
    unfold jl jset upd
    rw [if_neg (by omega), if_pos rfl, if_pos rfl, jset_lo _ (by omega), jset_lo _ (by omega), Nat.mod_add_div]
    unfold jN jT
    apply Int64.toBitVec.inj
    rw [Int64.toBitVec_ofNat']
    exact BitVec.ofNat_toNat _ _ |>.trans (by simp)
  · rw [if_neg h]
    unfold jl jset upd
    rw [if_neg (by omega), if_neg (by omega), if_neg (by omega), if_neg (by omega)]
def cel (E : En) (g r : Nat) (f : Nat → Int32) : va_E := match r with
  | 0 => .inr (6, [.ref (E.2.2 g 1), .ref (E.2.2 g 7), .ref (E.2.2 g 11), .int (f 3), .int (f 4)])
  | 1 => .inr (4, [.ref (E.2.2 g 2), .ref (E.2.2 g 3), .ref (E.2.2 g 4), .ref (E.2.2 g 5), .ref (E.2.2 g 6), .int (f 5), .int (f 6)])
  | 7 => .inr (0, [.ref (E.2.2 g 8), .ref (E.2.2 g 9), .ref (E.2.2 g 10), .int (f 3)])
  | 11 => .inr (2, [.ref (E.2.2 g 12), .ref (E.2.2 g 13), .ref (E.2.2 g 14), .ref (E.2.2 g 15), .ref (E.2.2 g 16), .ref (E.2.2 g 17), .ref (E.2.2 g 18), .int (f 7), .int (f 8), .int (f 9), .int (f 10), .int (f 11)])
  | 20 => .inr (5, [.ref (E.2.2 g 21), .ref (E.2.2 g 22), .int (f 2), .int (f 3), .int (f 4), .int (f 5)])
  | 23 => .inr (1, [.ref (E.2.2 g 24), .int (f 1), .int (f 2)])
  | 24 => .inl (E.2.1.2.2.1, 5, .inr (.inr (.inr (.inr (fun j => some (E.2.2 (2 + j) 0))))))
  | 25 => .inr (3, [.ref (E.2.2 g 26), .int (f 1), .int (f 2), .int (f 3), .int (f 4), .int (f 5), .int (f 6), .int (f 7)])
  | 26 => .inl (E.2.1.2.1, 80, .inl f)
  | 27 => .inr (7, [.ref (E.2.2 0 0), .ref (E.2.2 1 0), .ref (E.2.2 7 20), .ref (E.2.2 8 23), .ref (E.2.2 9 25), .int (f 5), .int (f 6), .int (f 7)])
  | 31 => .inl (E.2.1.2.2.2.1, 64, .inr (.inl (jl f)))
  | r => .inl (E.2.1.1, len r, .inl f)
def tyE (E : En) : List (ClassId × FieldType) := [(E.2.1.1, .int), (E.2.1.2.1, .char), (E.2.1.2.2.1, .object RX6), (E.2.1.2.2.2.1, .long)]
def wl (E : En) (M : Mem) : va_W := (ix E).map (fun q => (E.2.2 q.1 q.2, cel E q.1 q.2 (M q.1 q.2)))
def AA (E : En) : Nat → Prop := fun q => ∃ x ∈ ix E, q = E.2.2 x.1 x.2
def AdOK (E : En) : Prop := ∀ x ∈ ix E, ∀ y ∈ ix E, E.2.2 x.1 x.2 = E.2.2 y.1 y.2 → x = y
def Wd (E : En) (M : Mem) (U : State) : Prop := va_P E.1 vwCl (wl E M) U.heap ∧ va_K E.1 vwCl (tyE E) U ∧ NK U
theorem wl_get {E : En} {M : Mem} {i g r : Nat} (h : (ix E)[i]? = some (g, r)) : (wl E M)[i]? = some (E.2.2 g r, cel E g r (M g r)) := by simp [wl, h]
theorem wl_at {E : En} {M : Mem} {g r : Nat} (h : (g, r) ∈ ix E) : ∃ i : Nat, (ix E)[i]? = some (g, r) ∧ (wl E M)[i]? = some (E.2.2 g r, cel E g r (M g r)) := by
  obtain ⟨i, hi⟩ := List.getElem?_of_mem h
  exact ⟨i, hi, wl_get hi⟩
theorem wl_set {E : En} {M : Mem} {i g r : Nat} (h : (ix E)[i]? = some (g, r)) {f : Nat → Int32} {e : va_E} (he : cel E g r f = e) : (wl E M).set i (E.2.2 g r, e) = wl E (sr M g r f) := by
  subst he
  apply List.ext_getElem?
  intro j
  rw [List.getElem?_set]
  by_cases hij : i = j
  · subst hij
    have hlt : i < (wl E M).length := by
      have h1 := (List.getElem?_eq_some_iff.mp h).1
      simpa [wl] using h1
    rw [if_pos rfl, if_pos hlt, wl_get h, sr_at]
  · rw [if_neg hij]
    cases hj : (ix E)[j]? with
    | none => simp [wl, hj]
    | some y =>
      obtain ⟨g', r'⟩ := y
      rw [wl_get hj, wl_get hj, sr_ne]
      rintro ⟨rfl, rfl⟩
      exact hij (idx_inj h hj)
theorem wl_D {E : En} (hA : AdOK E) {A : Nat → Prop} (hs : ∀ q, AA E q → A q) (M : Mem) : va_D A (wl E M) := by
  refine ⟨fun i j x y hx hy hxy => ?_, fun k q hq => ?_⟩
  · simp only [wl, List.getElem?_map, Option.map_eq_some_iff] at hx hy
    obtain ⟨a, ha, rfl⟩ := hx
    obtain ⟨b, hb, rfl⟩ := hy
    have hab := hA a (List.mem_of_getElem? ha) b (List.mem_of_getElem? hb) hxy
    subst hab
    exact idx_inj ha hb
  · simp only [wl, List.getElem?_map, Option.map_eq_some_iff] at hq
    obtain ⟨a, ha, rfl⟩ := hq
    exact hs _ ⟨a, List.mem_of_getElem? ha, rfl⟩
/-! words of programs -/
def gd {α : Type} (c : Prop) [Decidable c] (x : Option α) : Option α := if c then x else none
def bd {α β : Type} (x : α) (k : α → β) : β := k x
def bO {α β : Type} (x : Option α) (k : α → Option β) : Option β := match x with
  | none => none
  | some v => k v
def bP {α β : Type} (x : Option (α × Mem)) (k : α → Mem → Option β) : Option β := match x with
  | none => none
  | some v => k v.1 v.2
noncomputable def itr {α : Type} (b : α → α) (z : α) (n : Nat) : α := Nat.rec z (fun _ ih => b ih) n
def FU : Nat := 10000
abbrev inb (i : Int32) (n : Nat) : Prop := 0 ≤ i.toInt ∧ i.toInt < n
abbrev isB (v : Int32) : Prop := v = 0 ∨ v = 1
theorem gd_e {α : Type} {c : Prop} [Decidable c] {x : Option α} {r : α} (h : gd c x = some r) : c ∧ x = some r := by
  unfold gd at h
  by_cases hc : c
  · rw [if_pos hc] at h; exact ⟨hc, h⟩
  · rw [if_neg hc] at h; cases h
theorem bd_e {α β : Type} {x y : α} {k : α → β} {r : β} (h : bd x k = r) (e : y = x) : k y = r := by subst e; exact h
theorem bO_e {α β : Type} {x : Option α} {k : α → Option β} {r : β} (h : bO x k = some r) : ∃ v, x = some v ∧ k v = some r := by
  cases x with
  | none => cases h
  | some v => exact ⟨v, rfl, h⟩
theorem bP_e {α β : Type} {x : Option (α × Mem)} {k : α → Mem → Option β} {r : β} (h : bP x k = some r) : ∃ v M, x = some (v, M) ∧ k v M = some r := by
  cases x with
  | none => cases h
  | some v => exact ⟨v.1, v.2, rfl, h⟩
theorem br_1 {α : Type} {c : Prop} [Decidable c] {x y : Option α} {r : α} (h : (if c then x else y) = some r) (hc : c) : x = some r := by rw [if_pos hc] at h; exact h
theorem br_0 {α : Type} {c : Prop} [Decidable c] {x y : Option α} {r : α} (h : (if c then x else y) = some r) (hc : ¬ c) : y = some r := by rw [if_neg hc] at h; exact h
theorem sw_ne {x n : Int32} {v : Int} (h : ¬ x = n) (hv : n.toInt = v) : x.toInt ≠ v := fun e => h (Int32.toInt_inj.mp (e.trans hv.symm))
theorem inb_vp {i : Int32} {n : Nat} (h : inb i n) : vp_in i n := vp_in_iff.mpr h
theorem isB_n {v : Int32} (h : isB v) : narrow .boolean (.int v) = .int v := by rcases h with rfl | rfl <;> rfl
theorem isB_f {v : Int32} (h : isB v) : fits .boolean (.int v) = true := by rcases h with rfl | rfl <;> rfl
/-! contracts over the world -/
abbrev Wm (y : MethodName) (b : ByteArray) (maxL : Nat) (ret : Option FieldType) : List Cond := Cond.code y b maxL ret :: wsL_law
def QI (E : En) (r : Int32) (M : Mem) : Array Value → State → Outcome → State → Prop := va_Qi (fun r' (_ : Unit) => r' = r) (fun _ t => Wd E M t) (AA E)
def QV (E : En) (M : Mem) : Array Value → State → Outcome → State → Prop := va_Qv (fun (_ : Unit) => True) (fun _ t => Wd E M t) (AA E)
def QR (E : En) (g : Nat) (M : Mem) : Array Value → State → Outcome → State → Prop := va_Qr (fun (_ : Unit) => True) (fun _ a t => a = E.2.2 g 0 ∧ Wd E M t) (AA E)
def Cx (E : En) (A : Nat → Prop) (p : Program) (s : State) (m : MethodId) (c : Code) (args : Array Value) (cc : ByteArray) (nL : Nat) (own : String) : Prop := CallFix p m c cc nL s args wsL_law own ∧ (va_K E.1 vwCl (tyE E) s ∧ NK s) ∧ AdOK E ∧ ∀ q, AA E q → A q
/-- what a call needs of its callee, once for each callee -/
def Pk (C : String) (y : MethodName) (bytes : ByteArray) (maxL : Nat) (ret : Option FieldType) (n : Nat) : Prop :=
  Cond.code y bytes maxL ret ∈ wsL_law ∧ Cond.initialized y.cls ∈ wsL_law ∧ y.cls = C ∧ (y.cls ≠ "java/lang/invoke/MethodHandle" ∧ y.cls ≠ "java/lang/invoke/VarHandle" ∧ (parseMethodDescriptor y.desc).map (fun d => d.parameters.length) = some n)
theorem Wm_good {y y' : MethodName} {b b' : ByteArray} {maxL maxL' : Nat} {ret ret' : Option FieldType} (h : Cond.code y b maxL ret ∈ wsL_law) : GoodIn wsL_law (Wm y b maxL ret) := fun w hw => (List.mem_cons.mp hw).elim (fun e => by subst e; exact ⟨h, (wsL_law_good _ h).2⟩) (fun h => ⟨h, (wsL_law_good _ h).2⟩)
theorem Wd_blind {E : En} {M : Mem} {av : List Value} : FrameBlind (va_Pc av (Wd E M)) := fun a U g mk q => ⟨q.1, q.2.1, va_K.moved (u := U) (U := U.calling g mk a) (Vm.Alike.refl U.vm) q.2.2.1, NK.same (u := U) (U := U.calling g mk a) rfl q.2.2.2⟩
section MW
variable {p : Program} {l : Launch} {e : Env} {R : Room} {s : State} {m : MethodId} {args : Array Value} {below : List Frame} {meth : Method} {c : Code} {H : Heap} {locs : List Loc} {cells slots : Nat} {Q : State → Prop} {cc : ByteArray} {pc nL : Nat} {ls : Array Slot} {rest : List Value} {E : En} {M : Mem} {own : String} {H0 : Heap} {A : Nat → Prop}
theorem mw_get (X : Cx E A p s m c args cc nL own) (hP : va_P E.1 vwCl (wl E M) H) {C : String} {T : u_T} {N ci index g r : Nat} (hin : ∀ w ∈ u_ws C T N, w ∈ wsL_law) (hm : (g, r) ∈ ix E) {fs : List Value} (he : cel E g r (M g r) = .inr (ci, fs)) (hc : vwCl[ci]? = some (C, T, N)) (k : Nat) (hk : k < N) (hl : Cond.fieldLink own index (T k).1 (T k).2.1 (T k).2.2.1 ∈ wsL_law) {v : Value} (hv : fs[k]? = some v) (hdg : decode cc pc = .ok (.getfield index, 3)) (kk : W p l e R s m args below meth c H locs cells slots Q (F0 m (pc + 3) ls (v :: rest))) : W p l e R s m args below meth c H locs cells slots Q (F0 m pc ls (.ref (E.2.2 g r) :: rest)) := by
  obtain ⟨i, -, hi⟩ := wl_at (E := E) (M := M) hm
  rw [he] at hi
  exact va_get X.1.1 X.1.2.1 X.1.2.2.2.2 hin X.1.2.2.2.1 X.2.1.1 hP i hi hc k hk (X.1.2.2.2.2 _ hl) (fun _ h => h) hv hdg kk
theorem mw_put (X : Cx E A p s m c args cc nL own) (hP : va_P E.1 vwCl (wl E M) H) (hS : va_S A H0 H locs) {C : String} {T : u_T} {N ci index g r : Nat} (hin : ∀ w ∈ u_ws C T N, w ∈ wsL_law) (ty0 : Nat → FieldType) (hty : ∀ k, k < N → parseFieldDescriptor (T k).2.2.1 = some (ty0 k)) (hnm : ∀ a, a < N → ∀ b, b < N → a ≠ b → (T a).2.1 ≠ (T b).2.1) (hm : (g, r) ∈ ix E) {fs : List Value} (he : cel E g r (M g r) = .inr (ci, fs)) (hc : vwCl[ci]? = some (C, T, N)) (k : Nat) (hk : k < N) (hl : Cond.fieldLink own index (T k).1 (T k).2.1 (T k).2.2.1 ∈ wsL_law) (hfin : (T k).2.2.2 = false) {ty : FieldType} {x : Int32} (hd : parseFieldDescriptor (T k).2.2.1 = some ty) (hn : narrow ty (.int x) = .int x) (hfit : fits ty (.int x) = true) (hlen : k < fs.length) (hs : cel E g r (upd (M g r) k x) = .inr (ci, fs.set k (.int x))) (hdg : decode cc pc = .ok (.putfield index, 3)) (kk : ∀ (H1 : Heap) (locs1 : List Loc) (M1 : Mem), M1 = st M g r k x → va_P E.1 vwCl (wl E M1) H1 → va_S A H0 H1 locs1 → W p l e R s m args below meth c H1 locs1 cells slots Q (F0 m (pc + 3) ls rest)) : W p l e R s m args below meth c H locs cells slots Q (F0 m pc ls (.int x :: .ref (E.2.2 g r) :: rest)) := by
  obtain ⟨i, h0, hi⟩ := wl_at (E := E) (M := M) hm
  rw [he] at hi
  refine va_put X.1.1 X.1.2.1 X.1.2.2.2.2 hin ty0 hty hnm X.1.2.2.2.1 X.2.1.1 hP (wl_D X.2.2.1 X.2.2.2 M) hS i hi hc k hk (X.1.2.2.2.2 _ hl) (fun _ h => h) hfin hd hn hfit hlen hdg (fun H1 locs1 hP1 _ hS1 => ?_)
  rw [wl_set h0 hs] at hP1
  exact kk H1 locs1 _ rfl hP1 hS1
theorem mw_getN (X : Cx E A p s m c args cc nL own) (hP : va_P E.1 vwCl (wl E M) H) {C : String} {T : u_T} {N ci index g r : Nat} (hin : ∀ w ∈ u_ws C T N, w ∈ wsL_law) (hm : (g, r) ∈ ix E) {fs : List Value} (he : cel E g r (M g r) = .inr (ci, fs)) (hc : vwCl[ci]? = some (C, T, N)) (k : Nat) (hk : k < N) (hl : (own, index, (T k).1, (T k).2.1, (T k).2.2.1) ∈ nestF) {v : Value} (hv : fs[k]? = some v) (hdg : decode cc pc = .ok (.getfield index, 3)) (kk : W p l e R s m args below meth c H locs cells slots Q (F0 m (pc + 3) ls (v :: rest))) : W p l e R s m args below meth c H locs cells slots Q (F0 m pc ls (.ref (E.2.2 g r) :: rest)) := by
  obtain ⟨i, -, hi⟩ := wl_at (E := E) (M := M) hm
  rw [he] at hi
  exact va_getN (host := "SealedGroups") X.1.1 X.1.2.1 X.1.2.2.2.2 hin X.1.2.2.2.1 X.2.1.1 hP i hi hc k hk (va_Nw.use rfl (X.2.1.2.1 _ hl)) (fun _ h => h) hv hdg kk
theorem mw_putN (X : Cx E A p s m c args cc nL own) (hP : va_P E.1 vwCl (wl E M) H) (hS : va_S A H0 H locs) {C : String} {T : u_T} {N ci index g r : Nat} (hin : ∀ w ∈ u_ws C T N, w ∈ wsL_law) (ty0 : Nat → FieldType) (hty : ∀ k, k < N → parseFieldDescriptor (T k).2.2.1 = some (ty0 k)) (hnm : ∀ a, a < N → ∀ b, b < N → a ≠ b → (T a).2.1 ≠ (T b).2.1) (hm : (g, r) ∈ ix E) {fs : List Value} (he : cel E g r (M g r) = .inr (ci, fs)) (hc : vwCl[ci]? = some (C, T, N)) (k : Nat) (hk : k < N) (hl : (own, index, (T k).1, (T k).2.1, (T k).2.2.1) ∈ nestF) (hfin : (T k).2.2.2 = false) {ty : FieldType} {x : Int32} (hd : parseFieldDescriptor (T k).2.2.1 = some ty) (hn : narrow ty (.int x) = .int x) (hfit : fits ty (.int x) = true) (hlen : k < fs.length) (hs : cel E g r (upd (M g r) k x) = .inr (ci, fs.set k (.int x))) (hdg : decode cc pc = .ok (.putfield index, 3)) (kk : ∀ (H1 : Heap) (locs1 : List Loc) (M1 : Mem), M1 = st M g r k x → va_P E.1 vwCl (wl E M1) H1 → va_S A H0 H1 locs1 → W p l e R s m args below meth c H1 locs1 cells slots Q (F0 m (pc + 3) ls rest)) : W p l e R s m args below meth c H locs cells slots Q (F0 m pc ls (.int x :: .ref (E.2.2 g r) :: rest)) := by
  obtain ⟨i, h0, hi⟩ := wl_at (E := E) (M := M) hm
  rw [he] at hi
  refine va_putN (host := "SealedGroups") X.1.1 X.1.2.1 X.1.2.2.2.2 hin ty0 hty hnm X.1.2.2.2.1 X.2.1.1 hP (wl_D X.2.2.1 X.2.2.2 M) hS i hi hc k hk (va_Nw.use rfl (X.2.1.2.1 _ hl)) (fun _ h => h) hfin hd hn hfit hlen hdg (fun H1 locs1 hP1 _ hS1 => ?_)
  rw [wl_set h0 hs] at hP1
  exact kk H1 locs1 _ rfl hP1 hS1
theorem mw_ld (X : Cx E A p s m c args cc nL own) (hP : va_P E.1 vwCl (wl E M) H) {g r n : Nat} (hm : (g, r) ∈ ix E) (hc : cel E g r (M g r) = .inl (E.2.1.1, n, .inl (M g r))) {i v : Int32} (hin : vp_in i n) (hv : M g r i.toNatClampNeg = v) (hdg : decode cc pc = .ok (.iaload, 1)) (kk : W p l e R s m args below meth c H locs cells slots Q (F0 m (pc + 1) ls (.int v :: rest))) : W p l e R s m args below meth c H locs cells slots Q (F0 m pc ls (.int i :: .ref (E.2.2 g r) :: rest)) := by
  obtain ⟨j, -, hj⟩ := wl_at (E := E) (M := M) hm
  rw [hc] at hj
  subst hv
  exact va_iald X.1.1 X.1.2.1 X.2.1.1 hP j 0 hj rfl hin hdg kk
theorem mw_cld (X : Cx E A p s m c args cc nL own) (hP : va_P E.1 vwCl (wl E M) H) {g r n : Nat} (hm : (g, r) ∈ ix E) (hc : cel E g r (M g r) = .inl (E.2.1.2.1, n, .inl (M g r))) {i v : Int32} (hin : vp_in i n) (hv : M g r i.toNatClampNeg = v) (hdg : decode cc pc = .ok (.caload, 1)) (kk : W p l e R s m args below meth c H locs cells slots Q (F0 m (pc + 1) ls (.int v :: rest))) : W p l e R s m args below meth c H locs cells slots Q (F0 m pc ls (.int i :: .ref (E.2.2 g r) :: rest)) := by
  obtain ⟨j, -, hj⟩ := wl_at (E := E) (M := M) hm
  rw [hc] at hj
  subst hv
  exact va_cald X.1.1 X.1.2.1 X.2.1.1 hP j 1 hj rfl hin hdg kk
theorem mw_st (X : Cx E A p s m c args cc nL own) (hP : va_P E.1 vwCl (wl E M) H) (hS : va_S A H0 H locs) {g r n : Nat} (hm : (g, r) ∈ ix E) (hc : ∀ f, cel E g r f = .inl (E.2.1.1, n, .inl f)) {i x : Int32} {j : Nat} (hin : vp_in i n) (hj : i.toNatClampNeg = j) (hdg : decode cc pc = .ok (.iastore, 1)) (kk : ∀ (H1 : Heap) (locs1 : List Loc) (M1 : Mem), M1 = st M g r j x → va_P E.1 vwCl (wl E M1) H1 → va_S A H0 H1 locs1 → W p l e R s m args below meth c H1 locs1 cells slots Q (F0 m (pc + 1) ls rest)) : W p l e R s m args below meth c H locs cells slots Q (F0 m pc ls (.int x :: .int i :: .ref (E.2.2 g r) :: rest)) := by
  obtain ⟨q, h0, hq⟩ := wl_at (E := E) (M := M) hm
  rw [hc] at hq
  subst hj
  refine va_iast X.1.1 X.1.2.1 X.2.1.1 hP (wl_D X.2.2.1 X.2.2.2 M) hS q 0 hq rfl hin hdg (fun H1 locs1 hP1 _ hS1 => ?_)
  rw [wl_set h0 (hc _)] at hP1
  exact kk H1 locs1 _ rfl hP1 hS1
theorem mw_cst (X : Cx E A p s m c args cc nL own) (hP : va_P E.1 vwCl (wl E M) H) (hS : va_S A H0 H locs) {g r n : Nat} (hm : (g, r) ∈ ix E) (hc : ∀ f, cel E g r f = .inl (E.2.1.2.1, n, .inl f)) {i x : Int32} {j : Nat} (hin : vp_in i n) (hj : i.toNatClampNeg = j) (hdg : decode cc pc = .ok (.castore, 1)) (kk : ∀ (H1 : Heap) (locs1 : List Loc) (M1 : Mem), M1 = st M g r j (vp_nar .char x) → va_P E.1 vwCl (wl E M1) H1 → va_S A H0 H1 locs1 → W p l e R s m args below meth c H1 locs1 cells slots Q (F0 m (pc + 1) ls rest)) : W p l e R s m args below meth c H locs cells slots Q (F0 m pc ls (.int x :: .int i :: .ref (E.2.2 g r) :: rest)) := by
  obtain ⟨q, h0, hq⟩ := wl_at (E := E) (M := M) hm
  rw [hc] at hq
  subst hj
  refine va_cast X.1.1 X.1.2.1 X.2.1.1 hP (wl_D X.2.2.1 X.2.2.2 M) hS q 1 hq rfl hin hdg (fun H1 locs1 hP1 _ hS1 => ?_)
  rw [wl_set h0 (hc _)] at hP1
  exact kk H1 locs1 _ rfl hP1 hS1
theorem mw_len (X : Cx E A p s m c args cc nL own) (hP : va_P E.1 vwCl (wl E M) H) {g r n : Nat} (hm : (g, r) ∈ ix E) (hc : cel E g r (M g r) = .inl (E.2.1.1, n, .inl (M g r))) {v : Int32} (hv : Int32.ofNat n = v) (hdg : decode cc pc = .ok (.arraylength, 1)) (kk : W p l e R s m args below meth c H locs cells slots Q (F0 m (pc + 1) ls (.int v :: rest))) : W p l e R s m args below meth c H locs cells slots Q (F0 m pc ls (.ref (E.2.2 g r) :: rest)) := by
  obtain ⟨j, -, hj⟩ := wl_at (E := E) (M := M) hm
  rw [hc] at hj
  exact va_alen X.1.1 X.1.2.1 X.2.1.1 hP j 0 hj (ty := .int) rfl hv hdg kk
theorem mw_cpy (X : Cx E A p s m c args cc nL own) (hP : va_P E.1 vwCl (wl E M) H) (hS : va_S A H0 H locs) (hls : ls.size = nL) {g r g1 r1 n0 n1 index : Nat} (hm : (g, r) ∈ ix E) (hc : cel E g r (M g r) = .inl (E.2.1.1, n0, .inl (M g r))) (hm1 : (g1, r1) ∈ ix E) (hc1 : ∀ f, cel E g1 r1 f = .inl (E.2.1.1, n1, .inl f)) {sp dp n : Int32} (h1 : ¬ sp < 0) (h2 : ¬ dp < 0) (h3 : ¬ n < 0) (h4 : sp.toNatClampNeg + n.toNatClampNeg ≤ n0) (h5 : dp.toNatClampNeg + n.toNatClampNeg ≤ n1) (hR : 1 ≤ R.frames ∧ 8 + (nativeFrameWords "java/lang/System" "arraycopy" 5 + 11) ≤ R.locals) (hW : (rest.map fun v => v.category).sum ≤ 8) (hl : Cond.methodLink own index arraycopyName ∈ wsL_law) (hw1 : Cond.native arraycopyName ∈ wsL_law) (hw2 : Cond.static arraycopyName ∈ wsL_law) (hw3 : Cond.initialized "java/lang/System" ∈ wsL_law) (hdg : decode cc pc = .ok (.invokestatic index, 3)) (kk : ∀ (H1 : Heap) (locs1 : List Loc) (M1 : Mem), M1 = sr M g1 r1 (va_cpy (M g r) (M g1 r1) sp.toNatClampNeg dp.toNatClampNeg n.toNatClampNeg) → va_P E.1 vwCl (wl E M1) H1 → va_S A H0 H1 locs1 → W p l e R s m args below meth c H1 locs1 cells slots Q (F0 m (pc + 3) ls rest)) : W p l e R s m args below meth c H locs cells slots Q (F0 m pc ls (.int n :: .int dp :: .ref (E.2.2 g1 r1) :: .int sp :: .ref (E.2.2 g r) :: rest)) := by
  obtain ⟨q, -, hq⟩ := wl_at (E := E) (M := M) hm
  rw [hc] at hq
  obtain ⟨q1, h01, hq1⟩ := wl_at (E := E) (M := M) hm1
  rw [hc1] at hq1
  have ht := X.1.2.2.2.2
  refine va_copyi X.1.1 X.1.2.1 (X.1.2.2.1.trans hls.symm) X.1.2.2.2.1 (ht _ hl) (ht _ hw1) (ht _ hw2) (ht _ hw3) X.2.1.1 hP (wl_D X.2.2.1 X.2.2.2 M) hS q q1 0 0 (ty := .int) hq hq1 rfl rfl rfl h1 h2 h3 h4 h5 (fun _ _ => rfl) hR.1 (by omega) hdg (fun H1 locs1 hP1 _ hS1 => ?_)
  rw [wl_set h01 (hc1 _)] at hP1
  exact kk H1 locs1 _ rfl hP1 hS1
theorem mw_max (X : Cx E A p s m c args cc nL own) (hls : ls.size = nL) {index : Nat} (hR : 1 ≤ R.frames ∧ 21 ≤ R.locals) (hcs : cells ≤ R.cells ∧ slots ≤ R.slots) (hW : (rest.map fun v => v.category).sum ≤ 8) (hl : Cond.methodLink own index Lib.Math.max.name ∈ wsL_law) (hw1 : Cond.static Lib.Math.max.name ∈ wsL_law) (hw2 : Cond.initialized "java/lang/Math" ∈ wsL_law) (hw3 : Cond.code Lib.Math.max.name Lib.Math.max.code 2 (some .int) ∈ wsL_law) {x y : Int32} (hdg : decode cc pc = .ok (.invokestatic index, 3)) (kk : W p l e R s m args below meth c H locs cells slots Q (F0 m (pc + 3) ls (.int (if x < y then y else x) :: rest))) : W p l e R s m args below meth c H locs cells slots Q (F0 m pc ls (.int y :: .int x :: rest)) := by
  have ht := X.1.2.2.2.2
  exact va_mmax X.1.1 X.1.2.1 (X.1.2.2.1.trans hls.symm) X.1.2.2.2.1 (ht _ hl) (ht _ hw1) (ht _ hw2) (ht _ hw3) hR.1 (by omega) hcs.1 hcs.2 hdg kk
theorem mw_min (X : Cx E A p s m c args cc nL own) (hls : ls.size = nL) {index : Nat} (hR : 1 ≤ R.frames ∧ 21 ≤ R.locals) (hcs : cells ≤ R.cells ∧ slots ≤ R.slots) (hW : (rest.map fun v => v.category).sum ≤ 8) (hl : Cond.methodLink own index Lib.Math.min.name ∈ wsL_law) (hw1 : Cond.static Lib.Math.min.name ∈ wsL_law) (hw2 : Cond.initialized "java/lang/Math" ∈ wsL_law) (hw3 : Cond.code Lib.Math.min.name Lib.Math.min.code 2 (some .int) ∈ wsL_law) {x y : Int32} (hdg : decode cc pc = .ok (.invokestatic index, 3)) (kk : W p l e R s m args below meth c H locs cells slots Q (F0 m (pc + 3) ls (.int (if y < x then y else x) :: rest))) : W p l e R s m args below meth c H locs cells slots Q (F0 m pc ls (.int y :: .int x :: rest)) := by
  have ht := X.1.2.2.2.2
  exact va_mmin X.1.1 X.1.2.1 (X.1.2.2.1.trans hls.symm) X.1.2.2.2.1 (ht _ hl) (ht _ hw1) (ht _ hw2) (ht _ hw3) hR.1 (by omega) hcs.1 hcs.2 hdg kk
theorem mw_cb {C : String} {y : MethodName} {bytes : ByteArray} {maxL n index : Nat} {ret : Option FieldType} {rm : Room} (X : Cx E A p s m c args cc nL own) (pk : Pk C y bytes maxL ret n) (hlk : Cond.methodLink own index y ∈ wsL_law) (hR : rm.frames + 1 ≤ R.frames ∧ 8 + (maxL + 11) + rm.locals ≤ R.locals) (hrm : rm.cells = 0 ∧ rm.slots = 0) : CallB R s args own index y bytes maxL ret (Wm y bytes maxL ret) rm 0 0 n :=
  callB_of n X.1.2.2.2.2 (Wm_good (y' := y) (b' := bytes) (maxL' := maxL) (ret' := ret) pk.1) rfl hrm.1 hrm.2 (X.1.2.2.2.2 _ pk.2.1) (X.1.2.2.2.2 _ hlk) pk.2.2.2 hR
theorem mw_pre (X : Cx E A p s m c args cc nL own) (hP : va_P E.1 vwCl (wl E M) H) {av : List Value} : ∀ U : State, U.heap = H → s.WarmedH U.vm → va_Pc av (Wd E M) av.toArray U := fun U hU hW => ⟨rfl, by rw [hU]; exact hP, va_K.moved hW.alike X.2.1.1, X.2.1.2.warm hW⟩
theorem mw_callVi {C : String} {y : MethodName} {bytes : ByteArray} {maxL n index : Nat} {ret : Option FieldType} {rm : Room} {g ro ci : Nat} {fs As st0 : List Value} {q : vw_C} {M1 : Mem} {r : Int32} (X : Cx E A p s m c args cc nL own) (hM : Met l y (Wm y bytes maxL ret) rm (va_Pc (.ref (E.2.2 g ro) :: As) (Wd E M)) (QI E r M1) 0 0 (AA E)) (pk : Pk C y bytes maxL ret n) (him : Cond.instanceMethod y ∈ wsL_law ∧ Cond.selects C y y ∈ wsL_law) (hlk : Cond.methodLink own index y ∈ wsL_law) (hR : rm.frames + 1 ≤ R.frames ∧ 8 + (maxL + 11) + rm.locals ≤ R.locals) (hrm : rm.cells = 0 ∧ rm.slots = 0) (hP : va_P E.1 vwCl (wl E M) H) (hS : va_S A H0 H locs) (hm : (g, ro) ∈ ix E) (he : cel E g ro (M g ro) = .inr (ci, fs)) (hc : vwCl[ci]? = some q) (hq : q.1 = C) (hlen : As.length = n) (hls : ls.size = nL) (hW : (rest.map fun v => v.category).sum ≤ 8) (hcs : cells ≤ R.cells ∧ slots ≤ R.slots) (hst : st0 = As.reverse ++ .ref (E.2.2 g ro) :: rest) (hdg : decode cc pc = .ok (.invokevirtual index, 3))
    (kk : ∀ (H1 : Heap) (locs1 : List Loc), va_P E.1 vwCl (wl E M1) H1 → va_S A H0 H1 locs1 → W p l e R s m args below meth c H1 locs1 cells slots Q (F0 m (pc + 3) ls (.int r :: rest))) : W p l e R s m args below meth c H locs cells slots Q (F0 m pc ls st0) := by
  subst hst
  subst hq
  obtain ⟨i, -, hi⟩ := wl_at (E := E) (M := M) hm
  rw [he] at hi
  refine va_calli (A1 := AA E) (va_runV (As := As) (rest := rest) X.1 hM ⟨mw_cb X pk hlk hR hrm, X.1.2.2.2.2 _ him.1, X.1.2.2.2.2 _ him.2⟩ ⟨Wd_blind, va_recv X.2.1.1 hP hc hi, mw_pre X hP⟩ rfl hlen hls rfl (lv_room hW) hdg hcs) hS (fun q _ h => X.2.2.2 q h) X.2.2.2 (fun r1 u t H1 locs1 ht _ hr hB _ _ hS1 => ?_)
  subst hr
  exact kk H1 locs1 (by rw [← ht]; exact hB.1) hS1
theorem mw_callVv {C : String} {y : MethodName} {bytes : ByteArray} {maxL n index : Nat} {ret : Option FieldType} {rm : Room} {g ro ci : Nat} {fs As st0 : List Value} {q : vw_C} {M1 : Mem} (X : Cx E A p s m c args cc nL own) (hM : Met l y (Wm y bytes maxL ret) rm (va_Pc (.ref (E.2.2 g ro) :: As) (Wd E M)) (QV E M1) 0 0 (AA E)) (pk : Pk C y bytes maxL ret n) (him : Cond.instanceMethod y ∈ wsL_law ∧ Cond.selects C y y ∈ wsL_law) (hlk : Cond.methodLink own index y ∈ wsL_law) (hR : rm.frames + 1 ≤ R.frames ∧ 8 + (maxL + 11) + rm.locals ≤ R.locals) (hrm : rm.cells = 0 ∧ rm.slots = 0) (hP : va_P E.1 vwCl (wl E M) H) (hS : va_S A H0 H locs) (hm : (g, ro) ∈ ix E) (he : cel E g ro (M g ro) = .inr (ci, fs)) (hc : vwCl[ci]? = some q) (hq : q.1 = C) (hlen : As.length = n) (hls : ls.size = nL) (hW : (rest.map fun v => v.category).sum ≤ 8) (hcs : cells ≤ R.cells ∧ slots ≤ R.slots) (hst : st0 = As.reverse ++ .ref (E.2.2 g ro) :: rest) (hdg : decode cc pc = .ok (.invokevirtual index, 3))
    (kk : ∀ (H1 : Heap) (locs1 : List Loc), va_P E.1 vwCl (wl E M1) H1 → va_S A H0 H1 locs1 → W p l e R s m args below meth c H1 locs1 cells slots Q (F0 m (pc + 3) ls rest)) : W p l e R s m args below meth c H locs cells slots Q (F0 m pc ls st0) := by
  subst hst
  subst hq
  obtain ⟨i, -, hi⟩ := wl_at (E := E) (M := M) hm
  rw [he] at hi
  refine va_callv (A1 := AA E) (va_runV (As := As) (rest := rest) X.1 hM ⟨mw_cb X pk hlk hR hrm, X.1.2.2.2.2 _ him.1, X.1.2.2.2.2 _ him.2⟩ ⟨Wd_blind, va_recv X.2.1.1 hP hc hi, mw_pre X hP⟩ rfl hlen hls rfl (lv_room hW) hdg hcs) hS (fun q _ h => X.2.2.2 q h) X.2.2.2 (fun u t H1 locs1 ht _ hr hB _ _ hS1 => ?_)
  exact kk H1 locs1 (by rw [← ht]; exact hB.1) hS1
theorem mw_callVr {C : String} {y : MethodName} {bytes : ByteArray} {maxL n index : Nat} {ret : Option FieldType} {rm : Room} {g ro ci g1 : Nat} {fs As st0 : List Value} {q : vw_C} {M1 : Mem} (X : Cx E A p s m c args cc nL own) (hM : Met l y (Wm y bytes maxL ret) rm (va_Pc (.ref (E.2.2 g ro) :: As) (Wd E M)) (QR E g1 M1) 0 0 (AA E)) (pk : Pk C y bytes maxL ret n) (him : Cond.instanceMethod y ∈ wsL_law ∧ Cond.selects C y y ∈ wsL_law) (hlk : Cond.methodLink own index y ∈ wsL_law) (hR : rm.frames + 1 ≤ R.frames ∧ 8 + (maxL + 11) + rm.locals ≤ R.locals) (hrm : rm.cells = 0 ∧ rm.slots = 0) (hP : va_P E.1 vwCl (wl E M) H) (hS : va_S A H0 H locs) (hm : (g, ro) ∈ ix E) (he : cel E g ro (M g ro) = .inr (ci, fs)) (hc : vwCl[ci]? = some q) (hq : q.1 = C) (hlen : As.length = n) (hls : ls.size = nL) (hW : (rest.map fun v => v.category).sum ≤ 8) (hcs : cells ≤ R.cells ∧ slots ≤ R.slots) (hst : st0 = As.reverse ++ .ref (E.2.2 g ro) :: rest) (hdg : decode cc pc = .ok (.invokevirtual index, 3))
    (kk : ∀ (H1 : Heap) (locs1 : List Loc), va_P E.1 vwCl (wl E M1) H1 → va_S A H0 H1 locs1 → W p l e R s m args below meth c H1 locs1 cells slots Q (F0 m (pc + 3) ls (.ref (E.2.2 g1 0) :: rest))) : W p l e R s m args below meth c H locs cells slots Q (F0 m pc ls st0) := by
  subst hst
  subst hq
  obtain ⟨i, -, hi⟩ := wl_at (E := E) (M := M) hm
  rw [he] at hi
  refine va_callr (A1 := AA E) (va_runV (As := As) (rest := rest) X.1 hM ⟨mw_cb X pk hlk hR hrm, X.1.2.2.2.2 _ him.1, X.1.2.2.2.2 _ him.2⟩ ⟨Wd_blind, va_recv X.2.1.1 hP hc hi, mw_pre X hP⟩ rfl hlen hls rfl (lv_room hW) hdg hcs) hS (fun q _ h => X.2.2.2 q h) X.2.2.2 (fun u ra t H1 locs1 ht _ hr hB _ _ hS1 => ?_)
  obtain ⟨hra, hB⟩ := hB
  subst hra
  exact kk H1 locs1 (by rw [← ht]; exact hB.1) hS1
theorem mw_callSi {C : String} {y : MethodName} {bytes : ByteArray} {maxL n index : Nat} {ret : Option FieldType} {rm : Room} {As st0 : List Value} {M1 : Mem} {r : Int32} (X : Cx E A p s m c args cc nL own) (hM : Met l y (Wm y bytes maxL ret) rm (va_Pc As (Wd E M)) (QI E r M1) 0 0 (AA E)) (pk : Pk C y bytes maxL ret n) (hsy : Cond.static y ∈ wsL_law) (hlk : Cond.methodLink own index y ∈ wsL_law) (hR : rm.frames + 1 ≤ R.frames ∧ 8 + (maxL + 11) + rm.locals ≤ R.locals) (hrm : rm.cells = 0 ∧ rm.slots = 0) (hP : va_P E.1 vwCl (wl E M) H) (hS : va_S A H0 H locs) (hlen : As.length = n) (hls : ls.size = nL) (hW : (rest.map fun v => v.category).sum ≤ 8) (hcs : cells ≤ R.cells ∧ slots ≤ R.slots) (hst : st0 = As.reverse ++ rest) (hdg : decode cc pc = .ok (.invokestatic index, 3))
    (kk : ∀ (H1 : Heap) (locs1 : List Loc), va_P E.1 vwCl (wl E M1) H1 → va_S A H0 H1 locs1 → W p l e R s m args below meth c H1 locs1 cells slots Q (F0 m (pc + 3) ls (.int r :: rest))) : W p l e R s m args below meth c H locs cells slots Q (F0 m pc ls st0) := by
  subst hst
  refine va_calli (A1 := AA E) (va_runS (As := As) (rest := rest) X.1 hM ⟨mw_cb X pk hlk hR hrm, X.1.2.2.2.2 _ hsy⟩ ⟨Wd_blind, mw_pre X hP⟩ rfl hlen hls rfl (lv_room hW) hdg hcs) hS (fun q _ h => X.2.2.2 q h) X.2.2.2 (fun r1 u t H1 locs1 ht _ hr hB _ _ hS1 => ?_)
  subst hr
  exact kk H1 locs1 (by rw [← ht]; exact hB.1) hS1
theorem mw_callSv {C : String} {y : MethodName} {bytes : ByteArray} {maxL n index : Nat} {ret : Option FieldType} {rm : Room} {As st0 : List Value} {M1 : Mem} (X : Cx E A p s m c args cc nL own) (hM : Met l y (Wm y bytes maxL ret) rm (va_Pc As (Wd E M)) (QV E M1) 0 0 (AA E)) (pk : Pk C y bytes maxL ret n) (hsy : Cond.static y ∈ wsL_law) (hlk : Cond.methodLink own index y ∈ wsL_law) (hR : rm.frames + 1 ≤ R.frames ∧ 8 + (maxL + 11) + rm.locals ≤ R.locals) (hrm : rm.cells = 0 ∧ rm.slots = 0) (hP : va_P E.1 vwCl (wl E M) H) (hS : va_S A H0 H locs) (hlen : As.length = n) (hls : ls.size = nL) (hW : (rest.map fun v => v.category).sum ≤ 8) (hcs : cells ≤ R.cells ∧ slots ≤ R.slots) (hst : st0 = As.reverse ++ rest) (hdg : decode cc pc = .ok (.invokestatic index, 3))
    (kk : ∀ (H1 : Heap) (locs1 : List Loc), va_P E.1 vwCl (wl E M1) H1 → va_S A H0 H1 locs1 → W p l e R s m args below meth c H1 locs1 cells slots Q (F0 m (pc + 3) ls rest)) : W p l e R s m args below meth c H locs cells slots Q (F0 m pc ls st0) := by
  subst hst
  refine va_callv (A1 := AA E) (va_runS (As := As) (rest := rest) X.1 hM ⟨mw_cb X pk hlk hR hrm, X.1.2.2.2.2 _ hsy⟩ ⟨Wd_blind, mw_pre X hP⟩ rfl hlen hls rfl (lv_room hW) hdg hcs) hS (fun q _ h => X.2.2.2 q h) X.2.2.2 (fun u t H1 locs1 ht _ hr hB _ _ hS1 => ?_)
  exact kk H1 locs1 (by rw [← ht]; exact hB.1) hS1
/-! ends -/
theorem mw_iret {r0 v : Int32} {M0 : Mem} (X : Cx E (AA E) p s m c args cc nL own) (hr : meth.sig.returnType = some .int) (hlocks : meth.locks = false) (hP : va_P E.1 vwCl (wl E M) H) (hS : va_S (AA E) s.heap H locs) (hv : v = r0) (hM : M = M0) (hdg : decode cc pc = .ok (.ireturn, 1)) : W p l e R s m args below meth c H locs 0 0 (MQ below (QI E r0 M0) args s 0 0 (AA E)) (F0 m pc ls [.int v]) := by
  subst hv; subst hM
  exact W.iret X.1.1 X.1.2.1 hr (fun t ht hW => ⟨⟨v, (), rfl, rfl, by rw [ht]; exact hP, va_K.moved hW.alike X.2.1.1, X.2.1.2.warm hW⟩, hS.F ht⟩) hS.2.2 hdg hlocks
theorem mw_zret {r0 v : Int32} {M0 : Mem} (X : Cx E (AA E) p s m c args cc nL own) (hr : meth.sig.returnType = some .boolean) (hlocks : meth.locks = false) (hP : va_P E.1 vwCl (wl E M) H) (hS : va_S (AA E) s.heap H locs) (hB : isB v) (hv : v = r0) (hM : M = M0) (hdg : decode cc pc = .ok (.ireturn, 1)) : W p l e R s m args below meth c H locs 0 0 (MQ below (QI E r0 M0) args s 0 0 (AA E)) (F0 m pc ls [.int v]) := by
  subst hv; subst hM
  exact W.zret X.1.1 X.1.2.1 hr (isB_n hB) (fun t ht hW => ⟨⟨v, (), rfl, rfl, by rw [ht]; exact hP, va_K.moved hW.alike X.2.1.1, X.2.1.2.warm hW⟩, hS.F ht⟩) hS.2.2 hdg hlocks
theorem mw_vret {M0 : Mem} (X : Cx E (AA E) p s m c args cc nL own) (hr : meth.sig.returnType = none) (hlocks : meth.locks = false) (hP : va_P E.1 vwCl (wl E M) H) (hS : va_S (AA E) s.heap H locs) (hM : M = M0) (hdg : decode cc pc = .ok (.return_, 1)) : W p l e R s m args below meth c H locs 0 0 (MQ below (QV E M0) args s 0 0 (AA E)) (F0 m pc ls []) := by
  subst hM
  exact W.vret X.1.1 X.1.2.1 hr (fun t ht hW => ⟨⟨(), rfl, trivial, by rw [ht]; exact hP, va_K.moved hW.alike X.2.1.1, X.2.1.2.warm hW⟩, hS.F ht⟩) hS.2.2 hdg hlocks
theorem mw_aret {g g0 : Nat} {M0 : Mem} {C : String} (X : Cx E (AA E) p s m c args cc nL own) (hr : meth.sig.returnType = some (.object C)) (hlocks : meth.locks = false) (hP : va_P E.1 vwCl (wl E M) H) (hS : va_S (AA E) s.heap H locs) (hv : g = g0) (hM : M = M0) (hdg : decode cc pc = .ok (.areturn, 1)) : W p l e R s m args below meth c H locs 0 0 (MQ below (QR E g0 M0) args s 0 0 (AA E)) (F0 m pc ls [.ref (E.2.2 g 0)]) := by
  subst hv; subst hM
  exact W.aret X.1.1 X.1.2.1 hr (Or.inl ⟨C, rfl⟩) (Or.inr ⟨_, rfl⟩) (fun t ht hW => ⟨⟨(), E.2.2 g 0, rfl, trivial, rfl, by rw [ht]; exact hP, va_K.moved hW.alike X.2.1.1, X.2.1.2.warm hW⟩, hS.F ht⟩) hS.2.2 hdg hlocks
end MW
theorem Met_ofWF {l : Launch} {y : MethodName} {ws ws' : List Cond} {rm : Room} {Pc : Array Value → State → Prop} {Qc : Array Value → State → Outcome → State → Prop} {mc ms : Nat} {free : Addr → Prop} {cc : ByteArray} {maxL : Nat} {ret : Option FieldType}
    (hy : plainFor y = true) (hw : ws = Cond.code y cc maxL ret :: ws')
    (body : ∀ p e s m args below meth c s₁, BodyLoose p l y (headSpec ws rm) cc maxL ret e s m args below meth c s₁ → c.maxLocals = maxL → Pc args s →
      W p l e (headSpec ws rm).room s m args below meth c s.heap [] 0 0 (MQ below Qc args s mc ms free) (entryFrame m args maxL)) : Met l y ws rm Pc Qc mc ms free := by
  refine MetFree.of_bodySF (code := cc) (maxLocals := maxL) (ret := ret) hy ?_ ?_
  · intro args s m h hn
    obtain ⟨meth, c, h1, h2, h3, h4, h5, h6, -, -⟩ := Cond.code_spec hn (atoms_spec (ws := ws) h _ (by rw [hw]; exact List.mem_cons_self))
    exact ⟨meth, c, h1, h2, h3, h4, h5, h6⟩
  · intro p e s m args below meth c s₁ B hml hP _
    have hh0 : s₁.heap = s.heap := by rw [B.state]; rfl
    obtain ⟨t, a1, o, b1, b2, b3⟩ := body p e s m args below meth c s₁ B hml hP s₁ hh0 (Stand.of_body B)
    exact ⟨t, o, a1, b1, b2, ⟨b3.1, b3.2⟩⟩
