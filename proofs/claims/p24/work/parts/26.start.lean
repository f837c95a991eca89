theorem ao_in : Cond.arrayOver (.object "SealedGroups$Store") ∈ lw_tbl := wt_1 (List.mem_of_getElem? (i := 199) (by decide +kernel))
/-! the law from its entry: its two objects, then law_run -/
theorem arr_known {s : State} {A : Array Value} {ty : FieldType} (h : (Cond.arrayClass ty).before A s = true) (ht : ∀ C, ty ≠ .object C) : ∃ c : ClassId, ArrOfT s c ty ∧ va_RA s c ty := by
  obtain ⟨c, k, comp, h1, h2, h3⟩ := Cond.arrayClass_spec h
  refine ⟨c, fun n z => ⟨(fun k h => by cases h), k, h2, comp, h3⟩, ?_⟩
  cases ty with
  | object C => exact absurd rfl (ht C)
  | _ => exact h1
theorem arrO_known {s : State} {A : Array Value} {C : String} (h : (Cond.arrayOver (.object C)).before A s = true) : ∃ c : ClassId, ArrOfT s c (.object C) ∧ va_RA s c (.object C) := by
  obtain ⟨comp, c, k, h1, -, h3, h4, h5⟩ := Cond.arrayOver_spec h
  exact ⟨c, fun n z => ⟨(fun k h => by cases h), k, h3, comp, h4⟩, k, comp, h3, h4, h1, h5⟩
def adf (a : Nat) (A0 A1 A2 A3 : Nat → Nat) (B : Nat → Nat → Nat) (A4 A5 : Nat → Nat) : Nat → Nat → Nat := fun g => if g = 0 then A0 else if g = 1 then A1 else if g = 7 then A2 else if g = 8 then A3 else if g = 9 then A4 else if g = 11 then A5 else if g = 10 then (fun _ => a) else B (g - 2)
def M00 : Mem := fun _ => Z0
theorem cel_blk {E E1 : En} {g r : Nat} {A : Nat → Nat} {f : Nat → Int32} (h1 : E1.1 = E.1) (h2 : E1.2.1 = E.2.1) (h : E1.2.2 g = A) (hr : r ≠ 24 ∧ r ≠ 27) : cel E1 g r f = cel (E.1, E.2.1, fun _ => A) 0 r f := by
  subst h
  unfold cel
  split <;> simp_all
theorem bk_map {E E1 : En} {g : Nat} {A : Nat → Nat} (h1 : E1.1 = E.1) (h2 : E1.2.1 = E.2.1) (h : E1.2.2 g = A) (lo n : Nat) (hr : ∀ j, j < n → lo + j ≠ 24 ∧ lo + j ≠ 27) : ((List.range n).map (fun j => (g, lo + j))).map (fun q : Nat × Nat => (E1.2.2 q.1 q.2, cel E1 q.1 q.2 (M00 q.1 q.2))) = bk E A lo n := by
  rw [List.map_map]
  unfold bk
  apply List.map_congr_left
  intro j hj
  have hj := List.mem_range.mp hj
  show (E1.2.2 g (lo + j), cel E1 g (lo + j) (Z0 (lo + j))) = _
  rw [cel_blk h1 h2 h (hr j hj), h]
def hbkF (E : En) (A : Nat → Nat) (F : Nat → Option Nat) (B : Nat → Nat → Nat) : va_W := [(A 23, .inr (1, [.ref (A 24), .int 0, .int 0]))] ++ ([(A 24, .inl (E.2.1.2.2.1, 5, .inr (.inr (.inr (.inr F)))))] ++ (bk E (B 0) 0 19 ++ (bk E (B 1) 0 19 ++ (bk E (B 2) 0 19 ++ (bk E (B 3) 0 19 ++ bk E (B 4) 0 19)))))
def sgwF (E : En) (a : Nat) (A0 A1 A2 A3 : Nat → Nat) (F : Nat → Option Nat) (B : Nat → Nat → Nat) (A4 A5 : Nat → Nat) : va_W := [(a, .inr (7, [.ref (A0 0), .ref (A1 0), .ref (A2 20), .ref (A3 23), .ref (A4 25), .int 0, .int 0, .int 0]))] ++ (bk E A0 0 19 ++ (bk E A1 0 19 ++ (bk E A2 20 3 ++ (hbkF E A3 F B ++ (bk E A4 25 2 ++ bk E A5 28 5)))))
theorem vP_l {D : va_G} {x y : va_W} {H : Heap} (h : va_P D vwCl (x ++ y) H) : va_P D vwCl x H := fun k q hq => h k q (by rw [List.getElem?_append_left (List.getElem?_eq_some_iff.mp hq).1]; exact hq)
theorem vP_r {D : va_G} {x y : va_W} {H : Heap} (h : va_P D vwCl (x ++ y) H) : va_P D vwCl y H := fun k q hq => h (x.length + k) q (by rw [List.getElem?_append_right (by omega), show x.length + k - x.length = k by omega]; exact hq)
theorem vD_fst {A : Nat → Prop} {x y : va_W} (e : x.map Prod.fst = y.map Prod.fst) (h : va_D A x) : va_D A y := by
  have at' : ∀ (k : Nat) (q : Nat × va_E), y[k]? = some q → ∃ e2, x[k]? = some (q.1, e2) := by
    intro k q hq
    have h1 : (x.map Prod.fst)[k]? = some q.1 := by rw [e, List.getElem?_map, hq]; rfl
    rw [List.getElem?_map] at h1
    cases hx : x[k]? with
    | none => rw [hx] at h1; cases h1
    | some z =>
      rw [hx] at h1
      have h2 : z.1 = q.1 := Option.some.inj h1
      exact ⟨z.2, by rw [← h2]⟩
  refine ⟨fun i j p q hi hj hpq => ?_, fun k q hq => ?_⟩
  · obtain ⟨e1, h1⟩ := at' i p hi
    obtain ⟨e2, h2⟩ := at' j q hj
    exact h.1 i j _ _ h1 h2 hpq
  · obtain ⟨e1, h1⟩ := at' k q hq
    have h2 := h.2 k (q.1, e1) h1
    exact h2
theorem sgwF_eq (E : En) (a : Nat) (A0 A1 A2 A3 : Nat → Nat) (B : Nat → Nat → Nat) (A4 A5 : Nat → Nat) : sgw E a A0 A1 A2 A3 B A4 ++ bk E A5 28 5 = sgwF E a A0 A1 A2 A3 (fun j => some (B j 0)) B A4 A5 := by
  simp only [sgw, sgwF, hbk, hbkF, List.append_assoc, List.cons_append, List.nil_append]
theorem sgwF_to {E : En} {a : Nat} {A0 A1 A2 A3 : Nat → Nat} {F F' : Nat → Option Nat} {B : Nat → Nat → Nat} {A4 A5 : Nat → Nat} {H : Heap} {A : Nat → Prop} (hF : ∀ j, j < 5 → F j = F' j) (hP : va_P E.1 vwCl (sgwF E a A0 A1 A2 A3 F B A4 A5) H) (hD : va_D A (sgwF E a A0 A1 A2 A3 F B A4 A5)) : va_P E.1 vwCl (sgwF E a A0 A1 A2 A3 F' B A4 A5) H ∧ va_D A (sgwF E a A0 A1 A2 A3 F' B A4 A5) := by
  refine ⟨?_, vD_fst ?_ hD⟩
  · unfold sgwF hbkF at hP ⊢
    have h0 := vP_r (vP_r (vP_r (vP_r hP)))
    have h1 := vP_l h0
    refine (vP_l hP).app ((vP_l (vP_r hP)).app ((vP_l (vP_r (vP_r hP))).app ((vP_l (vP_r (vP_r (vP_r hP)))).app (va_P.app ?_ (vP_r h0)))))
    refine (vP_l h1).app (va_P.app ?_ (vP_r (vP_r h1)))
    intro k q hq
    have hk : k = 0 := by have h2 := (List.getElem?_eq_some_iff.mp hq).1; simp at h2; exact h2
    subst hk
    cases hq
    show H[A3 24]? = some (vp_cell _ _)
    rw [← cell_congr hF]
    exact (vP_l (vP_r h1)) 0 _ rfl
  · simp only [sgwF, hbkF, List.map_append, List.map_cons, List.map_nil]
theorem wl_start (E : En) (hτ : tau E = 0) (a : Nat) (A0 A1 A2 A3 : Nat → Nat) (B : Nat → Nat → Nat) (A4 A5 : Nat → Nat) : wl (E.1, E.2.1, adf a A0 A1 A2 A3 B A4 A5) M00 = sgwF E a A0 A1 A2 A3 (fun j => some (adf a A0 A1 A2 A3 B A4 A5 (2 + j) 0)) B A4 A5 := by
  have b (g : Nat) (A : Nat → Nat) (lo n : Nat) (h : adf a A0 A1 A2 A3 B A4 A5 g = A) (hr : ∀ j, j < n → lo + j ≠ 24 ∧ lo + j ≠ 27) := bk_map (E := E) (E1 := (E.1, E.2.1, adf a A0 A1 A2 A3 B A4 A5)) (g := g) rfl rfl h lo n hr
  have sz (g : Nat) : sgr g = (List.range 19).map (fun j => (g, 0 + j)) := by simp [sgr]
  have e : idx0 = [(10, 27)] ++ (sgr 0 ++ (sgr 1 ++ ((List.range 3).map (fun j => (7, 20 + j)) ++ (([(8, 23)] ++ ([(8, 24)] ++ (sgr 2 ++ (sgr 3 ++ (sgr 4 ++ (sgr 5 ++ sgr 6)))))) ++ ((List.range 2).map (fun j => (9, 25 + j)) ++ (List.range 5).map (fun j => (11, 28 + j))))))) := by decide +kernel
  have e0 : ix (E.1, E.2.1, adf a A0 A1 A2 A3 B A4 A5) = idx0 := by
    show idx0 ++ tmpl.take (tau E) = idx0
    rw [hτ]
    exact List.append_nil _
  unfold wl sgwF hbkF
  rw [e0, e]
  simp only [List.map_append]
  rw [sz 0, sz 1, sz 2, sz 3, sz 4, sz 5, sz 6, b 0 A0 0 19 rfl (by omega), b 1 A1 0 19 rfl (by omega), b 2 (B 0) 0 19 rfl (by omega), b 3 (B 1) 0 19 rfl (by omega), b 4 (B 2) 0 19 rfl (by omega), b 5 (B 3) 0 19 rfl (by omega), b 6 (B 4) 0 19 rfl (by omega), b 7 A2 20 3 rfl (by omega), b 9 A4 25 2 rfl (by omega), b 11 A5 28 5 rfl (by omega)]
  rfl

theorem jl0 : jl (Z0 31) = fun _ => 0 := by
  funext i
  rfl
def A5f (q2 q3 q4 q5 q6 : Nat) : Nat → Nat := fun r => if r = 28 then q2 else if r = 29 then q3 else if r = 30 then q4 else if r = 31 then q5 else q6
theorem bk5 (E : En) (w : va_W) (q2 q3 q4 q5 q6 : Nat) : ((((w ++ [(q2, .inl (E.2.1.1, 5, .inl (fun _ => 0)))]) ++ [(q3, .inl (E.2.1.1, 16, .inl (fun _ => 0)))]) ++ [(q4, .inl (E.2.1.1, 48, .inl (fun _ => 0)))]) ++ [(q5, .inl (E.2.1.2.2.2.1, 64, .inr (.inl (fun _ => 0))))]) ++ [(q6, .inl (E.2.1.1, 8, .inl (fun _ => 0)))] = w ++ bk E (A5f q2 q3 q4 q5 q6) 28 5 := by
  simp only [List.append_assoc, List.cons_append, List.nil_append]
  congr 1
set_option maxHeartbeats 16000000 in
set_option maxRecDepth 100000 in
theorem start_open {p : Program} {e : Env} {s : State} {m : MethodId} {below : List Frame} {meth : Method} {c : Code} (l : Launch) {b L : Nat} {xs : Nat → Int32} (hmath : f_L_law xs L M00 = some 1) (C0 : lw_At p s m meth c b L xs) : W p l e room_1 s m #[Value.ref b] below meth c s.heap [] 0 0 (lw_Z below #[Value.ref b] s) (entryFrame m ([Value.ref b] : List Value).toArray 11) := by
  obtain ⟨hx, hb, hr, hml, hown, hts, hX, hbl, hlocks, hgv⟩ := C0
  have htw : ∀ w ∈ wsL_law, w.before #[Value.ref b] s = true := fun w h => hts w (wsL_law_in w h)
  obtain ⟨c0, i0, hKn0⟩ := u_known (C := RX0) (T := TX0) (N := 4) (n := 4) htw inX0 (htw _ wm_39)
  obtain ⟨c1, i1, hKn1⟩ := u_known (C := RX1) (T := TX1) (N := 3) (n := 3) htw inX1 (htw _ wm_24)
  obtain ⟨c2, i2, hKn2⟩ := u_known (C := RX2) (T := TX2) (N := 12) (n := 12) htw inX2 (htw _ wm_43)
  obtain ⟨c3, i3, hKn3⟩ := u_known (C := RX3) (T := TX3) (N := 8) (n := 8) htw inX3 (htw _ wm_28)
  obtain ⟨c4, i4, hKn4⟩ := u_known (C := RX4) (T := TX4) (N := 7) (n := 7) htw inX4 (htw _ wm_35)
  obtain ⟨c5, i5, hKn5⟩ := u_known (C := RX5) (T := TX5) (N := 6) (n := 6) htw inX5 (htw _ wm_20)
  obtain ⟨c6, i6, hKn6⟩ := u_known (C := RX6) (T := TX6) (N := 5) (n := 5) htw inX6 (htw _ wm_15)
  obtain ⟨c7, i7, hKn7⟩ := u_known (C := RX7) (T := TX7) (N := 8) (n := 8) htw inX7 (htw _ wm_1)
  obtain ⟨dC, dI, hKc⟩ : ∃ (dC : Nat → ClassId) (dI : Nat → Nat → Nat), ∀ (k : Nat) (q : vw_C), vwCl[k]? = some q → u_Kn s q.1 q.2.1 q.2.2 (dC k) (dI k) := by
    refine ⟨fun k => if k = 0 then c0 else if k = 1 then c1 else if k = 2 then c2 else if k = 3 then c3 else if k = 4 then c4 else if k = 5 then c5 else if k = 6 then c6 else c7, fun k => if k = 0 then i0 else if k = 1 then i1 else if k = 2 then i2 else if k = 3 then i3 else if k = 4 then i4 else if k = 5 then i5 else if k = 6 then i6 else i7, ?_⟩
    intro k q hq
    match k, hq with
    | 0, hq => cases hq; exact hKn0
    | 1, hq => cases hq; exact hKn1
    | 2, hq => cases hq; exact hKn2
    | 3, hq => cases hq; exact hKn3
    | 4, hq => cases hq; exact hKn4
    | 5, hq => cases hq; exact hKn5
    | 6, hq => cases hq; exact hKn6
    | 7, hq => cases hq; exact hKn7
    | k + 8, hq => simp [vwCl] at hq
  obtain ⟨cI, hI1, hI2⟩ := arr_known (htw _ wm_3) (fun C h => by cases h)
  obtain ⟨cC, hC1, hC2⟩ := arr_known (htw _ wm_85) (fun C h => by cases h)
  obtain ⟨cJ, hJ1, hJ2⟩ := arr_known (htw _ wm_4) (fun C h => by cases h)
  have hAO : va_AO "SealedGroups$Store" s := va_AO.of (hts _ ao_in)
  obtain ⟨cO, hO1, hO2⟩ := arrO_known hAO
  have hK0 : va_K (dC, dI) vwCl [(cI, .int), (cC, .char), (cO, .object RX6), (cJ, .long)] s := by
    refine ⟨hKc, fun k q hq => ?_⟩
    match k, hq with
    | 0, hq => cases hq; exact ⟨hI1, hI2⟩
    | 1, hq => cases hq; exact ⟨hC1, hC2⟩
    | 2, hq => cases hq; exact ⟨hO1, hO2⟩
    | 3, hq => cases hq; exact ⟨hJ1, hJ2⟩
    | k + 4, hq => simp at hq
  obtain ⟨E, eE⟩ : ∃ E : En, E = ((dC, dI), (cI, cC, cO, cJ, 0), fun _ _ => 0) := ⟨_, rfl⟩
  have hτ : tau E = 0 := by rw [eE]
  have hKK : KK E s := by subst eE; exact ⟨⟨hK0, NK_of hts⟩, hAO⟩
  have X : Cy E p s m c #[Value.ref b] cL_law 11 RL := ⟨⟨hx, hb, hml, hown, htw⟩, hKK⟩
  have hS : va_S (fun q : Nat => s.heap.size ≤ q) s.heap s.heap [] := va_S.rf
  have hA : ∀ q : Nat, s.heap.size ≤ q → (fun q : Nat => s.heap.size ≤ q) q := fun _ h => h
  have hP : va_P E.1 vwCl [] s.heap := fun k q h => by simp at h
  have hD : va_D (fun q : Nat => s.heap.size ≤ q) [] := ⟨fun i j p q h => by simp at h, fun k q h => by simp at h⟩
  have hl := lv_entry ([Value.ref b]) (n := 11) (Nat.le_of_ble_eq_true rfl)
  rw [lg_entry_eq]
  generalize (lg_sl ([Value.ref b]) ++ List.replicate (11 - (lg_sl ([Value.ref b])).length) Slot.unset).toArray = ls at hl ⊢
  have hl : lv_has ls 11 [(0, .ref b)] := hl
  refine cy_new (ci := 7) (fs := [.null, .null, .null, .null, .null, .int 0, .int 0, .int 0]) (C := "SealedGroups") (T := TX7) (N := 8) X inX7 tyX7 tyX7_ok wm_0 wm_1 wm_2 hP hD hS hA rfl (fun j hj => by rcases (show j = 0 ∨ j = 1 ∨ j = 2 ∨ j = 3 ∨ j = 4 ∨ j = 5 ∨ j = 6 ∨ j = 7 by omega) with rfl | rfl | rfl | rfl | rfl | rfl | rfl | rfl <;> rfl) (Nat.le_of_ble_eq_true rfl) (Nat.le_of_ble_eq_true rfl) dL_law_0 (fun q1 H hP hD hS => ?_)
  refine W.widen (k := 1) (n := 8) (by decide) (by decide) ?_
  refine lv_dup hx hb dL_law_3 rfl ?_
  refine cy_ctorI (q := q1) X (c_X7_init l E q1 H.size) pk_X7_init ⟨rfl, wm_9⟩ wm_8 ⟨Nat.le_of_ble_eq_true rfl, Nat.le_of_ble_eq_true rfl⟩ ⟨rfl, rfl⟩ hP hD hS hA hl.1 (Nat.le_of_ble_eq_true rfl) ⟨Nat.le_of_ble_eq_true rfl, Nat.le_of_ble_eq_true rfl⟩ dL_law_4 (fun u H locs hu hP2 hD2 hS => ?_)
  obtain ⟨a, A0, A1, A2, ⟨A3, B⟩, A4⟩ := u
  have hu : a = q1 := hu
  subst hu
  have hP : va_P E.1 vwCl (sgw E a A0 A1 A2 A3 B A4) H := hP2
  have hD : va_D (fun q : Nat => s.heap.size ≤ q) (sgw E a A0 A1 A2 A3 B A4) := hD2
  refine W.widen (k := 141) (n := 6238) (by decide) (by decide) ?_
  refine lv_astore_n (lv' := [(1, .ref a), (0, .ref b)]) hx hb dL_law_7 rfl hl (by decide) rfl (fun ls hl => ?_)
  refine lv_iconst (v := 5) hx hb dL_law_8 (by decide) ?_
  refine cy_newi X wm_3 hP hD hS hA (n := 5) (N' := 5) (by decide) (by decide) (by decide) (Nat.le_of_ble_eq_true rfl) (Nat.le_of_ble_eq_true rfl) dL_law_9 (fun q2 H hP hD hS => ?_)
  refine W.widen (k := 142) (n := 6243) (Nat.le_of_ble_eq_true rfl) (Nat.le_of_ble_eq_true rfl) ?_
  refine lv_astore_n (lv' := [(2, .ref q2), (1, .ref a), (0, .ref b)]) hx hb dL_law_11 rfl hl (by decide) rfl (fun ls hl => ?_)
  refine lv_bipush (v := 16) hx hb dL_law_12 (by decide) ?_
  refine cy_newi X wm_3 hP hD hS hA (n := 16) (N' := 16) (by decide) (by decide) (by decide) (Nat.le_of_ble_eq_true rfl) (Nat.le_of_ble_eq_true rfl) dL_law_14 (fun q3 H hP hD hS => ?_)
  refine W.widen (k := 143) (n := 6259) (Nat.le_of_ble_eq_true rfl) (Nat.le_of_ble_eq_true rfl) ?_
  refine lv_astore_n (lv' := [(3, .ref q3), (2, .ref q2), (1, .ref a), (0, .ref b)]) hx hb dL_law_16 rfl hl (by decide) rfl (fun ls hl => ?_)
  refine lv_bipush (v := 48) hx hb dL_law_17 (by decide) ?_
  refine cy_newi X wm_3 hP hD hS hA (n := 48) (N' := 48) (by decide) (by decide) (by decide) (Nat.le_of_ble_eq_true rfl) (Nat.le_of_ble_eq_true rfl) dL_law_19 (fun q4 H hP hD hS => ?_)
  refine W.widen (k := 144) (n := 6307) (Nat.le_of_ble_eq_true rfl) (Nat.le_of_ble_eq_true rfl) ?_
  refine lv_astore (lv' := [(4, .ref q4), (3, .ref q3), (2, .ref q2), (1, .ref a), (0, .ref b)]) hx hb dL_law_21 hl (by decide) rfl (fun ls hl => ?_)
  refine lv_bipush (v := 64) hx hb dL_law_23 (by decide) ?_
  refine cy_newl X wm_4 hP hD hS hA (n := 64) (N' := 64) (by decide) (by decide) (by decide) (Nat.le_of_ble_eq_true rfl) (Nat.le_of_ble_eq_true rfl) dL_law_25 (fun q5 H hP hD hS => ?_)
  refine W.widen (k := 145) (n := 6371) (Nat.le_of_ble_eq_true rfl) (Nat.le_of_ble_eq_true rfl) ?_
  refine lv_astore (lv' := [(5, .ref q5), (4, .ref q4), (3, .ref q3), (2, .ref q2), (1, .ref a), (0, .ref b)]) hx hb dL_law_27 hl (by decide) rfl (fun ls hl => ?_)
  refine lv_bipush (v := 8) hx hb dL_law_29 (by decide) ?_
  refine cy_newi X wm_3 hP hD hS hA (n := 8) (N' := 8) (by decide) (by decide) (by decide) (Nat.le_of_ble_eq_true rfl) (Nat.le_of_ble_eq_true rfl) dL_law_31 (fun q6 H hP hD hS => ?_)
  refine W.widen (k := 146) (n := 6379) (Nat.le_of_ble_eq_true rfl) (Nat.le_of_ble_eq_true rfl) ?_
  refine lv_astore (lv' := [(6, .ref q6), (5, .ref q5), (4, .ref q4), (3, .ref q3), (2, .ref q2), (1, .ref a), (0, .ref b)]) hx hb dL_law_33 hl (by decide) rfl (fun ls hl => ?_)
  rw [bk5] at hP hD
  obtain ⟨A5, eA5⟩ : ∃ A5 : Nat → Nat, A5 = A5f q2 q3 q4 q5 q6 := ⟨_, rfl⟩
  rw [← eA5] at hP hD
  have hl : lv_has ls 11 [(6, .ref (A5 32)), (5, .ref (A5 31)), (4, .ref (A5 30)), (3, .ref (A5 29)), (2, .ref (A5 28)), (1, .ref a), (0, .ref b)] := by rw [eA5]; exact hl
  rw [sgwF_eq] at hP hD
  obtain ⟨hP, hD⟩ := sgwF_to (F' := fun j => some (adf a A0 A1 A2 A3 B A4 A5 (2 + j) 0)) (by intro j hj; rcases (show j = 0 ∨ j = 1 ∨ j = 2 ∨ j = 3 ∨ j = 4 by omega) with rfl | rfl | rfl | rfl | rfl <;> rfl) hP hD
  rw [← wl_start E hτ a A0 A1 A2 A3 B A4 A5] at hP hD
  have hAd : AdOK (E.1, E.2.1, adf a A0 A1 A2 A3 B A4 A5) := by
    intro x hx y hy hxy
    obtain ⟨i, -, hi⟩ := wl_at (E := (E.1, E.2.1, adf a A0 A1 A2 A3 B A4 A5)) (M := M00) (g := x.1) (r := x.2) hx
    obtain ⟨i1, hix⟩ := List.getElem?_of_mem hx
    obtain ⟨i2, hiy⟩ := List.getElem?_of_mem hy
    have h1 := hD.1 i1 i2 _ _ (wl_get (E := (E.1, E.2.1, adf a A0 A1 A2 A3 B A4 A5)) (M := M00) (g := x.1) (r := x.2) hix) (wl_get (E := (E.1, E.2.1, adf a A0 A1 A2 A3 B A4 A5)) (M := M00) (g := y.1) (r := y.2) hiy) hxy
    subst h1
    rw [hix] at hiy
    exact Option.some.inj hiy
  have hAA : ∀ q, AA (E.1, E.2.1, adf a A0 A1 A2 A3 B A4 A5) q → (fun q : Nat => s.heap.size ≤ q) q := by
    rintro q ⟨x, hx, rfl⟩
    obtain ⟨i1, hix⟩ := List.getElem?_of_mem hx
    exact hD.2 i1 _ (wl_get (E := (E.1, E.2.1, adf a A0 A1 A2 A3 B A4 A5)) (M := M00) (g := x.1) (r := x.2) hix)
  exact law_run l (E.1, E.2.1, adf a A0 A1 A2 A3 B A4 A5) hAd hτ hmath ⟨X.1, ⟨hKK.1.1, hKK.1.2⟩, hAd, hAA⟩ hr hlocks hX hbl (cs := 146) (sl := 6379) ⟨by decide, by decide⟩ hP hS (lv_sub hl [6, 5, 4, 3, 2, 1, 0] rfl)
