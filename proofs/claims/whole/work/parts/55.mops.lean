theorem bP_some {α β : Type} {v : α} {M : Mem} {k : α → Mem → Option β} : bP (some (v, M)) k = k v M := rfl
theorem bO_some {α β : Type} {v : α} {k : α → Option β} : bO (some v) k = k v := rfl
def bs (c : Bool) (p : Nat) : Int32 := if c then (1 : Int32) <<< (nI p &&& 31) else 0
theorem bsh : ∀ c : Bool, ∀ p, p < 8 → (b01 c <<< (nI p &&& 31)) = bs c p := by decide +kernel
theorem or8 : ∀ m, m < 256 → ((((((((0 ||| bs (m.testBit 0) 0) ||| bs (m.testBit 1) 1) ||| bs (m.testBit 2) 2) ||| bs (m.testBit 3) 3) ||| bs (m.testBit 4) 4) ||| bs (m.testBit 5) 5) ||| bs (m.testBit 6) 6) ||| bs (m.testBit 7) 7) = nI m := by decide +kernel
theorem or4 : ∀ m, m < 16 → ((((0 ||| bs (m.testBit 0) 0) ||| bs (m.testBit 1) 1) ||| bs (m.testBit 2) 2) ||| bs (m.testBit 3) 3) = nI m := by decide +kernel
theorem mb8 : ∀ m, m < 256 → f_X8_bits M00 (nI m) = some (nI (pc8 m)) := by decide +kernel
theorem m_bits (M : Mem) {m : Nat} (h : m < 256) : f_X8_bits M (nI m) = some (nI (pc8 m)) := mb8 m h
def OKm (M : Mem) (x : Option (Int32 × Mem)) (S : St) (r : Int32 × St) : Prop := (r.1 < 0 ∧ r.2 = S ∧ x = some (r.1, M)) ∨ (¬ r.1 < 0 ∧ ∀ M9, f_X8_changes M = some M9 → M9 11 29 = M 11 29 → ∃ M', x = some (r.1, M') ∧ RQ (M' 11 29) r.2 ∧ FM M9 M')
theorem m_yes3 (M : Mem) {v : Nat} (hv : v ≤ 3) : f_X8_in M (nI v) 0 3 = some 1 := m_yes M hv (by decide)
theorem m_yes7 (M : Mem) {v : Nat} (hv : v ≤ 7) : f_X8_in M (nI v) 0 7 = some 1 := m_yes M hv (by decide)
theorem m_yes8 (M : Mem) {v : Nat} (hv : v ≤ 8) : f_X8_in M (nI v) 0 8 = some 1 := m_yes M hv (by decide)
theorem m_yes99 (M : Mem) {v : Nat} (hv : v ≤ 99) : f_X8_in M (nI v) 0 99 = some 1 := m_yes M hv (by decide)
theorem m_yes1 (M : Mem) {v : Nat} (hv : v ≤ 1) : f_X8_in M (nI v) 0 1 = some 1 := m_yes M hv (by decide)
theorem m_yes2 (M : Mem) {v : Nat} (hv : v ≤ 2) : f_X8_in M (nI v) 0 2 = some 1 := m_yes M hv (by decide)
theorem m_yes4 (M : Mem) {v : Nat} (hv : v ≤ 4) : f_X8_in M (nI v) 0 4 = some 1 := m_yes M hv (by decide)
section MO
variable {M : Mem} {S T : St} {O O' : Nat → Bool} {b p g n v : Nat} {s s' : Nat → Int32}
theorem m_stop0 (h : RN (M 11 29) S) (q : S 0 5 = 0) : f_X8_isStopped M = some 0 := by
  rw [m_stop h (by omega), decide_eq_false (fun z => z q)]; rfl
theorem m_stop1 (h : RN (M 11 29) S) (h5 : S 0 5 < 2) (q : S 0 5 ≠ 0) : f_X8_isStopped M = some 1 := by
  rw [m_stop h h5, decide_eq_true q]; rfl
theorem m_pages0 (h : RP (M 11 29) S) (hs : S 0 6 < 256) : f_X8_pages M 0 = some (nI (S 0 6)) := by
  have stp : ∀ p n y, p < 8 → itr (f_X8_pages_L4 M) (fun _ _ _ => none) (n + 1) 0 y (nI p) = itr (f_X8_pages_L4 M) (fun _ _ _ => none) n 0 (y ||| bs ((S 0 6).testBit p) p) (nI (p + 1)) := fun p n y hp => by
    rw [itr_s, f_X8_pages_L4, if_neg (by rw [nl8, nL_le (by omega) (by omega)]; omega), if_pos rfl, m_pg2 M hp, bO_some, (h p hp).2.2.1, f_X8_pages_L41, bsh _ p hp, bd, bd, nI_1]
  rw [f_X8_pages, show FU = 9991 + 1 + 1 + 1 + 1 + 1 + 1 + 1 + 1 + 1 from rfl, show itr (f_X8_pages_L4 M) (fun _ _ _ => none) (9991 + 1 + 1 + 1 + 1 + 1 + 1 + 1 + 1 + 1) 0 0 0 = itr (f_X8_pages_L4 M) (fun _ _ _ => none) (9991 + 1 + 1 + 1 + 1 + 1 + 1 + 1 + 1 + 1) 0 0 (nI 0) from rfl, stp 0 _ _ (by omega), stp 1 _ _ (by omega), stp 2 _ _ (by omega), stp 3 _ _ (by omega), stp 4 _ _ (by omega), stp 5 _ _ (by omega), stp 6 _ _ (by omega), stp 7 _ _ (by omega), or8 _ hs, itr_s, f_X8_pages_L4, if_pos (by decide)]
theorem m_pages1 (h : RP (M 11 29) S) (hs : S 0 7 < 256) (hB : Bd b S) (hb : b < 2 ^ 29) (hd : PI S) : f_X8_pages M 1 = some (nI (S 0 7)) := by
  have stp : ∀ p n y, p < 8 → itr (f_X8_pages_L4 M) (fun _ _ _ => none) (n + 1) 1 y (nI p) = itr (f_X8_pages_L4 M) (fun _ _ _ => none) n 1 (y ||| bs ((S 0 7).testBit p) p) (nI (p + 1)) := fun p n y hp => by
    rw [itr_s, f_X8_pages_L4, if_neg (by rw [nl8, nL_le (by omega) (by omega)]; omega), if_neg (by decide), m_dirty h hB hb hp (hd p hp), bO_some, bs]
    cases (S 0 7).testBit p
    · rw [if_pos (show b01 false = 0 from rfl), f_X8_pages_L41, bd, bd, nI_1]; rfl
    · rw [if_neg (show ¬ b01 true = 0 by decide), f_X8_pages_L41, bd, bd, nI_1]; rfl
  rw [f_X8_pages, show FU = 9991 + 1 + 1 + 1 + 1 + 1 + 1 + 1 + 1 + 1 from rfl, show itr (f_X8_pages_L4 M) (fun _ _ _ => none) (9991 + 1 + 1 + 1 + 1 + 1 + 1 + 1 + 1 + 1) 1 0 0 = itr (f_X8_pages_L4 M) (fun _ _ _ => none) (9991 + 1 + 1 + 1 + 1 + 1 + 1 + 1 + 1 + 1) 1 0 (nI 0) from rfl, stp 0 _ _ (by omega), stp 1 _ _ (by omega), stp 2 _ _ (by omega), stp 3 _ _ (by omega), stp 4 _ _ (by omega), stp 5 _ _ (by omega), stp 6 _ _ (by omega), stp 7 _ _ (by omega), or8 _ hs, itr_s, f_X8_pages_L4, if_pos (by decide)]
theorem m_openSet (h : RG (fun g => (S 0 8).testBit g) (M 11 29) S) (hs : S 0 8 < 16) : f_X8_openSet M = some (nI (S 0 8)) := by
  have stp : ∀ p n y, p < 4 → itr (f_X8_openSet_L4 M) (fun _ _ => none) (n + 1) y (nI p) = itr (f_X8_openSet_L4 M) (fun _ _ => none) n (y ||| bs ((S 0 8).testBit p) p) (nI (p + 1)) := fun p n y hp => by
    rw [itr_s, f_X8_openSet_L4, if_neg (by rw [nl4, nL_le (by omega) (by omega)]; omega), m_gr0 M hp, bO_some, (h p hp).1, bsh _ p (by omega), bd, bd, nI_1]
  rw [f_X8_openSet, show FU = 9995 + 1 + 1 + 1 + 1 + 1 from rfl, show itr (f_X8_openSet_L4 M) (fun _ _ => none) (9995 + 1 + 1 + 1 + 1 + 1) 0 0 = itr (f_X8_openSet_L4 M) (fun _ _ => none) (9995 + 1 + 1 + 1 + 1 + 1) 0 (nI 0) from rfl, stp 0 _ _ (by omega), stp 1 _ _ (by omega), stp 2 _ _ (by omega), stp 3 _ _ (by omega), or4 _ hs, itr_s, f_X8_openSet_L4, if_pos (by decide)]
theorem m_holder (h : RG (fun g => (S 0 8).testBit g) (M 11 29) S) (hs : Sm S) (hp : p < 8) (hd : ∀ g g', g < 4 → g' < 4 → hb S g p = true → hb S g' p = true → g = g') : f_X8_holder M (nI p) = some (hol S p) := by
  have stp : ∀ g n y, g < 4 → itr (f_X8_holder_L5 M) (fun _ _ _ => none) (n + 1) (nI p) y (nI g) = itr (f_X8_holder_L5 M) (fun _ _ _ => none) n (nI p) (if hb S g p then nI g else y) (nI (g + 1)) := fun g n y hg => by
    have ho := (h g hg).2
    rw [itr_s, f_X8_holder_L5, if_neg (by rw [nl4, nL_le (by omega) (by omega)]; omega), m_open h hg, bO_some, hb]
    cases q : (S 0 8).testBit g
    · rw [if_pos (show b01 false = 0 from rfl), f_X8_holder_L36, f_X8_holder_L37, bd, nI_1]; rfl
    · rw [if_neg (show ¬ b01 true = 0 by decide), m_gr3 M hg, bO_some, (ho q).2.2, bit8 _ (hs.2.2.2.1 g hg) p hp]
      cases q2 : (S 8 g).testBit p
      · rw [if_neg (show ¬ b01 false = 1 by decide), f_X8_holder_L36, f_X8_holder_L37, bd, nI_1]; rfl
      · rw [if_pos (show b01 true = 1 from rfl), f_X8_holder_L37, bd, nI_1]; rfl
  rw [f_X8_holder, show FU = 9995 + 1 + 1 + 1 + 1 + 1 from rfl, show itr (f_X8_holder_L5 M) (fun _ _ _ => none) (9995 + 1 + 1 + 1 + 1 + 1) (nI p) (-1000004) 0 = itr (f_X8_holder_L5 M) (fun _ _ _ => none) (9995 + 1 + 1 + 1 + 1 + 1) (nI p) (-1000004) (nI 0) from rfl, stp 0 _ _ (by omega), stp 1 _ _ (by omega), stp 2 _ _ (by omega), stp 3 _ _ (by omega), itr_s, f_X8_holder_L5, if_pos (by decide)]
  congr 1
  unfold hol
  cases h0 : hb S 0 p
  · cases h1 : hb S 1 p
    · cases h2 : hb S 2 p <;> cases h3 : hb S 3 p <;> first | rfl | (have := hd 2 3 (by omega) (by omega) h2 h3; omega)
    · cases h2 : hb S 2 p
      · cases h3 : hb S 3 p
        · rfl
        · have := hd 1 3 (by omega) (by omega) h1 h3; omega
      · have := hd 1 2 (by omega) (by omega) h1 h2; omega
  · cases h1 : hb S 1 p
    · cases h2 : hb S 2 p
      · cases h3 : hb S 3 p
        · rfl
        · have := hd 0 3 (by omega) (by omega) h0 h3; omega
      · have := hd 0 2 (by omega) (by omega) h0 h2; omega
    · have := hd 0 1 (by omega) (by omega) h0 h1; omega
theorem m_closes (M : Mem) (hg : g < 4) : ∃ M', f_X8_closes M (nI g) = some M' ∧ FM M M' ∧ ∀ j, M' 11 29 j = if 5 + 4 * g ≤ j ∧ j < 5 + 4 * g + 4 then 0 else M 11 29 j := by
  have lp : ∀ d i fu (M : Mem), i + d = 4 → d < fu → ∃ M', itr (f_X8_closes_L2) (fun _ _ _ => none) fu M (nI g) (nI i) = some M' ∧ FM M M' ∧ ∀ j, M' 11 29 j = if 5 + 4 * g + i ≤ j ∧ j < 5 + 4 * g + 4 then 0 else M 11 29 j := by
    intro d
    induction d with
    | zero =>
      intro i fu M hi hf
      obtain ⟨f, rfl⟩ : ∃ f, fu = f + 1 := ⟨fu - 1, by omega⟩
      have hi : i = 4 := by omega
      subst hi
      refine ⟨M, ?_, FM.rf, fun j => by rw [if_neg (by omega)]⟩
      rw [itr_s, f_X8_closes_L2, if_pos (by decide)]
    | succ d ih =>
      intro i fu M hi hf
      obtain ⟨f, rfl⟩ : ∃ f, fu = f + 1 := ⟨fu - 1, by omega⟩
      obtain ⟨M', e1, f1, c1⟩ := ih (i + 1) f (st M 11 29 (5 + 4 * g + i) 0) (by omega) (by omega)
      refine ⟨M', ?_, FM.rf.s29.tr f1, fun j => ?_⟩
      · rw [itr_s, f_X8_closes_L2, if_neg (by rw [nl4, nL_le (by omega) (by omega)]; omega), m_grp M hg (by omega), bO_some, bd, nI_1]
        exact e1
      · rw [c1, sg]
        by_cases q : j = 5 + 4 * g + i
        · rw [if_neg (by omega), if_pos q, if_pos (by omega)]
        · rw [if_neg q]
          by_cases q2 : 5 + 4 * g + i ≤ j ∧ j < 5 + 4 * g + 4
          · rw [if_pos (by omega), if_pos q2]
          · rw [if_neg (by omega), if_neg q2]
  obtain ⟨M', e1, f1, c1⟩ := lp 4 0 FU M rfl (by decide)
  exact ⟨M', e1, f1, c1⟩
theorem RG_set (h : RG O s S) (hg : g < 4) (e : ∀ i, 5 ≤ i → i < 21 → ¬ (5 + 4 * g ≤ i ∧ i < 5 + 4 * g + 4) → s' i = s i) (eT : ∀ f i, i < 4 → i ≠ g → (f = 6 ∨ f = 7 ∨ f = 8) → T f i = S f i) (eO : ∀ i, i < 4 → i ≠ g → O' i = O i)
    (c : s' (5 + 4 * g) = b01 (O' g) ∧ (O' g = true → s' (5 + 4 * g + 1) = nI (T 6 g) ∧ s' (5 + 4 * g + 2) = nI (T 7 g) ∧ s' (5 + 4 * g + 3) = nI (T 8 g))) : RG O' s' T := by
  intro i hi
  by_cases q : i = g
  · rw [q]; exact c
  · rw [e _ (by omega) (by omega) (by omega), e _ (by omega) (by omega) (by omega), e _ (by omega) (by omega) (by omega), e _ (by omega) (by omega) (by omega), eO i hi q, eT 6 i hi q (by omega), eT 7 i hi q (by omega), eT 8 i hi q (by omega)]
    exact h i hi
theorem Inv_L (h : Inv b S) : S 0 3 < S 0 0 + S 0 1 := by
  have hj := h.2.1
  by_cases z : S 0 3 = 0
  · have := hj.1.2.1
    have := hj.1.2.2.2
    omega
  · have := (JI_dl hj z).2
    have := hj.1.2.2.2
    omega
theorem m_begin (h : RQ (M 11 29) S) (hv : Inv b S) (hg : g < 4) : OKm M (f_X8_begin M (nI g)) S (aBegin S g) := by
  obtain ⟨⟨n1, ⟨n2, n2'⟩, n3, n4, n5, n6, n7, n8, n9⟩, hj, hpi, hr, hst⟩ := id hv
  have y1 := n1 0 1
  have y0 := n1 0 0
  rw [f_X8_begin, m_yes3 M (by omega), bO_some, if_neg (by decide)]
  unfold aBegin
  by_cases q1 : S 0 5 = 0
  · rw [m_stop0 h.1 q1, bO_some, if_pos rfl, m_open h.2.2.1 hg, bO_some]
    cases q2 : (S 0 8).testBit g
    · rw [if_pos (show b01 false = 0 from rfl), if_neg (show ¬ (S 0 5 ≠ 0 ∨ false = true) by simp [q1]), h.1.2.1]
      by_cases q3 : 60 ≤ S 0 1
      · rw [if_neg (by rw [nl60, nL_lt (by omega) (by omega)]; omega), if_pos q3]
        exact Or.inl ⟨by show (-1000003 : Int32) < 0; decide, rfl, rfl⟩
      · rw [if_pos (by rw [nl60, nL_lt (by omega) (by omega)]; omega), if_neg q3]
        refine Or.inr ⟨by rw [nL_neg (by omega)]; exact id, fun M9 e9 h9 => ?_⟩
        have h' : RO (fun g => (S 0 8).testBit g) (M9 11 29) S := by rw [h9]; exact h
        obtain ⟨M1, e1, ⟨k1, k2, k3, k4⟩, f1⟩ := m_app h' n5 (by omega) (Inv_L hv) (kd := 0) (by omega) g 0 0 0 0
        have sO := tset8 (S 0 8) (by have := n9.2.2.1; omega) g (by omega)
        refine ⟨st (st (st (st M1 11 29 (5 + 4 * g) 1) 11 29 (5 + 4 * g + 1) (nI (S 0 0 + S 0 1))) 11 29 (5 + 4 * g + 2) 0) 11 29 (5 + 4 * g + 3) 0, ?_, ?_, f1.s29.s29.s29.s29⟩
        · rw [e9, bO_some, show f_X8_adds M9 (0 : Int32) (nI g) (-1000004 : Int32) (-1000004 : Int32) (-1000004 : Int32) (-1000004 : Int32) = some (nI (S 0 0 + S 0 1), M1) from e1, bP_some, m_grp0 _ hg, bO_some, m_grp1 _ hg, bO_some, m_grp2 _ hg, bO_some, m_grp3 _ hg, bO_some]
        · have lo : ∀ j, ¬ (5 + 4 * g ≤ j ∧ j < 5 + 4 * g + 4) → st (st (st (st M1 11 29 (5 + 4 * g) 1) 11 29 (5 + 4 * g + 1) (nI (S 0 0 + S 0 1))) 11 29 (5 + 4 * g + 2) 0) 11 29 (5 + 4 * g + 3) 0 11 29 j = M1 11 29 j := fun j a => by
            rw [sg, if_neg (by omega), sg, if_neg (by omega), sg, if_neg (by omega), sg, if_neg (by omega)]
          have tO : (ent (app S 0 g 0 0 0 0) g (S 0 0 + S 0 1)) 0 8 = (S 0 8 ||| 2 ^ g) := by simp [ent, app, up]
          show RO (fun i => ((ent (app S 0 g 0 0 0 0) g (S 0 0 + S 0 1)) 0 8).testBit i) _ (ent (app S 0 g 0 0 0 0) g (S 0 0 + S 0 1))
          refine ⟨RN_cg k1 (fun i a => lo i (by omega)) (ent_o (by omega)) (ent_o (by omega)) (ent_o (by omega)) (ent_o (by omega)) (ent_o (by omega)), RP_cg k2 (fun i a c => lo i (by omega)) (fun f i _ hf => ent_o (by omega)), ?_, RR_cg k4 (fun i a c => lo i (by omega)) (ent_o (by omega)) (ent_o (by omega)) (ent_o (by omega)) (fun f i a c => ent_o (by omega))⟩
          refine RG_set k3 hg (fun i a c d => lo i d) (fun f i _ hi hf => ?_) (fun i hi hig => ?_) ⟨?_, fun _ => ⟨?_, ?_, ?_⟩⟩
          · simp only [ent, up]
            rw [if_neg (by omega), if_neg (by omega), if_neg (by omega), if_neg (by omega)]
          · show ((ent (app S 0 g 0 0 0 0) g (S 0 0 + S 0 1)) 0 8).testBit i = _
            rw [tO, sO.2 i (by omega), decide_eq_false hig, Bool.or_false]
          · show _ = b01 (((ent (app S 0 g 0 0 0 0) g (S 0 0 + S 0 1)) 0 8).testBit g)
            rw [tO, sO.2 g (by omega), decide_eq_true rfl, Bool.or_true, sg, if_neg (by omega), sg, if_neg (by omega), sg, if_neg (by omega), sg, if_pos rfl]
            rfl
          · rw [sg, if_neg (by omega), sg, if_neg (by omega), sg, if_pos rfl]
            simp [ent, app, up]
          · rw [sg, if_neg (by omega), sg, if_pos rfl]
            simp [ent, app, up]
            rfl
          · rw [sg, if_pos rfl]
            simp [ent, app, up]
            rfl
    · rw [if_neg (show ¬ b01 true = 0 by decide), if_pos (Or.inr rfl)]
      exact Or.inl ⟨by show (-1000002 : Int32) < 0; decide, rfl, rfl⟩
  · rw [m_stop1 h.1 n9.2.2.2.2 q1, bO_some, if_neg (by decide), if_pos (Or.inl q1)]
    exact Or.inl ⟨by show (-1000002 : Int32) < 0; decide, rfl, rfl⟩
theorem Inv_dj (hv : Inv b S) (hp : p < 8) : ∀ g g', g < 4 → g' < 4 → hb S g p = true → hb S g' p = true → g = g' := by
  intro g g' hg hg' h1 h2
  obtain ⟨-, hj, hpi, hr, hst⟩ := hv
  unfold hb at h1 h2
  rw [Bool.and_eq_true] at h1 h2
  by_cases e : g = g'
  · exact e
  · by_cases q : S 0 5 = 0
    · exact ((hr q).2 g g' p hg hg' hp e h1.1 h2.1 h1.2 h2.2).elim
    · obtain ⟨-, -, z, -⟩ := hst q
      have := h1.1
      rw [z, Nat.zero_testBit] at this
      exact nomatch this
theorem m_write (h : RQ (M 11 29) S) (hv : Inv b S) (hg : g < 4) (hp : p < 8) (hv1 : v < 100) : OKm M (f_X8_write M (nI g) (nI p) (nI v)) S (aWrite S g p v) := by
  obtain ⟨⟨n1, ⟨n2, n2'⟩, n3, n4, n5, n6, n7, n8, n9⟩, hj, hpi, hr, hst⟩ := id hv
  have y1 := n1 0 1
  have y0 := n1 0 0
  have yv := val_le n1 (p := p)
  rw [f_X8_write, m_yes3 M (v := g) (by omega), bO_some, if_neg (by decide), m_yes7 M (v := p) (by omega), bO_some, if_neg (by decide), m_yes99 M (v := v) (by omega), bO_some, if_neg (by decide), m_holder h.2.2.1 n9 hp (Inv_dj hv hp), bO_some]
  unfold aWrite
  by_cases q1 : S 0 5 = 0
  · rw [m_stop0 h.1 q1, bO_some, if_pos rfl, m_open h.2.2.1 hg, bO_some]
    cases q2 : (S 0 8).testBit g
    · rw [if_pos (show b01 false = 0 from rfl), if_pos (Or.inr (Or.inl rfl))]
      exact Or.inl ⟨by show (-1000002 : Int32) < 0; decide, rfl, rfl⟩
    · rw [if_neg (show ¬ b01 true = 0 by decide)]
      have W : OKm M (f_X8_write_L68 M (nI g) (nI p) (nI v)) S (if 60 ≤ S 0 1 then (-1000003, S) else (nI (val S p), hld (put (app S 1 g p (val S p) v 0) p v (S 0 0 + S 0 1)) g p)) := by
        rw [f_X8_write_L68, h.1.2.1]
        by_cases q3 : 60 ≤ S 0 1
        · rw [if_neg (by rw [nl60, nL_lt (by omega) (by omega)]; omega), if_pos q3]
          exact Or.inl ⟨by show (-1000003 : Int32) < 0; decide, rfl, rfl⟩
        · rw [if_pos (by rw [nl60, nL_lt (by omega) (by omega)]; omega), if_neg q3]
          refine Or.inr ⟨by rw [nL_neg (by omega)]; exact id, fun M9 e9 h9 => ?_⟩
          have h' : RO (fun g => (S 0 8).testBit g) (M9 11 29) S := by rw [h9]; exact h
          obtain ⟨M1, e1, r1, f1⟩ := m_app h' n5 (by omega) (Inv_L hv) (kd := 1) (by omega) g p (val S p) v 0
          have B1 : Bd (b + 1) (app S 1 g p (val S p) v 0) := Bd_app n1 (by omega) (by omega) (by omega) (by omega) (by omega) (by omega) (by omega)
          have hX : PP (app S 1 g p (val S p) v 0) p := PP_of (hpi p hp) (by rw [app_o (by omega) (by omega)]) (by rw [app_o (by omega) (by omega)]) (app_o (by omega) (by omega)) (app_o (by omega) (by omega)) (app_o (by omega) (by omega)) (by rw [app_F, app_N]; omega) (fun z => by rw [app_F]; exact ((hpi p hp).2.2 z).1) (fun z => by rw [app_o (by omega) (by omega), app_o (by omega) (by omega)]; exact ((hpi p hp).2.2 z).2.2)
          obtain ⟨M2, e2, ⟨k1, k2, k3, k4⟩, f2⟩ := m_comes r1 B1 (by omega) (Sm_app n9) hp hX v (S 0 0 + S 0 1)
          obtain ⟨c1, c2⟩ := k3 g hg
          obtain ⟨c2, c3, c4⟩ := c2 q2
          have p7 : put (app S 1 g p (val S p) v 0) p v (S 0 0 + S 0 1) 7 g = S 7 g := by rw [put_o (by omega), app_o (by omega) (by omega)]
          have p8 : put (app S 1 g p (val S p) v 0) p v (S 0 0 + S 0 1) 8 g = S 8 g := by rw [put_o (by omega), app_o (by omega) (by omega)]
          have p6 : put (app S 1 g p (val S p) v 0) p v (S 0 0 + S 0 1) 6 g = S 6 g := by rw [put_o (by omega), app_o (by omega) (by omega)]
          rw [p7] at c3
          rw [p8] at c4
          refine ⟨st (st M2 11 29 (5 + 4 * g + 2) (nI (S 7 g + 1))) 11 29 (5 + 4 * g + 3) (nI (S 8 g ||| 2 ^ p)), ?_, ?_, (f1.tr f2).s29.s29⟩
          · rw [e9, bO_some, m_value h'.2.1 hp, bO_some, show f_X8_adds M9 (1 : Int32) (nI g) (nI p) (nI (val S p)) (nI v) (-1000004 : Int32) = some (nI (S 0 0 + S 0 1), M1) from e1, bP_some, e2, bO_some, m_gr2 _ hg, bO_some, c3, nI_1, m_grp2 _ hg, bO_some, m_gr3 _ hg, bO_some, sg, if_neg (by omega), c4, bset8 _ (n9.2.2.2.1 g hg) p hp, m_grp3 _ hg, bO_some]
          · have lo : ∀ j, ¬ (5 + 4 * g + 2 ≤ j ∧ j < 5 + 4 * g + 4) → st (st M2 11 29 (5 + 4 * g + 2) (nI (S 7 g + 1))) 11 29 (5 + 4 * g + 3) (nI (S 8 g ||| 2 ^ p)) 11 29 j = M2 11 29 j := fun j a => by
              rw [sg, if_neg (by omega), sg, if_neg (by omega)]
            have tO : (hld (put (app S 1 g p (val S p) v 0) p v (S 0 0 + S 0 1)) g p) 0 8 = S 0 8 := by rw [hld_o (by omega), put_o (by omega), app_o (by omega) (by omega)]
            show RO (fun i => ((hld (put (app S 1 g p (val S p) v 0) p v (S 0 0 + S 0 1)) g p) 0 8).testBit i) _ (hld (put (app S 1 g p (val S p) v 0) p v (S 0 0 + S 0 1)) g p)
            rw [tO]
            refine ⟨RN_cg k1 (fun i a => lo i (by omega)) (hld_o (by omega)) (hld_o (by omega)) (hld_o (by omega)) (hld_o (by omega)) (hld_o (by omega)), RP_cg k2 (fun i a c => lo i (by omega)) (fun f i _ hf => hld_o (by omega)), ?_, RR_cg k4 (fun i a c => lo i (by omega)) (hld_o (by omega)) (hld_o (by omega)) (hld_o (by omega)) (fun f i a c => hld_o (by omega))⟩
            refine RG_set k3 hg (fun i a c d => lo i (by omega)) (fun f i _ hi hf => ?_) (fun i hi hig => rfl) ⟨?_, fun _ => ⟨?_, ?_, ?_⟩⟩
            · simp only [hld, up]
              rw [if_neg (by omega), if_neg (by omega)]
            · rw [lo _ (by omega)]; exact c1
            · rw [lo _ (by omega), hld_o (by omega)]; exact c2
            · rw [sg, if_neg (by omega), sg, if_pos rfl]
              simp only [hld, up]
              rw [if_neg (by omega), if_pos ⟨trivial, trivial⟩, p7]
            · rw [sg, if_pos rfl]
              simp only [hld, up]
              rw [if_pos ⟨trivial, trivial⟩, p8]
      by_cases q3 : hol S p < 0
      · rw [if_pos q3, if_neg (by simp [q1, q3])]
        exact W
      · rw [if_neg q3]
        by_cases q4 : hol S p = nI g
        · rw [if_pos q4, if_neg (by simp [q1, q4])]
          exact W
        · rw [if_neg q4, if_pos (Or.inr (Or.inr (fun q => q.elim q3 q4)))]
          exact Or.inl ⟨by show (-1000002 : Int32) < 0; decide, rfl, rfl⟩
  · rw [m_stop1 h.1 n9.2.2.2.2 q1, bO_some, if_neg (by decide), if_pos (Or.inl q1)]
    exact Or.inl ⟨by show (-1000002 : Int32) < 0; decide, rfl, rfl⟩
theorem pc8_le (m : Nat) : pc8 m ≤ 8 := by
  unfold pc8
  have h : ∀ c : Bool, c.toNat ≤ 1 := by decide
  have := h (m.testBit 0)
  have := h (m.testBit 1)
  have := h (m.testBit 2)
  have := h (m.testBit 3)
  have := h (m.testBit 4)
  have := h (m.testBit 5)
  have := h (m.testBit 6)
  have := h (m.testBit 7)
  omega
/-- closing a group in the row, leaving it in the store -/
theorem RO_close {M M' : Mem} (h : RO O (M 11 29) S) (hg : g < 4) (c : ∀ j, M' 11 29 j = if 5 + 4 * g ≤ j ∧ j < 5 + 4 * g + 4 then 0 else M 11 29 j) (to : ∀ f i, ¬ (f = 0 ∧ i = 8) → T f i = S f i) (eO : ∀ i, i < 4 → (O' i = true ↔ (O i = true ∧ i ≠ g))) : RO O' (M' 11 29) T := by
  have lo : ∀ j, ¬ (5 + 4 * g ≤ j ∧ j < 5 + 4 * g + 4) → M' 11 29 j = M 11 29 j := fun j a => by rw [c, if_neg a]
  obtain ⟨k1, k2, k3, k4⟩ := h
  refine ⟨RN_cg k1 (fun i a => lo i (by omega)) (to _ _ (by omega)) (to _ _ (by omega)) (to _ _ (by omega)) (to _ _ (by omega)) (to _ _ (by omega)), RP_cg k2 (fun i a c => lo i (by omega)) (fun f i _ hf => to _ _ (by omega)), ?_, RR_cg k4 (fun i a c => lo i (by omega)) (to _ _ (by omega)) (to _ _ (by omega)) (to _ _ (by omega)) (fun f i a c => to _ _ (by omega))⟩
  refine RG_set k3 hg (fun i a c d => lo i d) (fun f i _ hi hf => to _ _ (by omega)) (fun i hi hig => ?_) ?_
  · have := eO i hi
    cases q : O i
    · cases q2 : O' i
      · rfl
      · rw [q] at this; exact absurd (this.mp q2).1 (by decide)
    · exact this.mpr ⟨q, hig⟩
  · have e : O' g = false := by
      cases q : O' g
      · rfl
      · exact absurd rfl ((eO g hg).mp q).2
    rw [e, c, if_pos (by omega)]
    exact ⟨rfl, fun z => nomatch z⟩
theorem m_settle (h : RQ (M 11 29) S) (hv : Inv b S) (hg : g < 4) : OKm M (f_X8_settle M (nI g)) S (aSettle S g) := by
  obtain ⟨⟨n1, ⟨n2, n2'⟩, n3, n4, n5, n6, n7, n8, n9⟩, hj, hpi, hr, hst⟩ := id hv
  have y1 := n1 0 1
  have y0 := n1 0 0
  rw [f_X8_settle, m_yes3 M (by omega), bO_some, if_neg (by decide)]
  unfold aSettle
  by_cases q1 : S 0 5 = 0
  · rw [m_stop0 h.1 q1, bO_some, if_pos rfl, m_open h.2.2.1 hg, bO_some]
    cases q2 : (S 0 8).testBit g
    · rw [if_pos (show b01 false = 0 from rfl), if_pos (Or.inr rfl)]
      exact Or.inl ⟨by show (-1000002 : Int32) < 0; decide, rfl, rfl⟩
    · rw [if_neg (show ¬ b01 true = 0 by decide), if_neg (show ¬ (S 0 5 ≠ 0 ∨ true = false) by simp [q1]), h.1.2.1]
      by_cases q3 : 60 < S 0 1 + 1
      · rw [if_neg (by rw [nl60, nL_lt (by omega) (by omega)]; omega), if_pos q3]
        exact Or.inl ⟨by show (-1000003 : Int32) < 0; decide, rfl, rfl⟩
      · rw [if_pos (by rw [nl60, nL_lt (by omega) (by omega)]; omega), if_neg q3]
        have pl := pc8_le (S 8 g)
        refine Or.inr ⟨by rw [nL_neg (by omega)]; exact id, fun M9 e9 h9 => ?_⟩
        have h' : RO (fun g => (S 0 8).testBit g) (M9 11 29) S := by rw [h9]; exact h
        obtain ⟨M1, e1, r1, f1⟩ := m_app h' n5 (by omega) (Inv_L hv) (kd := 2) (by omega) g 0 0 0 0
        have B1 : Bd (b + 1) (app S 2 g 0 0 0 0) := Bd_app n1 (by omega) (by omega) (by omega) (by omega) (by omega) (by omega) (by omega)
        obtain ⟨M2, e2, r2, f2⟩ := m_forces r1 B1 (by omega) (n := S 0 0 + S 0 1) (by omega)
        obtain ⟨M3, e3, f3, c3⟩ := m_closes M2 hg
        have c4 := ((r2.2.2.1 g hg).2 q2).2.2
        rw [frc_o (by omega), app_o (by omega) (by omega)] at c4
        refine ⟨M3, ?_, ?_, (f1.tr f2).tr f3⟩
        · rw [e9, bO_some, show f_X8_adds M9 (2 : Int32) (nI g) (-1000004 : Int32) (-1000004 : Int32) (-1000004 : Int32) (-1000004 : Int32) = some (nI (S 0 0 + S 0 1), M1) from e1, bP_some, e2, bP_some, m_gr3 _ hg, bO_some, c4, m_bits _ (n9.2.2.2.1 g hg), bO_some, e3, bO_some]
        · have tO : (lev (frc (app S 2 g 0 0 0 0) (S 0 0 + S 0 1)) g) 0 8 = (S 0 8 &&& (255 - 2 ^ g)) := by simp [lev, frc, app, up]
          have sO := tclr8 (S 0 8) (by have := n9.2.2.1; omega) g (by omega)
          show RO (fun i => ((lev (frc (app S 2 g 0 0 0 0) (S 0 0 + S 0 1)) g) 0 8).testBit i) _ (lev (frc (app S 2 g 0 0 0 0) (S 0 0 + S 0 1)) g)
          refine RO_close r2 hg c3 (fun f i a => lev_o a) (fun i hi => ?_)
          show ((lev (frc (app S 2 g 0 0 0 0) (S 0 0 + S 0 1)) g) 0 8).testBit i = true ↔ _
          rw [tO, sO.2 i (by omega)]
          simp
  · rw [m_stop1 h.1 n9.2.2.2.2 q1, bO_some, if_neg (by decide), if_pos (Or.inl q1)]
    exact Or.inl ⟨by show (-1000002 : Int32) < 0; decide, rfl, rfl⟩
theorem m_force (h : RQ (M 11 29) S) (hv : Inv b S) : OKm M (f_X8_force M) S (aForce S) := by
  obtain ⟨⟨n1, ⟨n2, n2'⟩, n3, n4, n5, n6, n7, n8, n9⟩, hj, hpi, hr, hst⟩ := id hv
  rw [f_X8_force]
  unfold aForce
  by_cases q1 : S 0 5 = 0
  · rw [m_stop0 h.1 q1, bO_some, if_pos rfl, if_neg (by simp [q1])]
    refine Or.inr ⟨by rw [nL_neg (by omega)]; exact id, fun M9 e9 h9 => ?_⟩
    have h' : RO (fun g => (S 0 8).testBit g) (M9 11 29) S := by rw [h9]; exact h
    obtain ⟨M2, e2, r2, f2⟩ := m_forces h' n1 (by omega) (n := S 0 0 + S 0 1 - 1) (by omega)
    refine ⟨M2, ?_, ?_, f2⟩
    · rw [e9, bO_some, m_last h'.1 n5, bO_some, e2, bP_some]
    · show RO (fun i => ((frc S (S 0 0 + S 0 1 - 1)) 0 8).testBit i) _ _
      rw [frc_o (by omega)]
      exact r2
  · rw [m_stop1 h.1 n9.2.2.2.2 q1, bO_some, if_neg (by decide), if_pos q1]
    exact Or.inl ⟨by show (-1000002 : Int32) < 0; decide, rfl, rfl⟩
theorem m_out (h : RQ (M 11 29) S) (hv : Inv b S) (hp : p < 8) : OKm M (f_X8_writeOut M (nI p)) S (aOut S p) := by
  obtain ⟨⟨n1, ⟨n2, n2'⟩, n3, n4, n5, n6, n7, n8, n9⟩, hj, hpi, hr, hst⟩ := id hv
  have ym := mrk_le n1 (p := p)
  rw [f_X8_writeOut, m_yes7 M (by omega), bO_some, if_neg (by decide)]
  unfold aOut
  by_cases q1 : S 0 5 = 0
  · rw [m_stop0 h.1 q1, bO_some, if_pos rfl, m_dirty h.2.1 n1 (by omega) hp (hpi p hp), bO_some]
    cases q2 : (S 0 7).testBit p
    · rw [if_pos (show b01 false = 0 from rfl), if_pos (Or.inr rfl)]
      exact Or.inl ⟨by show (-1000002 : Int32) < 0; decide, rfl, rfl⟩
    · rw [if_neg (show ¬ b01 true = 0 by decide), if_neg (show ¬ (S 0 5 ≠ 0 ∨ true = false) by simp [q1])]
      refine Or.inr ⟨by rw [nL_neg (by omega)]; exact id, fun M9 e9 h9 => ?_⟩
      have h' : RO (fun g => (S 0 8).testBit g) (M9 11 29) S := by rw [h9]; exact h
      have inC := ((hpi p hp).1.mp q2).1
      obtain ⟨M2, e2, ⟨k1, k2, k3, k4⟩, f2⟩ := m_forces h' n1 (by omega) (n := mrk S p) (by omega)
      obtain ⟨c0, c1, c2, c3, c5⟩ := k2 p hp
      obtain ⟨c3, c4⟩ := c3 (by rw [frc_o (by omega)]; exact inC)
      rw [frc_o (by omega)] at c3 c4
      refine ⟨st (st M2 11 29 (21 + 6 * p) (nI (S 3 p))) 11 29 (21 + 6 * p + 1) (nI (S 4 p)), ?_, ?_, f2.s29.s29⟩
      · rw [e9, bO_some, m_mark h'.2.1 hp, bO_some, e2, bP_some, m_pg3 _ hp, bO_some, c3, m_pgp0 _ hp, bO_some, m_pg4 _ hp, bO_some, sg, if_neg (by omega), c4, m_pgp1 _ hp, bO_some]
      · have lo : ∀ j, ¬ (21 + 6 * p ≤ j ∧ j < 21 + 6 * p + 2) → st (st M2 11 29 (21 + 6 * p) (nI (S 3 p))) 11 29 (21 + 6 * p + 1) (nI (S 4 p)) 11 29 j = M2 11 29 j := fun j a => by
          rw [sg, if_neg (by omega), sg, if_neg (by omega)]
        have t7 : toD (frc S (mrk S p)) p 0 7 = (S 0 7 &&& (255 - 2 ^ p)) := by simp [toD, frc, up]
        have s7 := tclr8 (S 0 7) n9.2.1 p hp
        show RO (fun i => ((toD (frc S (mrk S p)) p) 0 8).testBit i) _ (toD (frc S (mrk S p)) p)
        rw [toD_o (by omega), frc_o (by omega)]
        refine ⟨RN_cg k1 (fun i a => lo i (by omega)) (toD_o (by omega)) (toD_o (by omega)) (toD_o (by omega)) (toD_o (by omega)) (toD_o (by omega)), fun q hq => ?_, RG_cg k3 (fun i a c => lo i (by omega)) (fun f i _ hf => toD_o (by omega)), RR_cg k4 (fun i a c => lo i (by omega)) (toD_o (by omega)) (toD_o (by omega)) (toD_o (by omega)) (fun f i a c => toD_o (by omega))⟩
        obtain ⟨d0, d1, d2, d3, d5⟩ := k2 q hq
        rw [frc_o (by omega)] at d0 d1 d2 d3 d5
        rw [frc_o (by omega), frc_o (by omega)] at d3
        rw [frc_o (by omega)] at d5
        rw [t7, s7.2 q hq, toD_o (f := 0) (i := 6) (by omega), toD_o (f := 3) (by omega), toD_o (f := 4) (by omega), toD_o (f := 5) (by omega), frc_o (f := 0) (i := 6) (by omega), frc_o (f := 3) (by omega), frc_o (f := 4) (by omega), frc_o (f := 5) (by omega), lo (21 + 6 * q + 2) (by omega), lo (21 + 6 * q + 3) (by omega), lo (21 + 6 * q + 4) (by omega), lo (21 + 6 * q + 5) (by omega)]
        have t1 : toD (frc S (mrk S p)) p 1 q = if q = p then S 3 p else S 1 q := by
          by_cases e : q = p
          · subst e; simp [toD, frc, up]
          · simp [toD, frc, up, e]
        have t2 : toD (frc S (mrk S p)) p 2 q = if q = p then S 4 p else S 2 q := by
          by_cases e : q = p
          · subst e; simp [toD, frc, up]
          · simp [toD, frc, up, e]
        rw [t1, t2]
        refine ⟨?_, ?_, d2, d3, fun z => d5 (Bool.and_eq_true_iff.mp z).1⟩
        · by_cases e : q = p
          · subst e
            rw [sg, if_neg (by omega), sg, if_pos rfl, if_pos rfl]
          · rw [lo _ (by omega), if_neg e]; exact d0
        · by_cases e : q = p
          · subst e
            rw [sg, if_pos rfl, if_pos rfl]
          · rw [lo _ (by omega), if_neg e]; exact d1
  · rw [m_stop1 h.1 n9.2.2.2.2 q1, bO_some, if_neg (by decide), if_pos (Or.inl q1)]
    exact Or.inl ⟨by show (-1000002 : Int32) < 0; decide, rfl, rfl⟩
theorem m_drop (h : RQ (M 11 29) S) (hv : Inv b S) (hp : p < 8) : OKm M (f_X8_dropOut M (nI p)) S (aDrop S p) := by
  obtain ⟨⟨n1, ⟨n2, n2'⟩, n3, n4, n5, n6, n7, n8, n9⟩, hj, hpi, hr, hst⟩ := id hv
  rw [f_X8_dropOut, m_yes7 M (by omega), bO_some, if_neg (by decide)]
  unfold aDrop
  by_cases q1 : S 0 5 = 0
  · rw [m_stop0 h.1 q1, bO_some, if_pos rfl, m_pg2 M hp, bO_some, (h.2.1 p hp).2.2.1]
    cases q2 : (S 0 6).testBit p
    · rw [if_pos (show b01 false = 0 from rfl), if_pos (Or.inr (Or.inl rfl))]
      exact Or.inl ⟨by show (-1000002 : Int32) < 0; decide, rfl, rfl⟩
    · rw [if_neg (show ¬ b01 true = 0 by decide), m_dirty h.2.1 n1 (by omega) hp (hpi p hp), bO_some]
      cases q3 : (S 0 7).testBit p
      · rw [if_pos (show b01 false = 0 from rfl), if_neg (show ¬ (S 0 5 ≠ 0 ∨ true = false ∨ false = true) by simp [q1])]
        have pl := pc8_le (S 0 6 &&& (255 - 2 ^ p))
        refine Or.inr ⟨by rw [nL_neg (by omega)]; exact id, fun M9 e9 h9 => ?_⟩
        have h' : RO (fun g => (S 0 8).testBit g) (M9 11 29) S := by rw [h9]; exact h
        obtain ⟨k1, k2, k3, k4⟩ := h'
        have s6 := tclr8 (S 0 6) n9.1 p hp
        have lo : ∀ j, j ≠ 21 + 6 * p + 2 → st M9 11 29 (21 + 6 * p + 2) 0 11 29 j = M9 11 29 j := fun j a => by rw [sg, if_neg a]
        have R : RP (st M9 11 29 (21 + 6 * p + 2) 0 11 29) (up S 0 6 (S 0 6 &&& (255 - 2 ^ p))) := by
          intro q hq
          obtain ⟨d0, d1, d2, d3, d5⟩ := k2 q hq
          rw [up_at, s6.2 q hq, up_ne (by omega), up_ne (by omega), up_ne (by omega), up_ne (by omega), up_ne (by omega), up_ne (by omega), lo _ (by omega), lo _ (by omega), lo (21 + 6 * q + 3) (by omega), lo (21 + 6 * q + 4) (by omega), lo (21 + 6 * q + 5) (by omega)]
          by_cases e : q = p
          · subst e
            rw [sg, if_pos rfl, decide_eq_true rfl, Bool.not_true, Bool.and_false]
            exact ⟨d0, d1, rfl, fun z => (nomatch z), d5⟩
          · rw [lo _ (by omega), decide_eq_false e, Bool.not_false, Bool.and_true]
            exact ⟨d0, d1, d2, d3, d5⟩
        refine ⟨st M9 11 29 (21 + 6 * p + 2) 0, ?_, ?_, FM.rf.s29⟩
        · have := m_pages0 R (by rw [up_at]; exact s6.1)
          rw [up_at] at this
          rw [e9, bO_some, m_pgp2 _ hp, bO_some, this, bO_some, m_bits _ s6.1, bO_some]
        · show RO (fun i => ((up S 0 6 (S 0 6 &&& (255 - 2 ^ p))) 0 8).testBit i) _ (up S 0 6 (S 0 6 &&& (255 - 2 ^ p)))
          rw [up_ne (by omega)]
          exact ⟨RN_cg k1 (fun i a => lo i (by omega)) (up_ne (by omega)) (up_ne (by omega)) (up_ne (by omega)) (up_ne (by omega)) (up_ne (by omega)), R, RG_cg k3 (fun i a c => lo i (by omega)) (fun f i _ hf => up_ne (by omega)), RR_cg k4 (fun i a c => lo i (by omega)) (up_ne (by omega)) (up_ne (by omega)) (up_ne (by omega)) (fun f i a c => up_ne (by omega))⟩
      · rw [if_neg (show ¬ b01 true = 0 by decide), if_pos (Or.inr (Or.inr rfl))]
        exact Or.inl ⟨by show (-1000002 : Int32) < 0; decide, rfl, rfl⟩
  · rw [m_stop1 h.1 n9.2.2.2.2 q1, bO_some, if_neg (by decide), if_pos (Or.inl q1)]
    exact Or.inl ⟨by show (-1000002 : Int32) < 0; decide, rfl, rfl⟩
end MO
