/-! the model's row and its small methods -/
def RN (s : Nat → Int32) (S : St) : Prop := s 0 = nI (S 0 0) ∧ s 1 = nI (S 0 1) ∧ s 2 = nI (S 0 2) ∧ s 3 = nI (S 0 5) ∧ s 4 = nI (S 0 9)
def RP (s : Nat → Int32) (S : St) : Prop := ∀ p, p < 8 → s (21 + 6 * p) = nI (S 1 p) ∧ s (21 + 6 * p + 1) = nI (S 2 p) ∧ s (21 + 6 * p + 2) = b01 ((S 0 6).testBit p) ∧ ((S 0 6).testBit p = true → s (21 + 6 * p + 3) = nI (S 3 p) ∧ s (21 + 6 * p + 4) = nI (S 4 p)) ∧ ((S 0 7).testBit p = true → s (21 + 6 * p + 5) = nI (S 5 p))
def RG (O : Nat → Bool) (s : Nat → Int32) (S : St) : Prop := ∀ g, g < 4 → s (5 + 4 * g) = b01 (O g) ∧ (O g = true → s (5 + 4 * g + 1) = nI (S 6 g) ∧ s (5 + 4 * g + 2) = nI (S 7 g) ∧ s (5 + 4 * g + 3) = nI (S 8 g))
def R1 (s : Nat → Int32) (S : St) (j n : Nat) : Prop := s (69 + 16 * j) = nI (S 9 n) ∧ s (69 + 16 * j + 1) = eo (S 9 n) (S 10 n) ∧ s (69 + 16 * j + 2) = ep (S 9 n) (S 11 n) ∧ s (69 + 16 * j + 3) = ep (S 9 n) (S 12 n) ∧ s (69 + 16 * j + 4) = ep (S 9 n) (S 13 n) ∧ s (69 + 16 * j + 5) = (if S 9 n = 3 then nI (S 14 n) else -1000004) ∧ (S 9 n = 5 → s (69 + 16 * j + 6) = nI (S 12 n) ∧ s (69 + 16 * j + 7) = nI (S 13 n)) ∧ (n = S 0 3 → ∀ p, p < 8 → s (69 + 16 * j + (8 + p)) = nI (S 15 p))
def RR (s : Nat → Int32) (S : St) : Prop := ∀ j, j < S 0 1 → R1 s S j (S 0 0 + j)
def RO (O : Nat → Bool) (s : Nat → Int32) (S : St) : Prop := RN s S ∧ RP s S ∧ RG O s S ∧ RR s S
def RQ (s : Nat → Int32) (S : St) : Prop := RO (fun g => (S 0 8).testBit g) s S
section RC1
variable {s s' : Nat → Int32} {S T : St} {O : Nat → Bool}
theorem RN_cg (h : RN s S) (e : ∀ i, i < 5 → s' i = s i) (e0 : T 0 0 = S 0 0) (e1 : T 0 1 = S 0 1) (e2 : T 0 2 = S 0 2) (e5 : T 0 5 = S 0 5) (e9 : T 0 9 = S 0 9) : RN s' T := by
  obtain ⟨h0, h1, h2, h3, h4⟩ := h
  unfold RN
  rw [e 0 (by omega), e 1 (by omega), e 2 (by omega), e 3 (by omega), e 4 (by omega), e0, e1, e2, e5, e9]
  exact ⟨h0, h1, h2, h3, h4⟩
theorem RP_cg (h : RP s S) (e : ∀ i, 21 ≤ i → i < 69 → s' i = s i) (eT : ∀ f p, p < 8 → (f = 1 ∨ f = 2 ∨ f = 3 ∨ f = 4 ∨ f = 5) ∨ f = 0 ∧ (p = 6 ∨ p = 7) → T f p = S f p) : RP s' T := by
  intro p hp
  rw [e _ (by omega) (by omega), e _ (by omega) (by omega), e _ (by omega) (by omega), e _ (by omega) (by omega), e _ (by omega) (by omega), e _ (by omega) (by omega), eT 1 p hp (by omega), eT 2 p hp (by omega), eT 3 p hp (by omega), eT 4 p hp (by omega), eT 5 p hp (by omega), eT 0 6 (by omega) (by omega), eT 0 7 (by omega) (by omega)]
  exact h p hp
theorem RG_cg (h : RG O s S) (e : ∀ i, 5 ≤ i → i < 21 → s' i = s i) (eT : ∀ f g, g < 4 → (f = 6 ∨ f = 7 ∨ f = 8) → T f g = S f g) : RG O s' T := by
  intro g hg
  rw [e _ (by omega) (by omega), e _ (by omega) (by omega), e _ (by omega) (by omega), e _ (by omega) (by omega), eT 6 g hg (by omega), eT 7 g hg (by omega), eT 8 g hg (by omega)]
  exact h g hg
theorem R1_cg {j n : Nat} (h : R1 s S j n) (e : ∀ k, k < 16 → s' (69 + 16 * j + k) = s (69 + 16 * j + k)) (e3 : T 0 3 = S 0 3) (eT : ∀ f, 9 ≤ f → f ≤ 14 → T f n = S f n) (e15 : ∀ p, p < 8 → T 15 p = S 15 p) : R1 s' T j n := by
  obtain ⟨h1, h2, h3, h4, h5, h6, h7, h8⟩ := h
  unfold R1
  have z := e 0 (by omega)
  rw [Nat.add_zero] at z
  rw [z, e 1 (by omega), e 2 (by omega), e 3 (by omega), e 4 (by omega), e 5 (by omega), e 6 (by omega), e 7 (by omega), eT 9 (by omega) (by omega), eT 10 (by omega) (by omega), eT 11 (by omega) (by omega), eT 12 (by omega) (by omega), eT 13 (by omega) (by omega), eT 14 (by omega) (by omega), e3]
  refine ⟨h1, h2, h3, h4, h5, h6, h7, fun q p hp => ?_⟩
  rw [e _ (by omega), e15 p hp]
  exact h8 q p hp
theorem RR_cg (h : RR s S) (e : ∀ i, 69 ≤ i → i < 69 + 16 * S 0 1 → s' i = s i) (e0 : T 0 0 = S 0 0) (e1 : T 0 1 = S 0 1) (e3 : T 0 3 = S 0 3) (eT : ∀ f i, 9 ≤ f → f ≤ 15 → T f i = S f i) : RR s' T := by
  intro j hj
  rw [e0]
  rw [e1] at hj
  exact R1_cg (h j hj) (fun k hk => e _ (by omega) (by omega)) e3 (fun f a c => eT f _ a (by omega)) (fun p _ => eT 15 p (by omega) (by omega))
end RC1
/-- what a method of the model may write: its row s -/
def FM (M M' : Mem) : Prop := ∀ k r i, ¬ (k = 11 ∧ r = 29) → M' k r i = M k r i
theorem FM.rf {M : Mem} : FM M M := fun _ _ _ _ => rfl
theorem FM.tr {M M1 M2 : Mem} (h : FM M M1) (h2 : FM M1 M2) : FM M M2 := fun k r i q => (h2 k r i q).trans (h k r i q)
theorem FM.s29 {M M1 : Mem} {i : Nat} {v : Int32} (h : FM M M1) : FM M (st M1 11 29 i v) := fun k r' i' q => by
  rw [st_get, if_neg (fun z => q ⟨z.1, z.2.1⟩)]
  exact h k r' i' q
/-- .. and what it looked for -/
def FW (M M' : Mem) : Prop := ∀ k r i, ¬ (k = 11 ∧ (r = 29 ∨ r = 34 ∨ (r = 28 ∧ (i = 9 ∨ i = 10)))) → M' k r i = M k r i
theorem FW.rf {M : Mem} : FW M M := fun _ _ _ _ => rfl
theorem FW.tr {M M1 M2 : Mem} (h : FW M M1) (h2 : FW M1 M2) : FW M M2 := fun k r i q => (h2 k r i q).trans (h k r i q)
theorem FM.w {M M1 : Mem} (h : FM M M1) : FW M M1 := fun k r i q => h k r i (fun z => q ⟨z.1, Or.inl z.2⟩)
theorem FW.s {M M1 : Mem} {r i : Nat} {v : Int32} (h : FW M M1) (hr : r = 29 ∨ r = 34 ∨ (r = 28 ∧ (i = 9 ∨ i = 10))) : FW M (st M1 11 r i v) := fun k r' i' q => by
  rw [st_get, if_neg (by omega)]
  exact h k r' i' q
theorem st29 {M : Mem} {r i : Nat} {v : Int32} (hr : r ≠ 29) : st M 11 r i v 11 29 = M 11 29 := by
  funext j
  rw [st_get, if_neg (fun z => hr z.2.1.symm)]
theorem sg (M : Mem) (i : Nat) (v : Int32) (j : Nat) : st M 11 29 i v 11 29 j = if j = i then v else M 11 29 j := by
  rw [st_get]
  by_cases e : j = i
  · rw [if_pos ⟨rfl, rfl, e⟩, if_pos e]
  · rw [if_neg (fun q => e q.2.2), if_neg e]
section MP
variable {M : Mem} {S : St} {O : Nat → Bool} {b p g n : Nat}
theorem m_in (M : Mem) {v a c : Nat} (hv : v < 2 ^ 31) (ha : a < 2 ^ 31) (hc : c < 2 ^ 31) : f_X8_in M (nI v) (nI a) (nI c) = some (b01 (decide (a ≤ v ∧ v ≤ c))) := by
  rw [f_X8_in]
  by_cases q : a ≤ v
  · rw [if_neg (by rw [nL_lt hv ha]; omega)]
    by_cases q2 : v ≤ c
    · rw [if_neg (by rw [nL_lt hc hv]; omega), decide_eq_true ⟨q, q2⟩]; rfl
    · rw [if_pos (by rw [nL_lt hc hv]; omega), decide_eq_false (fun z => q2 z.2)]; rfl
  · rw [if_pos (by rw [nL_lt hv ha]; omega), decide_eq_false (fun z => q z.1)]; rfl
theorem m_yes (M : Mem) {v c : Nat} (hv : v ≤ c) (hc : c < 2 ^ 31) : f_X8_in M (nI v) 0 (nI c) = some 1 := by
  have := m_in M (v := v) (a := 0) (c := c) (by omega) (by omega) hc
  rw [decide_eq_true ⟨Nat.zero_le _, hv⟩] at this
  exact this
theorem m_no (M : Mem) {x a c : Int32} (h : x < a ∨ c < x) : f_X8_in M x a c = some 0 := by
  rw [f_X8_in]
  by_cases q : x < a
  · rw [if_pos q]
  · rw [if_neg q, if_pos (h.resolve_left q)]
theorem m_stop (h : RN (M 11 29) S) (h5 : S 0 5 < 2) : f_X8_isStopped M = some (b01 (decide (S 0 5 ≠ 0))) := by
  rw [f_X8_isStopped, h.2.2.2.1]
  rcases (show S 0 5 = 0 ∨ S 0 5 = 1 by omega) with e | e <;> rw [e] <;> rfl
theorem m_gr (M : Mem) (hg : g < 4) {k : Nat} (hk : k < 4) : f_X8_ofGroup M (nI g) (nI k) = some (M 11 29 (5 + 4 * g + k)) := by
  rw [f_X8_ofGroup, show (((5 : Int32) + ((4 : Int32) * nI g)) + nI k) = nI (5 + 4 * g + k) by rw [nl4, pk_mul, nl5, nI_add, nI_add], gd_in (by omega) (by omega), nL_cl (by omega)]
theorem m_grp (M : Mem) (hg : g < 4) {k : Nat} (hk : k < 4) (v : Int32) : f_X8_putsGroup M (nI g) (nI k) v = some (st M 11 29 (5 + 4 * g + k) v) := by
  rw [f_X8_putsGroup, show (((5 : Int32) + ((4 : Int32) * nI g)) + nI k) = nI (5 + 4 * g + k) by rw [nl4, pk_mul, nl5, nI_add, nI_add], gd_in (by omega) (by omega), nL_cl (by omega), bd]
theorem m_pg (M : Mem) (hp : p < 8) {k : Nat} (hk : k < 6) : f_X8_ofPage M (nI p) (nI k) = some (M 11 29 (21 + 6 * p + k)) := by
  rw [f_X8_ofPage, show (((21 : Int32) + ((6 : Int32) * nI p)) + nI k) = nI (21 + 6 * p + k) by rw [nl6, pk_mul, nl21, nI_add, nI_add], gd_in (by omega) (by omega), nL_cl (by omega)]
theorem m_pgp (M : Mem) (hp : p < 8) {k : Nat} (hk : k < 6) (v : Int32) : f_X8_putsPage M (nI p) (nI k) v = some (st M 11 29 (21 + 6 * p + k) v) := by
  rw [f_X8_putsPage, show (((21 : Int32) + ((6 : Int32) * nI p)) + nI k) = nI (21 + 6 * p + k) by rw [nl6, pk_mul, nl21, nI_add, nI_add], gd_in (by omega) (by omega), nL_cl (by omega), bd]
theorem m_gr0 (M : Mem) (hg : g < 4) : f_X8_ofGroup M (nI g) 0 = some (M 11 29 (5 + 4 * g)) := m_gr M hg (k := 0) (by omega)
theorem m_gr2 (M : Mem) (hg : g < 4) : f_X8_ofGroup M (nI g) 2 = some (M 11 29 (5 + 4 * g + 2)) := m_gr M hg (k := 2) (by omega)
theorem m_gr3 (M : Mem) (hg : g < 4) : f_X8_ofGroup M (nI g) 3 = some (M 11 29 (5 + 4 * g + 3)) := m_gr M hg (k := 3) (by omega)
theorem m_grp0 (M : Mem) (hg : g < 4) (v : Int32) : f_X8_putsGroup M (nI g) 0 v = some (st M 11 29 (5 + 4 * g) v) := m_grp M hg (k := 0) (by omega) v
theorem m_grp1 (M : Mem) (hg : g < 4) (v : Int32) : f_X8_putsGroup M (nI g) 1 v = some (st M 11 29 (5 + 4 * g + 1) v) := m_grp M hg (k := 1) (by omega) v
theorem m_grp2 (M : Mem) (hg : g < 4) (v : Int32) : f_X8_putsGroup M (nI g) 2 v = some (st M 11 29 (5 + 4 * g + 2) v) := m_grp M hg (k := 2) (by omega) v
theorem m_grp3 (M : Mem) (hg : g < 4) (v : Int32) : f_X8_putsGroup M (nI g) 3 v = some (st M 11 29 (5 + 4 * g + 3) v) := m_grp M hg (k := 3) (by omega) v
theorem m_pg0 (M : Mem) (hp : p < 8) : f_X8_ofPage M (nI p) 0 = some (M 11 29 (21 + 6 * p)) := m_pg M hp (k := 0) (by omega)
theorem m_pg1 (M : Mem) (hp : p < 8) : f_X8_ofPage M (nI p) 1 = some (M 11 29 (21 + 6 * p + 1)) := m_pg M hp (k := 1) (by omega)
theorem m_pg2 (M : Mem) (hp : p < 8) : f_X8_ofPage M (nI p) 2 = some (M 11 29 (21 + 6 * p + 2)) := m_pg M hp (k := 2) (by omega)
theorem m_pg3 (M : Mem) (hp : p < 8) : f_X8_ofPage M (nI p) 3 = some (M 11 29 (21 + 6 * p + 3)) := m_pg M hp (k := 3) (by omega)
theorem m_pg4 (M : Mem) (hp : p < 8) : f_X8_ofPage M (nI p) 4 = some (M 11 29 (21 + 6 * p + 4)) := m_pg M hp (k := 4) (by omega)
theorem m_pg5 (M : Mem) (hp : p < 8) : f_X8_ofPage M (nI p) 5 = some (M 11 29 (21 + 6 * p + 5)) := m_pg M hp (k := 5) (by omega)
theorem m_pgp0 (M : Mem) (hp : p < 8) (v : Int32) : f_X8_putsPage M (nI p) 0 v = some (st M 11 29 (21 + 6 * p) v) := m_pgp M hp (k := 0) (by omega) v
theorem m_pgp1 (M : Mem) (hp : p < 8) (v : Int32) : f_X8_putsPage M (nI p) 1 v = some (st M 11 29 (21 + 6 * p + 1) v) := m_pgp M hp (k := 1) (by omega) v
theorem m_pgp2 (M : Mem) (hp : p < 8) (v : Int32) : f_X8_putsPage M (nI p) 2 v = some (st M 11 29 (21 + 6 * p + 2) v) := m_pgp M hp (k := 2) (by omega) v
theorem m_pgp3 (M : Mem) (hp : p < 8) (v : Int32) : f_X8_putsPage M (nI p) 3 v = some (st M 11 29 (21 + 6 * p + 3) v) := m_pgp M hp (k := 3) (by omega) v
theorem m_pgp4 (M : Mem) (hp : p < 8) (v : Int32) : f_X8_putsPage M (nI p) 4 v = some (st M 11 29 (21 + 6 * p + 4) v) := m_pgp M hp (k := 4) (by omega) v
theorem m_pgp5 (M : Mem) (hp : p < 8) (v : Int32) : f_X8_putsPage M (nI p) 5 v = some (st M 11 29 (21 + 6 * p + 5) v) := m_pgp M hp (k := 5) (by omega) v
theorem m_open (h : RG O (M 11 29) S) (hg : g < 4) : f_X8_isOpen M (nI g) = some (b01 (O g)) := by
  rw [f_X8_isOpen, m_gr0 M hg, bO, (h g hg).1]
  cases O g <;> rfl
theorem m_value (h : RP (M 11 29) S) (hp : p < 8) : f_X8_value M (nI p) = some (nI (val S p)) := by
  obtain ⟨h0, h1, h2, h3, h4⟩ := h p hp
  rw [f_X8_value, m_pg2 M hp, bO, h2, m_pg3 M hp, m_pg0 M hp, val]
  cases q : (S 0 6).testBit p
  · rw [if_neg (show ¬ (b01 false = 1) by decide), if_neg (by decide), bO, h0]
  · rw [if_pos (show b01 true = 1 from rfl), if_pos rfl, bO, (h3 q).1]
theorem m_mark (h : RP (M 11 29) S) (hp : p < 8) : f_X8_mark M (nI p) = some (nI (mrk S p)) := by
  obtain ⟨h0, h1, h2, h3, h4⟩ := h p hp
  rw [f_X8_mark, m_pg2 M hp, bO, h2, m_pg4 M hp, m_pg1 M hp, mrk]
  cases q : (S 0 6).testBit p
  · rw [if_neg (show ¬ (b01 false = 1) by decide), if_neg (by decide), bO, h1]
  · rw [if_pos (show b01 true = 1 from rfl), if_pos rfl, bO, (h3 q).2]
theorem m_dirty (h : RP (M 11 29) S) (hB : Bd b S) (hb : b < 2 ^ 29) (hp : p < 8) (hd : PP S p) : f_X8_isDirty M (nI p) = some (b01 ((S 0 7).testBit p)) := by
  obtain ⟨h0, h1, h2, h3, h4⟩ := h p hp
  have m1 := mrk_le hB (p := p)
  have m2 := hB 2 p
  rw [f_X8_isDirty, m_mark h hp, bO, m_pg1 M hp, bO, h1]
  have e : (S 0 7).testBit p = true ↔ mrk S p ≠ S 2 p := by
    rw [hd.1]
    unfold mrk
    cases q : (S 0 6).testBit p
    · rw [if_neg (by decide)]
      exact ⟨fun z => (nomatch z.1), fun z => absurd rfl z⟩
    · rw [if_pos rfl]
      exact ⟨fun z => z.2, fun z => ⟨rfl, z⟩⟩
  by_cases q : mrk S p = S 2 p
  · rw [if_pos (by rw [q])]
    cases z : (S 0 7).testBit p
    · rfl
    · exact absurd q (e.mp z)
  · rw [if_neg (by rw [nL_eq (by omega) (by omega)]; exact q), e.mpr q]
    rfl
theorem m_last (h : RN (M 11 29) S) (hF : 1 ≤ S 0 0) : f_X8_last M = some (nI (S 0 0 + S 0 1 - 1)) := by
  rw [f_X8_last, h.1, h.2.1, nI_add, nl1, nL_sub (by omega)]
theorem m_isRec (h : RN (M 11 29) S) (hB : Bd b S) (hb : b < 2 ^ 29) (hF : 1 ≤ S 0 0) (hn : n < 2 ^ 31) : f_X8_isRecord M (nI n) = some (b01 (decide (S 0 0 ≤ n ∧ n < S 0 0 + S 0 1))) := by
  have h0 := hB 0 0
  have h1 := hB 0 1
  rw [f_X8_isRecord, h.1]
  by_cases q : S 0 0 ≤ n
  · rw [if_neg (by rw [nL_lt (by omega) (by omega)]; omega), m_last h hF, bO]
    by_cases q2 : n < S 0 0 + S 0 1
    · rw [if_neg (by rw [nL_lt (by omega) (by omega)]; omega), decide_eq_true ⟨q, q2⟩]
      rfl
    · rw [if_pos (by rw [nL_lt (by omega) (by omega)]; omega), decide_eq_false (fun z => q2 z.2)]
      rfl
  · rw [if_pos (by rw [nL_lt (by omega) (by omega)]; omega), decide_eq_false (fun z => q z.1)]
    rfl
theorem m_of (h : RN (M 11 29) S) (hn : S 0 0 ≤ n) (hn2 : n < S 0 0 + 128) {k : Nat} (hk : k < 16) : f_X8_of M (nI n) (nI k) = some (M 11 29 (69 + 16 * (n - S 0 0) + k)) := by
  rw [f_X8_of, h.1, nL_sub hn, show (((69 : Int32) + ((16 : Int32) * nI (n - S 0 0))) + nI k) = nI (69 + 16 * (n - S 0 0) + k) by rw [nl16, pk_mul, nl69, nI_add, nI_add], gd_in (by omega) (by omega), nL_cl (by omega)]
/-- the cells of a record -/
theorem m_rec (h : RN (M 11 29) S) (hR : RR (M 11 29) S) (hN : S 0 1 ≤ 128) (hn : S 0 0 ≤ n) (hn2 : n < S 0 0 + S 0 1) :
    f_X8_of M (nI n) 0 = some (nI (S 9 n)) ∧ f_X8_of M (nI n) 1 = some (eo (S 9 n) (S 10 n)) ∧ f_X8_of M (nI n) 2 = some (ep (S 9 n) (S 11 n)) ∧ f_X8_of M (nI n) 3 = some (ep (S 9 n) (S 12 n)) ∧ f_X8_of M (nI n) 4 = some (ep (S 9 n) (S 13 n)) ∧ f_X8_of M (nI n) 5 = some (if S 9 n = 3 then nI (S 14 n) else -1000004) := by
  obtain ⟨r1, r2, r3, r4, r5, r6, -, -⟩ := hR (n - S 0 0) (by omega)
  rw [show S 0 0 + (n - S 0 0) = n by omega] at r1 r2 r3 r4 r5 r6
  refine ⟨(m_of h hn (by omega) (k := 0) (by omega)).trans (congrArg some r1), (m_of h hn (by omega) (k := 1) (by omega)).trans (congrArg some r2), (m_of h hn (by omega) (k := 2) (by omega)).trans (congrArg some r3), (m_of h hn (by omega) (k := 3) (by omega)).trans (congrArg some r4), (m_of h hn (by omega) (k := 4) (by omega)).trans (congrArg some r5), (m_of h hn (by omega) (k := 5) (by omega)).trans (congrArg some r6)⟩
/-- adding a record: what the row is then -/
theorem m_adds0 {A F N : Nat} (hA : A = 69 + 16 * N) (hN : N < 128) (hF : 1 ≤ F) (y1 y2 y3 y4 y5 y6 : Int32) : ∀ (d i fu : Nat) (M : Mem), i + d = 16 → d < fu → M 11 29 0 = nI F → M 11 29 1 = nI N →
    ∃ M', itr (f_X8_adds_L17) (fun _ _ _ _ _ _ _ _ _ => none) fu M y1 y2 y3 y4 y5 y6 (nI A) (nI i) = some (nI (F + N), M') ∧ FM M M' ∧
      (∀ j, M' 11 29 j = if j = 1 then nI (N + 1) else if j = A + 5 then y6 else if j = A + 4 then y5 else if j = A + 3 then y4 else if j = A + 2 then y3 else if j = A + 1 then y2 else if j = A then y1 else if A + i ≤ j ∧ j < A + 16 then 0 else M 11 29 j) := by
  intro d
  induction d with
  | zero =>
    intro i fu M hi hf h0 h1
    obtain ⟨f, rfl⟩ : ∃ f, fu = f + 1 := ⟨fu - 1, by omega⟩
    have hi : i = 16 := by omega
    subst hi
    have ea : ∀ c, c < 16 → nI A + nI c = nI (A + c) := fun c _ => nI_add A c
    refine ⟨st (st (st (st (st (st (st M 11 29 A y1) 11 29 (A + 1) y2) 11 29 (A + 2) y3) 11 29 (A + 3) y4) 11 29 (A + 4) y5) 11 29 (A + 5) y6) 11 29 1 (nI (N + 1)), ?_, FM.rf.s29.s29.s29.s29.s29.s29.s29, fun j => ?_⟩
    · rw [itr_s, f_X8_adds_L17, if_pos (by decide)]
      rw [nl0, nl1, nl2, nl3, nl4, nl5, ea 0 (by omega), ea 1 (by omega), ea 2 (by omega), ea 3 (by omega), ea 4 (by omega), ea 5 (by omega), Nat.add_zero]
      simp (disch := omega) only [gd_in, nL_cl, bd]
      rw [sg, if_neg (by omega), sg, if_neg (by omega), sg, if_neg (by omega), sg, if_neg (by omega), sg, if_neg (by omega), sg, if_neg (by omega), h1, nI_add, f_X8_last, bO]
      rw [sg, if_neg (by omega), sg, if_neg (by omega), sg, if_neg (by omega), sg, if_neg (by omega), sg, if_neg (by omega), sg, if_neg (by omega), sg, if_neg (by omega), sg, if_pos rfl, h0, nI_add, nl1, nL_sub (by omega)]
      rfl
    · rw [sg, sg, sg, sg, sg, sg, sg, if_neg (show ¬ (A + 16 ≤ j ∧ j < A + 16) by omega)]
  | succ d ih =>
    intro i fu M hi hf h0 h1
    obtain ⟨f, rfl⟩ : ∃ f, fu = f + 1 := ⟨fu - 1, by omega⟩
    obtain ⟨M', e1, f1, g1⟩ := ih (i + 1) f (st M 11 29 (A + i) 0) (by omega) (by omega) (by rw [sg, if_neg (by omega)]; exact h0) (by rw [sg, if_neg (by omega)]; exact h1)
    refine ⟨M', ?_, FM.rf.s29.tr f1, fun j => ?_⟩
    · rw [itr_s, f_X8_adds_L17, if_neg (by rw [nl16, nL_le (by omega) (by omega)]; omega), nI_add, gd_in (by omega) (by omega), nL_cl (by omega), bd, bd, nI_1]
      exact e1
    · rw [g1, sg]
      by_cases q : j = A + i
      · subst q
        rw [if_pos rfl, if_neg (show ¬ (A + (i + 1) ≤ A + i ∧ A + i < A + 16) by omega), if_pos (show A + i ≤ A + i ∧ A + i < A + 16 by omega)]
      · rw [if_neg q]
        by_cases q2 : A + (i + 1) ≤ j ∧ j < A + 16
        · rw [if_pos q2, if_pos (show A + i ≤ j ∧ j < A + 16 by omega)]
        · rw [if_neg q2, if_neg (show ¬ (A + i ≤ j ∧ j < A + 16) by omega)]
theorem m_adds (h : RN (M 11 29) S) (hF : 1 ≤ S 0 0) (hN : S 0 1 < 128) (y1 y2 y3 y4 y5 y6 : Int32) : ∃ M', f_X8_adds M y1 y2 y3 y4 y5 y6 = some (nI (S 0 0 + S 0 1), M') ∧ FM M M' ∧
    (∀ j, M' 11 29 j = if j = 1 then nI (S 0 1 + 1) else if j = 69 + 16 * S 0 1 + 5 then y6 else if j = 69 + 16 * S 0 1 + 4 then y5 else if j = 69 + 16 * S 0 1 + 3 then y4 else if j = 69 + 16 * S 0 1 + 2 then y3 else if j = 69 + 16 * S 0 1 + 1 then y2 else if j = 69 + 16 * S 0 1 then y1 else if 69 + 16 * S 0 1 ≤ j ∧ j < 69 + 16 * S 0 1 + 16 then 0 else M 11 29 j) := by
  obtain ⟨M', e, f, g⟩ := m_adds0 (A := 69 + 16 * S 0 1) rfl hN hF y1 y2 y3 y4 y5 y6 16 0 FU M rfl (by decide) h.1 h.2.1
  refine ⟨M', ?_, f, fun j => ?_⟩
  · rw [f_X8_adds, h.2.1, nl16, pk_mul, nl69, nI_add, bd]
    exact e
  · exact g j
theorem m_app (h : RO O (M 11 29) S) (hF : 1 ≤ S 0 0) (hN : S 0 1 < 128) (hL : S 0 3 < S 0 0 + S 0 1) {kd : Nat} (hk : kd ≤ 4) (gg pg a v t : Nat) : ∃ M', f_X8_adds M (nI kd) (eo kd gg) (ep kd pg) (ep kd a) (ep kd v) (if kd = 3 then nI t else -1000004) = some (nI (S 0 0 + S 0 1), M') ∧ RO O (M' 11 29) (app S kd gg pg a v t) ∧ FM M M' := by
  obtain ⟨M', e, f, c⟩ := m_adds h.1 hF hN (nI kd) (eo kd gg) (ep kd pg) (ep kd a) (ep kd v) (if kd = 3 then nI t else -1000004)
  have lo : ∀ j, j < 69 + 16 * S 0 1 → j ≠ 1 → M' 11 29 j = M 11 29 j := fun j a b => by
    rw [c, if_neg b, if_neg (by omega), if_neg (by omega), if_neg (by omega), if_neg (by omega), if_neg (by omega), if_neg (by omega), if_neg (by omega)]
  obtain ⟨⟨n0, n1, n2, n3, n4⟩, hp, hg, hr⟩ := h
  refine ⟨M', e, ⟨⟨?_, ?_, ?_, ?_, ?_⟩, ?_, ?_, fun j hj => ?_⟩, f⟩
  · rw [lo 0 (by omega) (by omega), app_F]; exact n0
  · rw [c, if_pos rfl, app_N]
  · rw [lo 2 (by omega) (by omega), app_o (by omega) (by omega)]; exact n2
  · rw [lo 3 (by omega) (by omega), app_o (by omega) (by omega)]; exact n3
  · rw [lo 4 (by omega) (by omega), app_o (by omega) (by omega)]; exact n4
  · exact RP_cg hp (fun i a b => lo i (by omega) (by omega)) (fun f p _ hf => app_o (by omega) (by omega))
  · exact RG_cg hg (fun i a b => lo i (by omega) (by omega)) (fun f p _ hf => app_o (by omega) (by omega))
  · rw [app_N] at hj
    rw [app_F]
    by_cases q : j = S 0 1
    · subst q
      obtain ⟨r1, r2, r3, r4, r5, r6⟩ := app_r (S := S) (a1 := kd) (a2 := gg) (a3 := pg) (a4 := a) (a5 := v) (a6 := t) (n := S 0 0 + S 0 1)
      rw [if_pos rfl] at r1 r2 r3 r4 r5 r6
      unfold R1
      rw [r1, r2, r3, r4, r5, r6, app_o (f := 0) (i := 3) (by omega) (by omega)]
      refine ⟨?_, ?_, ?_, ?_, ?_, ?_, fun z => by omega, fun z => by omega⟩
      · rw [c, if_neg (by omega), if_neg (by omega), if_neg (by omega), if_neg (by omega), if_neg (by omega), if_neg (by omega), if_pos rfl]
      · rw [c, if_neg (by omega), if_neg (by omega), if_neg (by omega), if_neg (by omega), if_neg (by omega), if_pos rfl]
      · rw [c, if_neg (by omega), if_neg (by omega), if_neg (by omega), if_neg (by omega), if_pos rfl]
      · rw [c, if_neg (by omega), if_neg (by omega), if_neg (by omega), if_pos rfl]
      · rw [c, if_neg (by omega), if_neg (by omega), if_pos rfl]
      · rw [c, if_neg (by omega), if_pos rfl]
    · refine R1_cg (hr j (by omega)) (fun k hk => lo _ (by omega) (by omega)) (app_o (by omega) (by omega)) (fun f' a1 a2 => ?_) (fun p _ => app_o (by omega) (by omega))
      obtain ⟨r1, r2, r3, r4, r5, r6⟩ := app_r (S := S) (a1 := kd) (a2 := gg) (a3 := pg) (a4 := a) (a5 := v) (a6 := t) (n := S 0 0 + j)
      have z : ¬ (S 0 0 + j = S 0 0 + S 0 1) := by omega
      rw [if_neg z] at r1 r2 r3 r4 r5 r6
      rcases (show f' = 9 ∨ f' = 10 ∨ f' = 11 ∨ f' = 12 ∨ f' = 13 ∨ f' = 14 by omega) with e | e | e | e | e | e <;> rw [e] <;> assumption
theorem m_forces (h : RO O (M 11 29) S) (hB : Bd b S) (hb : b < 2 ^ 29) {n : Nat} (hn : n < 2 ^ 30) : ∃ M', f_X8_forces M (nI n) = some (nI (n - S 0 2), M') ∧ RO O (M' 11 29) (frc S n) ∧ FM M M' := by
  have h2 := hB 0 2
  obtain ⟨⟨n0, n1, n2, n3, n4⟩, hp, hg, hr⟩ := h
  have R : RO O (st M 11 29 2 (nI (S 0 2 + (n - S 0 2))) 11 29) (frc S n) := by
    have lo : ∀ j, j ≠ 2 → st M 11 29 2 (nI (S 0 2 + (n - S 0 2))) 11 29 j = M 11 29 j := fun j a => by rw [sg, if_neg a]
    refine ⟨⟨?_, ?_, ?_, ?_, ?_⟩, ?_, ?_, ?_⟩
    · rw [lo 0 (by omega), frc_o (by omega)]; exact n0
    · rw [lo 1 (by omega), frc_o (by omega)]; exact n1
    · rw [sg, if_pos rfl, frc, up_at]
    · rw [lo 3 (by omega), frc_o (by omega)]; exact n3
    · rw [lo 4 (by omega), frc_o (by omega)]; exact n4
    · exact RP_cg hp (fun i a c => lo i (by omega)) (fun f p _ hf => frc_o (by omega))
    · exact RG_cg hg (fun i a c => lo i (by omega)) (fun f p _ hf => frc_o (by omega))
    · exact RR_cg hr (fun i a c => lo i (by omega)) (frc_o (by omega)) (frc_o (by omega)) (frc_o (by omega)) (fun f i a c => frc_o (by omega))
  refine ⟨_, ?_, R, FM.rf.s29⟩
  rw [f_X8_forces, n2]
  by_cases q : n ≤ S 0 2
  · rw [if_pos (by rw [nL_le (by omega) (by omega)]; exact q), f_X8_forces_L22, n2, bd, show n - S 0 2 = 0 by omega, nl0, nI_add]
  · rw [if_neg (by rw [nL_le (by omega) (by omega)]; exact q), nL_sub (by omega), f_X8_forces_L22, n2, bd, nI_add]
theorem m_comes (h : RO O (M 11 29) S) (hB : Bd b S) (hb : b < 2 ^ 29) (hs : Sm S) (hp8 : p < 8) (hd : PP S p) (v n : Nat) : ∃ M', f_X8_comes M (nI p) (nI v) (nI n) = some M' ∧ RO O (M' 11 29) (put S p v n) ∧ FM M M' := by
  obtain ⟨hn, hp, hg, hr⟩ := h
  have b6 := (tset8 _ hs.1 p hp8).2
  have b7 := (tset8 _ hs.2.1 p hp8).2
  obtain ⟨g6, g7, g3, g4, g5⟩ := put_g (S := S) (p := p) (v := v) (n := n)
  have W : ∀ z : Int32, (∀ q, q = p → z = nI (put S p v n 5 p)) → ∃ M', f_X8_comes_L21 M (nI p) (nI v) (nI n) z (5 : Int32) (nI p) = some M' ∧ RO O (M' 11 29) (put S p v n) ∧ FM M M' := by
    intro z hz
    refine ⟨st (st (st (st M 11 29 (21 + 6 * p + 5) z) 11 29 (21 + 6 * p + 2) 1) 11 29 (21 + 6 * p + 3) (nI v)) 11 29 (21 + 6 * p + 4) (nI n), ?_, ?_, FM.rf.s29.s29.s29.s29⟩
    · rw [f_X8_comes_L21, m_pgp5 M hp8, bO, m_pgp2 _ hp8, bO, m_pgp3 _ hp8, bO, m_pgp4 _ hp8, bO]
    · have lo : ∀ j, ¬ (21 + 6 * p + 2 ≤ j ∧ j ≤ 21 + 6 * p + 5) → st (st (st (st M 11 29 (21 + 6 * p + 5) z) 11 29 (21 + 6 * p + 2) 1) 11 29 (21 + 6 * p + 3) (nI v)) 11 29 (21 + 6 * p + 4) (nI n) 11 29 j = M 11 29 j := fun j a => by
        rw [sg, if_neg (by omega), sg, if_neg (by omega), sg, if_neg (by omega), sg, if_neg (by omega)]
      refine ⟨RN_cg hn (fun i a => lo i (by omega)) (put_o (by omega)) (put_o (by omega)) (put_o (by omega)) (put_o (by omega)) (put_o (by omega)), fun q hq => ?_, RG_cg hg (fun i a c => lo i (by omega)) (fun f i _ hf => put_o (by omega)), RR_cg hr (fun i a c => lo i (by omega)) (put_o (by omega)) (put_o (by omega)) (put_o (by omega)) (fun f i a c => put_o (by omega))⟩
      obtain ⟨h0, h1, h2, h3, h4⟩ := hp q hq
      rw [g6, g7, b6 q hq, b7 q hq, g3, g4, put_o (f := 1) (by omega), put_o (f := 2) (by omega)]
      by_cases e : q = p
      · subst e
        rw [lo _ (by omega), lo _ (by omega), decide_eq_true rfl, Bool.or_true, if_pos rfl, if_pos rfl]
        refine ⟨h0, h1, ?_, fun _ => ⟨?_, ?_⟩, fun _ => ?_⟩
        · rw [sg, if_neg (by omega), sg, if_neg (by omega), sg, if_pos rfl]; rfl
        · rw [sg, if_neg (by omega), sg, if_pos rfl]
        · rw [sg, if_pos rfl]
        · rw [sg, if_neg (by omega), sg, if_neg (by omega), sg, if_neg (by omega), sg, if_pos rfl]
          exact hz q rfl
      · rw [lo _ (by omega), lo _ (by omega), lo _ (by omega), lo _ (by omega), lo _ (by omega), lo _ (by omega), decide_eq_false e, Bool.or_false, Bool.or_false, if_neg e, if_neg e, g5, if_neg (fun z => e z.1)]
        exact ⟨h0, h1, h2, h3, h4⟩
  rw [f_X8_comes, m_dirty hp hB hb hp8 hd, bO]
  cases q : (S 0 7).testBit p
  · rw [if_pos (show b01 false = 0 from rfl)]
    exact W _ (fun _ _ => by rw [g5, if_pos ⟨rfl, q⟩])
  · rw [if_neg (show ¬ (b01 true = 0) by decide), m_pg5 M hp8, bO]
    exact W _ (fun _ _ => by rw [g5, if_neg (by rw [q]; exact fun z => nomatch z.2)]; exact (hp p hp8).2.2.2.2 q)
end MP
