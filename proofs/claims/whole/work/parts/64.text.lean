/-! texts: how an order is read -/
def sgn (T : Nat → Nat) (tl i : Nat) : Nat := if i < tl then T i else 0
abbrev isd (c : Nat) : Prop := 48 ≤ c ∧ c ≤ 57
def TC (M : Mem) (tl : Nat) (T : Nat → Nat) : Prop := tl ≤ 80 ∧ M 9 25 1 = nI tl ∧ ∀ i, i < tl → T i < 128 ∧ M 9 26 i = nI (T i)
def TM (M : Mem) (tl : Nat) (T : Nat → Nat) : Prop := tl ≤ 80 ∧ M 11 28 7 = nI tl ∧ ∀ i, i < tl → T i < 128 ∧ M 11 33 i = nI (T i)
abbrev PRt : Type := Bool × Nat × Nat × Nat × Nat
def PR (c : Nat → Nat) (n : Nat) (R : PRt) : Prop :=
  ((c n = 99 ∨ c n = 120 ∨ c n = 114) ∧ ((c (n + 1) = 59 ∧ R = (true, n + 2, 0, 0, 0)) ∨ (c (n + 1) ≠ 59 ∧ R = (false, n + 1, 0, 0, 0)))) ∨
  ((c n = 98 ∨ c n = 115 ∨ c n = 116 ∨ c n = 111) ∧ ((¬ isd (c (n + 1)) ∧ R = (false, n + 1, 0, 0, 0)) ∨ (isd (c (n + 1)) ∧ ((c (n + 2) = 59 ∧ R = (true, n + 3, c (n + 1) - 48, 0, 0)) ∨ (c (n + 2) ≠ 59 ∧ R = (false, n + 2, 0, 0, 0)))))) ∨
  (c n = 119 ∧ ((¬ isd (c (n + 1)) ∧ R = (false, n + 1, 0, 0, 0)) ∨ (isd (c (n + 1)) ∧ ((c (n + 2) ≠ 44 ∧ R = (false, n + 2, 0, 0, 0)) ∨ (c (n + 2) = 44 ∧ ((¬ isd (c (n + 3)) ∧ R = (false, n + 3, 0, 0, 0)) ∨ (isd (c (n + 3)) ∧ ((c (n + 4) ≠ 44 ∧ R = (false, n + 4, 0, 0, 0)) ∨ (c (n + 4) = 44 ∧ ((¬ isd (c (n + 5)) ∧ R = (false, n + 5, 0, 0, 0)) ∨ (isd (c (n + 5)) ∧
    ((isd (c (n + 6)) ∧ ((c (n + 7) = 59 ∧ R = (true, n + 8, c (n + 1) - 48, c (n + 3) - 48, (c (n + 5) - 48) * 10 + (c (n + 6) - 48))) ∨ (c (n + 7) ≠ 59 ∧ R = (false, n + 7, 0, 0, 0)))) ∨ (¬ isd (c (n + 6)) ∧ ((c (n + 6) = 59 ∧ R = (true, n + 7, c (n + 1) - 48, c (n + 3) - 48, c (n + 5) - 48)) ∨ (c (n + 6) ≠ 59 ∧ R = (false, n + 6, 0, 0, 0)))))))))))))))) ∨
  ((c n ≠ 98 ∧ c n ≠ 99 ∧ c n ≠ 111 ∧ c n ≠ 114 ∧ c n ≠ 115 ∧ c n ≠ 116 ∧ c n ≠ 119 ∧ c n ≠ 120) ∧ R = (false, n, 0, 0, 0))
theorem PR_ex (c : Nat → Nat) (n : Nat) : ∃ R, PR c n R := by
  unfold PR
  by_cases h1 : c n = 99 ∨ c n = 120 ∨ c n = 114
  · by_cases h2 : c (n + 1) = 59
    · exact ⟨_, Or.inl ⟨h1, Or.inl ⟨h2, rfl⟩⟩⟩
    · exact ⟨_, Or.inl ⟨h1, Or.inr ⟨h2, rfl⟩⟩⟩
  · by_cases h2 : c n = 98 ∨ c n = 115 ∨ c n = 116 ∨ c n = 111
    · by_cases h3 : isd (c (n + 1))
      · by_cases h4 : c (n + 2) = 59
        · exact ⟨_, Or.inr (Or.inl ⟨h2, Or.inr ⟨h3, Or.inl ⟨h4, rfl⟩⟩⟩)⟩
        · exact ⟨_, Or.inr (Or.inl ⟨h2, Or.inr ⟨h3, Or.inr ⟨h4, rfl⟩⟩⟩)⟩
      · exact ⟨_, Or.inr (Or.inl ⟨h2, Or.inl ⟨h3, rfl⟩⟩)⟩
    · by_cases h3 : c n = 119
      · by_cases d1 : isd (c (n + 1))
        · by_cases d2 : c (n + 2) = 44
          · by_cases d3 : isd (c (n + 3))
            · by_cases d4 : c (n + 4) = 44
              · by_cases d5 : isd (c (n + 5))
                · by_cases d6 : isd (c (n + 6))
                  · by_cases d7 : c (n + 7) = 59
                    · exact ⟨_, Or.inr (Or.inr (Or.inl ⟨h3, Or.inr ⟨d1, Or.inr ⟨d2, Or.inr ⟨d3, Or.inr ⟨d4, Or.inr ⟨d5, Or.inl ⟨d6, Or.inl ⟨d7, rfl⟩⟩⟩⟩⟩⟩⟩⟩))⟩
                    · exact ⟨_, Or.inr (Or.inr (Or.inl ⟨h3, Or.inr ⟨d1, Or.inr ⟨d2, Or.inr ⟨d3, Or.inr ⟨d4, Or.inr ⟨d5, Or.inl ⟨d6, Or.inr ⟨d7, rfl⟩⟩⟩⟩⟩⟩⟩⟩))⟩
                  · by_cases d7 : c (n + 6) = 59
                    · exact ⟨_, Or.inr (Or.inr (Or.inl ⟨h3, Or.inr ⟨d1, Or.inr ⟨d2, Or.inr ⟨d3, Or.inr ⟨d4, Or.inr ⟨d5, Or.inr ⟨d6, Or.inl ⟨d7, rfl⟩⟩⟩⟩⟩⟩⟩⟩))⟩
                    · exact ⟨_, Or.inr (Or.inr (Or.inl ⟨h3, Or.inr ⟨d1, Or.inr ⟨d2, Or.inr ⟨d3, Or.inr ⟨d4, Or.inr ⟨d5, Or.inr ⟨d6, Or.inr ⟨d7, rfl⟩⟩⟩⟩⟩⟩⟩⟩))⟩
                · exact ⟨_, Or.inr (Or.inr (Or.inl ⟨h3, Or.inr ⟨d1, Or.inr ⟨d2, Or.inr ⟨d3, Or.inr ⟨d4, Or.inl ⟨d5, rfl⟩⟩⟩⟩⟩⟩))⟩
              · exact ⟨_, Or.inr (Or.inr (Or.inl ⟨h3, Or.inr ⟨d1, Or.inr ⟨d2, Or.inr ⟨d3, Or.inl ⟨d4, rfl⟩⟩⟩⟩⟩))⟩
            · exact ⟨_, Or.inr (Or.inr (Or.inl ⟨h3, Or.inr ⟨d1, Or.inr ⟨d2, Or.inl ⟨d3, rfl⟩⟩⟩⟩))⟩
          · exact ⟨_, Or.inr (Or.inr (Or.inl ⟨h3, Or.inr ⟨d1, Or.inl ⟨d2, rfl⟩⟩⟩))⟩
        · exact ⟨_, Or.inr (Or.inr (Or.inl ⟨h3, Or.inl ⟨d1, rfl⟩⟩))⟩
      · exact ⟨_, Or.inr (Or.inr (Or.inr ⟨⟨by omega, by omega, by omega, by omega, by omega, by omega, by omega, by omega⟩, rfl⟩))⟩
/-- an order that is read goes on ahead, within the text -/
theorem PR_ok {T : Nat → Nat} {tl n : Nat} {R : PRt} (h : PR (sgn T tl) n R) (hR : R.1 = true) : n + 2 ≤ R.2.1 ∧ R.2.1 ≤ tl ∧ R.2.2.1 < 10 ∧ R.2.2.2.1 < 10 ∧ R.2.2.2.2 < 100 := by
  have s59 : ∀ i, sgn T tl i = 59 → i < tl := fun i hi => by
    unfold sgn at hi
    by_cases q : i < tl
    · exact q
    · rw [if_neg q] at hi; omega
  rcases h with ⟨h1, ⟨h2, rfl⟩ | ⟨h2, rfl⟩⟩ | ⟨h1, ⟨h2, rfl⟩ | ⟨h2, ⟨h3, rfl⟩ | ⟨h3, rfl⟩⟩⟩ | ⟨h1, ⟨d1, rfl⟩ | ⟨d1, ⟨d2, rfl⟩ | ⟨d2, ⟨d3, rfl⟩ | ⟨d3, ⟨d4, rfl⟩ | ⟨d4, ⟨d5, rfl⟩ | ⟨d5, ⟨d6, ⟨d7, rfl⟩ | ⟨d7, rfl⟩⟩ | ⟨d6, ⟨d7, rfl⟩ | ⟨d7, rfl⟩⟩⟩⟩⟩⟩⟩⟩ | ⟨h1, rfl⟩
  all_goals first
    | (cases hR; done)
    | skip
  · have := s59 _ h2
    exact ⟨Nat.le_refl _, by show n + 2 ≤ tl; omega, by show 0 < 10; omega, by show 0 < 10; omega, by show 0 < 100; omega⟩
  · have := s59 _ h3
    exact ⟨by show n + 2 ≤ n + 3; omega, by show n + 3 ≤ tl; omega, by show sgn T tl (n + 1) - 48 < 10; omega, by show 0 < 10; omega, by show 0 < 100; omega⟩
  · have := s59 _ d7
    exact ⟨by show n + 2 ≤ n + 8; omega, by show n + 8 ≤ tl; omega, by show sgn T tl (n + 1) - 48 < 10; omega, by show sgn T tl (n + 3) - 48 < 10; omega, by show (sgn T tl (n + 5) - 48) * 10 + (sgn T tl (n + 6) - 48) < 100; omega⟩
  · have := s59 _ d7
    exact ⟨by show n + 2 ≤ n + 7; omega, by show n + 7 ≤ tl; omega, by show sgn T tl (n + 1) - 48 < 10; omega, by show sgn T tl (n + 3) - 48 < 10; omega, by show sgn T tl (n + 5) - 48 < 100; omega⟩
def FT (M M' : Mem) : Prop := ∀ k r i, ¬ (k = 9 ∧ r = 25 ∧ 2 ≤ i) → M' k r i = M k r i
def PS (M0 : Mem) (tl : Nat) (T : Nat → Nat) (M : Mem) (n L : Nat) (x y z : Int32) : Prop := TC M tl T ∧ M 9 25 2 = nI n ∧ M 9 25 3 = nI L ∧ M 9 25 4 = x ∧ M 9 25 5 = y ∧ M 9 25 6 = z ∧ FT M0 M
section TX
variable {M M0 M' : Mem} {tl n L m : Nat} {T : Nat → Nat} {x y z v : Int32} {R : PRt}
theorem t9 (M : Mem) (i : Nat) (v : Int32) (j : Nat) : st M 9 25 i v 9 25 j = if j = i then v else M 9 25 j := by
  rw [st_get]
  by_cases e : j = i
  · rw [if_pos ⟨rfl, rfl, e⟩, if_pos e]
  · rw [if_neg (fun q => e q.2.2), if_neg e]
theorem TC.s {i : Nat} (h : TC M tl T) (hi : 2 ≤ i) : TC (st M 9 25 i v) tl T := by
  obtain ⟨h1, h2, h3⟩ := h
  refine ⟨h1, by rw [t9, if_neg (by omega)]; exact h2, fun j hj => ?_⟩
  rw [st_get, if_neg (by omega)]
  exact h3 j hj
theorem FT.s {i : Nat} (h : FT M0 M) (hi : 2 ≤ i) : FT M0 (st M 9 25 i v) := fun k r j q => by
  rw [st_get, if_neg (by omega)]
  exact h k r j q
theorem PS.s2 (h : PS M0 tl T M n L x y z) (m : Nat) : PS M0 tl T (st M 9 25 2 (nI m)) m L x y z := by
  obtain ⟨h1, h2, h3, h4, h5, h6, h7⟩ := h
  exact ⟨h1.s (by omega), by rw [t9, if_pos rfl], by rw [t9, if_neg (by omega)]; exact h3, by rw [t9, if_neg (by omega)]; exact h4, by rw [t9, if_neg (by omega)]; exact h5, by rw [t9, if_neg (by omega)]; exact h6, h7.s (by omega)⟩
theorem PS.s4 (h : PS M0 tl T M n L x y z) (v : Int32) : PS M0 tl T (st M 9 25 4 v) n L v y z := by
  obtain ⟨h1, h2, h3, h4, h5, h6, h7⟩ := h
  exact ⟨h1.s (by omega), by rw [t9, if_neg (by omega)]; exact h2, by rw [t9, if_neg (by omega)]; exact h3, by rw [t9, if_pos rfl], by rw [t9, if_neg (by omega)]; exact h5, by rw [t9, if_neg (by omega)]; exact h6, h7.s (by omega)⟩
theorem PS.s5 (h : PS M0 tl T M n L x y z) (v : Int32) : PS M0 tl T (st M 9 25 5 v) n L x v z := by
  obtain ⟨h1, h2, h3, h4, h5, h6, h7⟩ := h
  exact ⟨h1.s (by omega), by rw [t9, if_neg (by omega)]; exact h2, by rw [t9, if_neg (by omega)]; exact h3, by rw [t9, if_neg (by omega)]; exact h4, by rw [t9, if_pos rfl], by rw [t9, if_neg (by omega)]; exact h6, h7.s (by omega)⟩
theorem PS.s6 (h : PS M0 tl T M n L x y z) (v : Int32) : PS M0 tl T (st M 9 25 6 v) n L x y v := by
  obtain ⟨h1, h2, h3, h4, h5, h6, h7⟩ := h
  exact ⟨h1.s (by omega), by rw [t9, if_neg (by omega)]; exact h2, by rw [t9, if_neg (by omega)]; exact h3, by rw [t9, if_neg (by omega)]; exact h4, by rw [t9, if_neg (by omega)]; exact h5, by rw [t9, if_pos rfl], h7.s (by omega)⟩
theorem sgn_lt (hT : ∀ i, i < tl → T i < 128) (n : Nat) : sgn T tl n < 128 := by
  unfold sgn
  split
  · rename_i q; exact hT n q
  · omega
theorem t_sign (h : TC M tl T) (hn : M 9 25 2 = nI n) (hb : n ≤ 1000) : f_X3_sign M = some (nI (sgn T tl n)) := by
  obtain ⟨h1, h2, h3⟩ := h
  rw [f_X3_sign, hn, h2, if_neg (by rw [nL_neg (by omega)]; exact id), sgn]
  by_cases q : n < tl
  · rw [if_neg (by rw [nL_le (by omega) (by omega)]; omega), if_neg (by rw [nl80, nL_le (by omega) (by omega)]; omega), gd_in (by omega) (by omega), nL_cl (by omega), (h3 n q).2, if_pos q]
  · rw [if_pos (by rw [nL_le (by omega) (by omega)]; omega), if_neg q]; rfl
theorem nl48 : (48 : Int32) = nI 48 := rfl
theorem nl57 : (57 : Int32) = nI 57 := rfl
theorem t_dig1 (h : PS M0 tl T M n L x y z) (hb : n ≤ 1000) (hd : isd (sgn T tl n)) : f_X3_readDigit M = some (nI (sgn T tl n - 48), st M 9 25 2 (nI (n + 1))) := by
  have := sgn_lt (fun i hi => (h.1.2.2 i hi).1) n
  rw [f_X3_readDigit, t_sign h.1 h.2.1 hb, bO_some, if_neg (by rw [nl48, nL_lt (by omega) (by omega)]; omega), if_pos (by rw [nl57, nL_le (by omega) (by omega)]; omega), h.2.1, nI_1, bd, nl48, nL_sub (by omega)]
theorem t_dig0 (h : PS M0 tl T M n L x y z) (hb : n ≤ 1000) (hd : ¬ isd (sgn T tl n)) : f_X3_readDigit M = some (-1, M) := by
  have := sgn_lt (fun i hi => (h.1.2.2 i hi).1) n
  rw [f_X3_readDigit, t_sign h.1 h.2.1 hb, bO_some]
  by_cases q : sgn T tl n < 48
  · rw [if_pos (by rw [nl48, nL_lt (by omega) (by omega)]; exact q)]
  · rw [if_neg (by rw [nl48, nL_lt (by omega) (by omega)]; exact q), if_neg (by rw [nl57, nL_le (by omega) (by omega)]; unfold isd at hd; omega)]
theorem t_sg1 (h : PS M0 tl T M n L x y z) (hb : n ≤ 1000) {k : Nat} (hd : sgn T tl n = k) : f_X3_readSign M (nI k) = some (1, st M 9 25 2 (nI (n + 1))) := by
  rw [f_X3_readSign, t_sign h.1 h.2.1 hb, bO_some, hd, if_pos rfl, h.2.1, nI_1, bd]
theorem t_sg0 (h : PS M0 tl T M n L x y z) (hb : n ≤ 1000) {k : Nat} (hk : k < 128) (hd : sgn T tl n ≠ k) : f_X3_readSign M (nI k) = some (0, M) := by
  have := sgn_lt (fun i hi => (h.1.2.2 i hi).1) n
  rw [f_X3_readSign, t_sign h.1 h.2.1 hb, bO_some, if_neg (by rw [nL_eq (by omega) (by omega)]; exact hd)]
theorem t_let1 (hs : f_X3_sign M = some (nI L)) (hL : L = 98 ∨ L = 99 ∨ L = 111 ∨ L = 114 ∨ L = 115 ∨ L = 116 ∨ L = 119 ∨ L = 120) : f_X3_readLetter M = f_X3_readLetter_L120 (st M 9 25 3 (nI L)) := by
  rw [f_X3_readLetter, hs, bO_some, bd, t9, if_pos rfl]
  rcases hL with rfl | rfl | rfl | rfl | rfl | rfl | rfl | rfl
  · rw [if_pos (by decide)]
  · rw [if_neg (by decide), if_pos (by decide)]
  · rw [if_neg (by decide), if_neg (by decide), if_neg (by decide), if_neg (by decide), if_neg (by decide), if_neg (by decide), if_neg (by decide), if_neg (by decide), if_neg (by decide), if_neg (by decide), if_neg (by decide), if_neg (by decide), if_neg (by decide), if_pos (by decide)]
  · rw [if_neg (by decide), if_neg (by decide), if_neg (by decide), if_neg (by decide), if_neg (by decide), if_neg (by decide), if_neg (by decide), if_neg (by decide), if_neg (by decide), if_neg (by decide), if_neg (by decide), if_neg (by decide), if_neg (by decide), if_neg (by decide), if_neg (by decide), if_neg (by decide), if_pos (by decide)]
  · rw [if_neg (by decide), if_neg (by decide), if_neg (by decide), if_neg (by decide), if_neg (by decide), if_neg (by decide), if_neg (by decide), if_neg (by decide), if_neg (by decide), if_neg (by decide), if_neg (by decide), if_neg (by decide), if_neg (by decide), if_neg (by decide), if_neg (by decide), if_neg (by decide), if_neg (by decide), if_pos (by decide)]
  · rw [if_neg (by decide), if_neg (by decide), if_neg (by decide), if_neg (by decide), if_neg (by decide), if_neg (by decide), if_neg (by decide), if_neg (by decide), if_neg (by decide), if_neg (by decide), if_neg (by decide), if_neg (by decide), if_neg (by decide), if_neg (by decide), if_neg (by decide), if_neg (by decide), if_neg (by decide), if_neg (by decide), if_pos (by decide)]
  · rw [if_neg (by decide), if_neg (by decide), if_neg (by decide), if_neg (by decide), if_neg (by decide), if_neg (by decide), if_neg (by decide), if_neg (by decide), if_neg (by decide), if_neg (by decide), if_neg (by decide), if_neg (by decide), if_neg (by decide), if_neg (by decide), if_neg (by decide), if_neg (by decide), if_neg (by decide), if_neg (by decide), if_neg (by decide), if_neg (by decide), if_neg (by decide), if_pos (by decide)]
  · rw [if_neg (by decide), if_neg (by decide), if_neg (by decide), if_neg (by decide), if_neg (by decide), if_neg (by decide), if_neg (by decide), if_neg (by decide), if_neg (by decide), if_neg (by decide), if_neg (by decide), if_neg (by decide), if_neg (by decide), if_neg (by decide), if_neg (by decide), if_neg (by decide), if_neg (by decide), if_neg (by decide), if_neg (by decide), if_neg (by decide), if_neg (by decide), if_neg (by decide), if_pos (by decide)]
theorem t_let0 (hs : f_X3_sign M = some (nI L)) (hb : L < 1000) (hL : L ≠ 98 ∧ L ≠ 99 ∧ L ≠ 111 ∧ L ≠ 114 ∧ L ≠ 115 ∧ L ≠ 116 ∧ L ≠ 119 ∧ L ≠ 120) : f_X3_readLetter M = some (0, st M 9 25 3 (nI L)) := by
  rw [f_X3_readLetter, hs, bO_some, bd, t9, if_pos rfl]
  have e : ∀ k, k < 1000 → L ≠ k → (nI L = nI k) = False := fun k hk hne => by rw [nL_eq (by omega) (by omega)]; exact eq_false hne
  obtain ⟨a1, a2, a3, a4, a5, a6, a7, a8⟩ := hL
  simp only [show (nI L = (98 : Int32)) = False from e 98 (by omega) a1, show (nI L = (99 : Int32)) = False from e 99 (by omega) a2, show (nI L = (111 : Int32)) = False from e 111 (by omega) a3, show (nI L = (114 : Int32)) = False from e 114 (by omega) a4, show (nI L = (115 : Int32)) = False from e 115 (by omega) a5, show (nI L = (116 : Int32)) = False from e 116 (by omega) a6, show (nI L = (119 : Int32)) = False from e 119 (by omega) a7, show (nI L = (120 : Int32)) = False from e 120 (by omega) a8, if_false, ite_self]
/-- what reading leaves -/
def RO1 (M0 : Mem) (tl : Nat) (T : Nat → Nat) (n : Nat) (R : PRt) (M' : Mem) : Prop := FT M0 M' ∧ TC M' tl T ∧ M' 9 25 2 = nI R.2.1 ∧ (R.1 = true → M' 9 25 3 = nI (sgn T tl n) ∧ (¬ (sgn T tl n = 99 ∨ sgn T tl n = 120 ∨ sgn T tl n = 114) → M' 9 25 4 = nI R.2.2.1) ∧ (sgn T tl n = 119 → M' 9 25 5 = nI R.2.2.2.1 ∧ M' 9 25 6 = nI R.2.2.2.2)) ∧ (R.1 = false → M' 9 25 7 = nI (R.2.1 - n))
theorem t_fail {k : Nat} (h : PS M0 tl T M k L x y z) (hk : n ≤ k) (hR : R = (false, k, 0, 0, 0)) : ∃ M', f_X3_readOrder_L30 M (nI n) = some (b01 R.1, M') ∧ RO1 M0 tl T n R M' := by
  subst hR
  refine ⟨st M 9 25 7 (nI (k - n)), ?_, h.2.2.2.2.2.2.s (by omega), h.1.s (by omega), ?_, fun z => (nomatch z), fun _ => by rw [t9, if_pos rfl]⟩
  · rw [f_X3_readOrder_L30, h.2.1, nL_sub hk, bd]; rfl
  · rw [t9, if_neg (by omega)]; exact h.2.1
theorem t_read (hT : TC M tl T) (h2 : M 9 25 2 = nI n) (hn : n < tl) (hR : PR (sgn T tl) n R) : ∃ M', f_X3_readOrder M = some (b01 R.1, M') ∧ RO1 M tl T n R M' := by
  have h80 := hT.1
  obtain ⟨L, eL⟩ : ∃ L, L = sgn T tl n := ⟨_, rfl⟩
  have lt := sgn_lt (fun i hi => (hT.2.2 i hi).1)
  have L128 : L < 128 := by rw [eL]; exact lt n
  have sg := t_sign hT h2 (by omega)
  rw [← eL] at sg
  have p2 : PS M tl T (st M 9 25 3 (nI L)) n L (M 9 25 4) (M 9 25 5) (M 9 25 6) := ⟨hT.s (by omega), by rw [t9, if_neg (by omega)]; exact h2, by rw [t9, if_pos rfl], by rw [t9, if_neg (by omega)], by rw [t9, if_neg (by omega)], by rw [t9, if_neg (by omega)], FT.s (fun _ _ _ _ => rfl) (by omega)⟩
  have p3 := p2.s2 (n + 1)
  obtain ⟨M3, eM3⟩ : ∃ M3, M3 = st (st M 9 25 3 (nI L)) 9 25 2 (nI (n + 1)) := ⟨_, rfl⟩
  rw [← eM3] at p3
  have go : (L = 98 ∨ L = 99 ∨ L = 111 ∨ L = 114 ∨ L = 115 ∨ L = 116 ∨ L = 119 ∨ L = 120) → f_X3_readLetter M = some (1, M3) := fun z => by
    rw [t_let1 sg z, f_X3_readLetter_L120, p2.2.1, nI_1, bd, eM3]
  rw [f_X3_readOrder, h2, bd]
  rcases hR with ⟨h1, hR⟩ | ⟨h1, hR⟩ | ⟨h1, hR⟩ | ⟨h1, hR⟩
  · -- no argument
    rw [← eL] at h1
    rw [go (by omega), bP_some, if_neg (by decide)]
    have ar : f_X3_readArguments M3 = some (1, M3) := by
      rw [f_X3_readArguments, p3.2.2.1]
      rcases h1 with rfl | rfl | rfl
      · rw [if_pos (by decide)]
      · rw [if_neg (by decide), if_pos (by decide)]
      · rw [if_neg (by decide), if_neg (by decide), if_pos (by decide)]
    rw [ar, bP_some, if_neg (by decide)]
    rcases hR with ⟨c1, hR⟩ | ⟨c1, hR⟩
    · rw [show f_X3_readSign M3 (59 : Int32) = _ from t_sg1 p3 (by omega) c1, bP_some, if_neg (by decide), hR]
      have p4 := p3.s2 (n + 1 + 1)
      exact ⟨_, rfl, p4.2.2.2.2.2.2, p4.1, p4.2.1, fun _ => ⟨by rw [← eL]; exact p4.2.2.1, fun z => absurd (by rw [← eL]; exact h1) z, fun z => by rw [← eL] at z; omega⟩, fun z => (nomatch z)⟩
    · rw [show f_X3_readSign M3 (59 : Int32) = _ from t_sg0 p3 (by omega) (by decide) c1, bP_some, if_pos rfl]
      exact t_fail p3 (by omega) hR
  · -- one digit
    rw [← eL] at h1
    rw [go (by omega), bP_some, if_neg (by decide)]
    have ne : ∀ k, k < 1000 → L ≠ k → ¬ (nI L = nI k) := fun k hk q => by rw [nL_eq (by omega) (by omega)]; exact q
    rw [f_X3_readArguments, p3.2.2.1, if_neg (show ¬ nI L = (99 : Int32) from ne 99 (by omega) (by omega)), if_neg (show ¬ nI L = (120 : Int32) from ne 120 (by omega) (by omega)), if_neg (show ¬ nI L = (114 : Int32) from ne 114 (by omega) (by omega))]
    rcases hR with ⟨c1, hR⟩ | ⟨c1, hR⟩
    · rw [t_dig0 p3 (by omega) c1, bP_some, bd]
      have p4 := p3.s4 (-1)
      rw [p4.2.2.2.1, if_pos (by decide), f_X3_readArguments_L53, p4.2.2.2.1, if_pos (by decide), bP_some, if_pos rfl]
      exact t_fail p4 (by omega) hR
    · have l1 := lt (n + 1)
      rw [t_dig1 p3 (by omega) c1, bP_some, bd]
      have p4 := (p3.s2 (n + 1 + 1)).s4 (nI (sgn T tl (n + 1) - 48))
      rw [p4.2.2.2.1, if_neg (by rw [nL_neg (by omega)]; exact id), p4.2.2.1, if_neg (show ¬ nI L = (119 : Int32) from ne 119 (by omega) (by omega)), f_X3_readArguments_L53, p4.2.2.2.1, if_neg (by rw [nL_neg (by omega)]; exact id), bP_some, if_neg (by decide)]
      rcases hR with ⟨c2, hR⟩ | ⟨c2, hR⟩
      · rw [show f_X3_readSign _ (59 : Int32) = _ from t_sg1 p4 (by omega) c2, bP_some, if_neg (by decide), hR]
        have p5 := p4.s2 (n + 1 + 1 + 1)
        exact ⟨_, rfl, p5.2.2.2.2.2.2, p5.1, p5.2.1, fun _ => ⟨by rw [← eL]; exact p5.2.2.1, fun _ => p5.2.2.2.1, fun z => by rw [← eL] at z; omega⟩, fun z => (nomatch z)⟩
      · rw [show f_X3_readSign _ (59 : Int32) = _ from t_sg0 p4 (by omega) (by decide) c2, bP_some, if_pos rfl]
        exact t_fail p4 (by omega) hR
  · -- a write
    rw [← eL] at h1
    rw [go (by omega), bP_some, if_neg (by decide), f_X3_readArguments, p3.2.2.1, h1, if_neg (by decide), if_neg (by decide), if_neg (by decide)]
    rw [h1] at p3
    rcases hR with ⟨c1, hR⟩ | ⟨c1, hR⟩
    · rw [t_dig0 p3 (by omega) c1, bP_some, bd]
      have p4 := p3.s4 (-1)
      rw [p4.2.2.2.1, if_pos (by decide), f_X3_readArguments_L53, p4.2.2.2.1, if_pos (by decide), bP_some, if_pos rfl]
      exact t_fail p4 (by omega) hR
    have l1 := lt (n + 1)
    rw [t_dig1 p3 (by omega) c1, bP_some, bd]
    have p4 := (p3.s2 (n + 1 + 1)).s4 (nI (sgn T tl (n + 1) - 48))
    rw [p4.2.2.2.1, if_neg (by rw [nL_neg (by omega)]; exact id), p4.2.2.1, if_pos (by decide)]
    rcases hR with ⟨c2, hR⟩ | ⟨c2, hR⟩
    · rw [show f_X3_readSign _ (44 : Int32) = _ from t_sg0 p4 (by omega) (by decide) c2, bP_some, if_pos rfl, bP_some, if_pos rfl]
      exact t_fail p4 (by omega) hR
    rw [show f_X3_readSign _ (44 : Int32) = _ from t_sg1 p4 (by omega) c2, bP_some, if_neg (by decide)]
    have p5 := p4.s2 (n + 1 + 1 + 1)
    rcases hR with ⟨c3, hR⟩ | ⟨c3, hR⟩
    · rw [t_dig0 p5 (by omega) c3, bP_some, bd]
      have p6 := p5.s5 (-1)
      rw [p6.2.2.2.2.1, if_pos (by decide), bP_some, if_pos rfl]
      exact t_fail p6 (by omega) hR
    have l3 := lt (n + 3)
    rw [t_dig1 p5 (by omega) c3, bP_some, bd]
    have p6 := (p5.s2 (n + 1 + 1 + 1 + 1)).s5 (nI (sgn T tl (n + 3) - 48))
    rw [p6.2.2.2.2.1, if_neg (by rw [nL_neg (by omega)]; exact id)]
    rcases hR with ⟨c4, hR⟩ | ⟨c4, hR⟩
    · rw [show f_X3_readSign _ (44 : Int32) = _ from t_sg0 p6 (by omega) (by decide) c4, bP_some, if_pos rfl, bP_some, if_pos rfl]
      exact t_fail p6 (by omega) hR
    rw [show f_X3_readSign _ (44 : Int32) = _ from t_sg1 p6 (by omega) c4, bP_some, if_neg (by decide)]
    have p7 := p6.s2 (n + 1 + 1 + 1 + 1 + 1)
    rcases hR with ⟨c5, hR⟩ | ⟨c5, hR⟩
    · rw [f_X3_readValue, t_dig0 p7 (by omega) c5, bP_some, bd]
      have p8 := p7.s6 (-1)
      rw [p8.2.2.2.2.2.1, if_neg (by decide), bP_some, if_pos rfl, bP_some, if_pos rfl]
      exact t_fail p8 (by omega) hR
    have l5 := lt (n + 5)
    rw [f_X3_readValue, t_dig1 p7 (by omega) c5, bP_some, bd]
    have p8 := (p7.s2 (n + 1 + 1 + 1 + 1 + 1 + 1)).s6 (nI (sgn T tl (n + 5) - 48))
    rw [p8.2.2.2.2.2.1, if_pos (by rw [nl0, nL_le (by omega) (by omega)]; omega)]
    rcases hR with ⟨c6, hR⟩ | ⟨c6, hR⟩
    · have l6 : sgn T tl (n + 1 + 1 + 1 + 1 + 1 + 1) < 128 := lt (n + 6)
      rw [t_dig1 p8 (by omega) c6, bP_some, if_neg (by rw [nL_neg (by omega)]; exact id)]
      have p9 := p8.s2 (n + 1 + 1 + 1 + 1 + 1 + 1 + 1)
      have p10 := p9.s6 (nI ((sgn T tl (n + 5) - 48) * 10 + (sgn T tl (n + 6) - 48)))
      rw [p9.2.2.2.2.2.1, show (10 : Int32) = nI 10 from rfl, pk_mul, nI_add, bd, bP_some, if_neg (by decide), bP_some, if_neg (by decide)]
      rcases hR with ⟨c7, hR⟩ | ⟨c7, hR⟩
      · rw [show f_X3_readSign _ (59 : Int32) = _ from t_sg1 p10 (by omega) c7, bP_some, if_neg (by decide), hR]
        have p11 := p10.s2 (n + 1 + 1 + 1 + 1 + 1 + 1 + 1 + 1)
        exact ⟨_, rfl, p11.2.2.2.2.2.2, p11.1, p11.2.1, fun _ => ⟨by rw [← eL, h1]; exact p11.2.2.1, fun _ => p11.2.2.2.1, fun _ => ⟨p11.2.2.2.2.1, p11.2.2.2.2.2.1⟩⟩, fun z => (nomatch z)⟩
      · rw [show f_X3_readSign _ (59 : Int32) = _ from t_sg0 p10 (by omega) (by decide) c7, bP_some, if_pos rfl]
        exact t_fail p10 (by omega) hR
    · rw [t_dig0 p8 (by omega) c6, bP_some, if_pos (by decide), bP_some, if_neg (by decide), bP_some, if_neg (by decide)]
      rcases hR with ⟨c7, hR⟩ | ⟨c7, hR⟩
      · rw [show f_X3_readSign _ (59 : Int32) = _ from t_sg1 p8 (by omega) c7, bP_some, if_neg (by decide), hR]
        have p11 := p8.s2 (n + 1 + 1 + 1 + 1 + 1 + 1 + 1)
        exact ⟨_, rfl, p11.2.2.2.2.2.2, p11.1, p11.2.1, fun _ => ⟨by rw [← eL, h1]; exact p11.2.2.1, fun _ => p11.2.2.2.1, fun _ => ⟨p11.2.2.2.2.1, p11.2.2.2.2.2.1⟩⟩, fun z => (nomatch z)⟩
      · rw [show f_X3_readSign _ (59 : Int32) = _ from t_sg0 p8 (by omega) (by decide) c7, bP_some, if_pos rfl]
        exact t_fail p8 (by omega) hR
  · -- no such letter
    rw [← eL] at h1
    rw [t_let0 sg (by omega) (by omega), bP_some, if_pos rfl]
    exact t_fail p2 (by omega) hR
end TX
