/-! copying a store, the history -/
def Cpy (k j : Nat) (M : Mem) (R : Nat → Nat → Prop) (M' : Mem) : Prop := Fr k M M' ∧ ∀ r i, R r i → M' k r i = M j r i
section CC
variable {j k b : Nat} {M M1 : Mem} {S : St} {R : Nat → Nat → Prop}
theorem bds {Q P : Mem → Prop} {x : Mem} {K : Mem → Option Mem} (h : P x) (f : ∀ y, P y → ∃ M', K y = some M' ∧ Q M') : ∃ M', bd x K = some M' ∧ Q M' := f x h
theorem Cpy.c (hj : j ≠ k) (r L : Nat) (h : Cpy k j M R M1) : Cpy k j M (fun r' i' => R r' i' ∨ (r' = r ∧ i' < L)) (sr M1 k r (va_cpy (M1 j r) (M1 k r) 0 0 L)) := by
  refine ⟨h.1.sr, fun r' i' hr => ?_⟩
  rw [sr_get]
  have hj2 := h.1 j hj
  by_cases e : r' = r
  · subst e
    rw [if_pos ⟨rfl, rfl⟩, hj2]
    unfold va_cpy
    by_cases l : i' < L
    · rw [if_pos (by omega)]
      congr 1
      omega
    · rw [if_neg (by omega)]
      rcases hr with hr | hr
      · exact h.2 _ _ hr
      · omega
  · rw [if_neg (by omega)]
    rcases hr with hr | hr
    · exact h.2 _ _ hr
    · exact absurd hr.1 e
theorem Cpy.s (hj : j ≠ k) (r i : Nat) (h : Cpy k j M R M1) : Cpy k j M (fun r' i' => R r' i' ∨ (r' = r ∧ i' = i)) (st M1 k r i (M1 j r i)) := by
  refine ⟨h.1.st, fun r' i' hr => ?_⟩
  rw [st_get, h.1 j hj]
  by_cases e : r' = r ∧ i' = i
  · rw [if_pos ⟨rfl, e⟩, e.1, e.2]
  · rw [if_neg (by omega)]
    rcases hr with hr | hr
    · exact h.2 _ _ hr
    · exact absurd hr e
theorem Cpy.z : Cpy k j M (fun _ _ => False) M := ⟨Fr.rf, fun _ _ h => h.elim⟩
theorem RC_cp {X Y : Nat → Nat → Int32} (h : RC X S) (hN : S 0 1 ≤ 128) (e : ∀ r i, ((r = 2 ∨ r = 3 ∨ r = 4 ∨ r = 5 ∨ r = 6 ∨ r = 18) ∧ i < 8 ∨ (r = 8 ∨ r = 9 ∨ r = 10) ∧ i < 4 ∨ (r = 12 ∨ r = 13 ∨ r = 14 ∨ r = 15 ∨ r = 16 ∨ r = 17) ∧ i < 128 ∨ r = 11 ∧ (i = 7 ∨ i = 8 ∨ i = 9 ∨ i = 10 ∨ i = 11) ∨ r = 1 ∧ (i = 5 ∨ i = 6) ∨ r = 7 ∧ i = 3 ∨ r = 0 ∧ (i = 3 ∨ i = 4)) → Y r i = X r i) : RC Y S := by
  obtain ⟨⟨a1, a2, a3, a4, a5, ⟨a6, a7⟩, a8, a9, a10⟩, hp, hg, hr⟩ := h
  refine ⟨⟨?_, ?_, ?_, ?_, ?_, ⟨?_, ?_⟩, ?_, ?_, ?_⟩, fun p h8 => ?_, fun g h4 => ?_, fun n hn => ?_⟩
  all_goals first
    | (rw [e _ _ (by omega)]; assumption)
    | skip
  · obtain ⟨b1, b2, b3, b4, b5, b6⟩ := hp p h8
    rw [e 2 p (by omega), e 3 p (by omega), e 4 p (by omega), e 5 p (by omega), e 6 p (by omega), e 18 p (by omega)]
    exact ⟨b1, b2, b3, b4, b5, b6⟩
  · obtain ⟨b1, b2, b3⟩ := hg g h4
    rw [e 8 g (by omega), e 9 g (by omega), e 10 g (by omega)]
    exact ⟨b1, b2, b3⟩
  · obtain ⟨b1, b2, b3, b4, b5, b6⟩ := hr n hn
    rw [e 12 n (by omega), e 13 n (by omega), e 14 n (by omega), e 15 n (by omega), e 16 n (by omega), e 17 n (by omega)]
    exact ⟨b1, b2, b3, b4, b5, b6⟩
theorem cl_copy (hj : j ≠ k) (h : RC (M j) S) (hN : S 0 1 ≤ 128) (h5 : S 0 5 < 2) : ∃ M', f_X6_copyFrom k j M = some M' ∧ RC (M' k) S ∧ Fr k M M' := by
  have c4 : ∀ M1 R, Cpy k j M R M1 → ∃ M2, f_X4_copyFrom k j M1 = some M2 ∧ Cpy k j M (fun r i => (((((((R r i ∨ (r = 2 ∧ i < 8)) ∨ (r = 3 ∧ i < 8)) ∨ (r = 4 ∧ i < 8)) ∨ (r = 5 ∧ i < 8)) ∨ (r = 6 ∧ i < 8)) ∨ (r = 1 ∧ i = 5)) ∨ (r = 1 ∧ i = 6))) M2 := fun M1 R h => by
    rw [f_X4_copyFrom]
    refine bds (h.c hj 2 8) (fun _ h => ?_)
    refine bds (h.c hj 3 8) (fun _ h => ?_)
    refine bds (h.c hj 4 8) (fun _ h => ?_)
    refine bds (h.c hj 5 8) (fun _ h => ?_)
    refine bds (h.c hj 6 8) (fun _ h => ?_)
    refine bds (h.s hj 1 5) (fun _ h => ?_)
    refine bds (h.s hj 1 6) (fun _ h => ?_)
    exact ⟨_, rfl, h⟩
  have c0 : ∀ M1 R, Cpy k j M R M1 → ∃ M2, f_X0_copyFrom k j M1 = some M2 ∧ Cpy k j M (fun r i => ((((R r i ∨ (r = 8 ∧ i < 4)) ∨ (r = 9 ∧ i < 4)) ∨ (r = 10 ∧ i < 4)) ∨ (r = 7 ∧ i = 3))) M2 := fun M1 R h => by
    rw [f_X0_copyFrom]
    refine bds (h.c hj 8 4) (fun _ h => ?_)
    refine bds (h.c hj 9 4) (fun _ h => ?_)
    refine bds (h.c hj 10 4) (fun _ h => ?_)
    refine bds (h.s hj 7 3) (fun _ h => ?_)
    exact ⟨_, rfl, h⟩
  have c2 : ∀ M1 R, Cpy k j M R M1 → ∃ M2, f_X2_copyFrom k j M1 = some M2 ∧ Cpy k j M (fun r i => ((((((((((((R r i ∨ (r = 12 ∧ i < 128)) ∨ (r = 13 ∧ i < 128)) ∨ (r = 14 ∧ i < 128)) ∨ (r = 15 ∧ i < 128)) ∨ (r = 16 ∧ i < 128)) ∨ (r = 17 ∧ i < 128)) ∨ (r = 18 ∧ i < 8)) ∨ (r = 11 ∧ i = 7)) ∨ (r = 11 ∧ i = 8)) ∨ (r = 11 ∧ i = 9)) ∨ (r = 11 ∧ i = 10)) ∨ (r = 11 ∧ i = 11))) M2 := fun M1 R h => by
    rw [f_X2_copyFrom]
    refine bds (h.c hj 12 128) (fun _ h => ?_)
    refine bds (h.c hj 13 128) (fun _ h => ?_)
    refine bds (h.c hj 14 128) (fun _ h => ?_)
    refine bds (h.c hj 15 128) (fun _ h => ?_)
    refine bds (h.c hj 16 128) (fun _ h => ?_)
    refine bds (h.c hj 17 128) (fun _ h => ?_)
    refine bds (h.c hj 18 8) (fun _ h => ?_)
    refine bds (h.s hj 11 7) (fun _ h => ?_)
    refine bds (h.s hj 11 8) (fun _ h => ?_)
    refine bds (h.s hj 11 9) (fun _ h => ?_)
    refine bds (h.s hj 11 10) (fun _ h => ?_)
    refine bds (h.s hj 11 11) (fun _ h => ?_)
    exact ⟨_, rfl, h⟩
  obtain ⟨M1, e1, h1⟩ := c4 M _ Cpy.z
  obtain ⟨M2, e2, h2⟩ := c0 M1 _ h1
  obtain ⟨M3, e3, h3⟩ := c2 M2 _ h2
  have hB : isB (M3 j 0 3) := by
    rw [h3.1 j hj, h.1.2.2.2.2.2.1.1]
    rcases (show S 0 5 = 0 ∨ S 0 5 = 1 by omega) with e | e <;> rw [e] <;> decide
  have h4 := h3.s hj 0 3
  have h5 := h4.s hj 0 4
  refine ⟨_, by rw [f_X6_copyFrom, e1, bO, e2, bO, e3, bO, gd, if_pos hB, bd, bd], ?_, h5.1⟩
  refine RC_cp h hN (fun r i hr => h5.2 r i ?_)
  omega
end CC
