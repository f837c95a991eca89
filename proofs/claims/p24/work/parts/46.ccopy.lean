/-! copying a store -/
def Cpy (k j : Nat) (M : Mem) (L : List (Nat × Nat × Nat)) (M' : Mem) : Prop := Fr k M M' ∧ ∀ r a c, (r, a, c) ∈ L → ∀ i, a ≤ i → i < c → M' k r i = M j r i
def FL : List (Nat × Nat × Nat) := [(0, 4, 5), (0, 3, 4), (11, 11, 12), (11, 10, 11), (11, 9, 10), (11, 8, 9), (11, 7, 8), (18, 0, 8), (17, 0, 128), (16, 0, 128), (15, 0, 128), (14, 0, 128), (13, 0, 128), (12, 0, 128), (7, 3, 4), (10, 0, 4), (9, 0, 4), (8, 0, 4), (1, 6, 7), (1, 5, 6), (6, 0, 8), (5, 0, 8), (4, 0, 8), (3, 0, 8), (2, 0, 8)]
section CC
variable {j k b : Nat} {M M1 : Mem} {S : St} {L : List (Nat × Nat × Nat)}
theorem bds {Q P : Mem → Prop} {x : Mem} {K : Mem → Option Mem} (h : P x) (f : ∀ y, P y → ∃ M', K y = some M' ∧ Q M') : ∃ M', bd x K = some M' ∧ Q M' := f x h
theorem Cpy.c (hj : j ≠ k) (r n : Nat) (h : Cpy k j M L M1) : Cpy k j M ((r, 0, n) :: L) (sr M1 k r (va_cpy (M1 j r) (M1 k r) 0 0 n)) := by
  refine ⟨h.1.sr, fun r' a c hm i h1 h2 => ?_⟩
  rw [sr_get]
  have hj2 := h.1 j hj
  by_cases e : r' = r
  · subst e
    rw [if_pos ⟨rfl, rfl⟩, hj2]
    unfold va_cpy
    by_cases l : i < n
    · rw [if_pos (by omega)]
      congr 1
      omega
    · rw [if_neg (by omega)]
      rcases List.mem_cons.mp hm with hm | hm
      · have e1 : c = n := congrArg (fun x => x.2.2) hm
        omega
      · exact h.2 _ _ _ hm i h1 h2
  · rw [if_neg (fun q => e q.2)]
    rcases List.mem_cons.mp hm with hm | hm
    · exact absurd (congrArg (fun x => x.1) hm) e
    · exact h.2 _ _ _ hm i h1 h2
theorem Cpy.s (hj : j ≠ k) (r n : Nat) (h : Cpy k j M L M1) : Cpy k j M ((r, n, n + 1) :: L) (st M1 k r n (M1 j r n)) := by
  refine ⟨h.1.st, fun r' a c hm i h1 h2 => ?_⟩
  rw [st_get, h.1 j hj]
  by_cases e : r' = r ∧ i = n
  · rw [if_pos ⟨rfl, e⟩, e.1, e.2]
  · rw [if_neg (fun q => e q.2)]
    rcases List.mem_cons.mp hm with hm | hm
    · have e1 : r' = r := congrArg (fun x => x.1) hm
      have e2 : a = n := congrArg (fun x => x.2.1) hm
      have e3 : c = n + 1 := congrArg (fun x => x.2.2) hm
      exact absurd ⟨e1, by omega⟩ e
    · exact h.2 _ _ _ hm i h1 h2
theorem Cpy.z : Cpy k j M [] M := ⟨Fr.rf, fun _ _ _ h => nomatch h⟩
theorem RC_cp {X Y : Nat → Nat → Int32} (h : RC X S) (hN : S 0 1 ≤ 128) (e : ∀ r a c, (r, a, c) ∈ FL → ∀ i, a ≤ i → i < c → Y r i = X r i) : RC Y S := by
  obtain ⟨⟨a1, a2, a3, a4, a5, ⟨a6, a7⟩, a8, a9, a10⟩, hp, hg, hr⟩ := h
  refine ⟨⟨?_, ?_, ?_, ?_, ?_, ⟨?_, ?_⟩, ?_, ?_, ?_⟩, fun p h8 => ?_, fun g h4 => ?_, fun n hn => ?_⟩
  · rw [e 11 7 8 (by decide) 7 (by decide) (by decide)]; exact a1
  · rw [e 11 8 9 (by decide) 8 (by decide) (by decide)]; exact a2
  · rw [e 11 9 10 (by decide) 9 (by decide) (by decide)]; exact a3
  · rw [e 11 10 11 (by decide) 10 (by decide) (by decide)]; exact a4
  · rw [e 11 11 12 (by decide) 11 (by decide) (by decide)]; exact a5
  · rw [e 0 3 4 (by decide) 3 (by decide) (by decide)]; exact a6
  · rw [e 0 4 5 (by decide) 4 (by decide) (by decide)]; exact a7
  · rw [e 1 5 6 (by decide) 5 (by decide) (by decide)]; exact a8
  · rw [e 1 6 7 (by decide) 6 (by decide) (by decide)]; exact a9
  · rw [e 7 3 4 (by decide) 3 (by decide) (by decide)]; exact a10
  · obtain ⟨b1, b2, b3, b4, b5, b6⟩ := hp p h8
    rw [e 2 0 8 (by decide) p (by omega) h8, e 3 0 8 (by decide) p (by omega) h8, e 4 0 8 (by decide) p (by omega) h8, e 5 0 8 (by decide) p (by omega) h8, e 6 0 8 (by decide) p (by omega) h8, e 18 0 8 (by decide) p (by omega) h8]
    exact ⟨b1, b2, b3, b4, b5, b6⟩
  · obtain ⟨b1, b2, b3⟩ := hg g h4
    rw [e 8 0 4 (by decide) g (by omega) h4, e 9 0 4 (by decide) g (by omega) h4, e 10 0 4 (by decide) g (by omega) h4]
    exact ⟨b1, b2, b3⟩
  · obtain ⟨b1, b2, b3, b4, b5, b6⟩ := hr n hn
    have hn2 : n < 128 := by omega
    rw [e 12 0 128 (by decide) n (by omega) hn2, e 13 0 128 (by decide) n (by omega) hn2, e 14 0 128 (by decide) n (by omega) hn2, e 15 0 128 (by decide) n (by omega) hn2, e 16 0 128 (by decide) n (by omega) hn2, e 17 0 128 (by decide) n (by omega) hn2]
    exact ⟨b1, b2, b3, b4, b5, b6⟩
theorem cl_cp4 (hj : j ≠ k) (h : Cpy k j M L M1) : ∃ M2, f_X4_copyFrom k j M1 = some M2 ∧ Cpy k j M ((1, 6, 7) :: (1, 5, 6) :: (6, 0, 8) :: (5, 0, 8) :: (4, 0, 8) :: (3, 0, 8) :: (2, 0, 8) :: L) M2 := by
  rw [f_X4_copyFrom]
  refine bds (h.c hj 2 8) (fun _ h => ?_)
  refine bds (h.c hj 3 8) (fun _ h => ?_)
  refine bds (h.c hj 4 8) (fun _ h => ?_)
  refine bds (h.c hj 5 8) (fun _ h => ?_)
  refine bds (h.c hj 6 8) (fun _ h => ?_)
  refine bds (h.s hj 1 5) (fun _ h => ?_)
  refine bds (h.s hj 1 6) (fun _ h => ?_)
  exact ⟨_, rfl, h⟩
theorem cl_cp0 (hj : j ≠ k) (h : Cpy k j M L M1) : ∃ M2, f_X0_copyFrom k j M1 = some M2 ∧ Cpy k j M ((7, 3, 4) :: (10, 0, 4) :: (9, 0, 4) :: (8, 0, 4) :: L) M2 := by
  rw [f_X0_copyFrom]
  refine bds (h.c hj 8 4) (fun _ h => ?_)
  refine bds (h.c hj 9 4) (fun _ h => ?_)
  refine bds (h.c hj 10 4) (fun _ h => ?_)
  refine bds (h.s hj 7 3) (fun _ h => ?_)
  exact ⟨_, rfl, h⟩
theorem cl_cp2 (hj : j ≠ k) (h : Cpy k j M L M1) : ∃ M2, f_X2_copyFrom k j M1 = some M2 ∧ Cpy k j M ((11, 11, 12) :: (11, 10, 11) :: (11, 9, 10) :: (11, 8, 9) :: (11, 7, 8) :: (18, 0, 8) :: (17, 0, 128) :: (16, 0, 128) :: (15, 0, 128) :: (14, 0, 128) :: (13, 0, 128) :: (12, 0, 128) :: L) M2 := by
  rw [f_X2_copyFrom]
  refine bds (h.c hj 12 128) (fun _ h => ?_)
  refine bds (h.c hj 13 128) (fun _ h => ?_)
  refine bds (h.c hj 14 128) (fun _ h => ?_)
  refine bds (h.c hj 15 128) (fun _ h => ?_)
  refine bds (h.c hj 16 128) (fun _ h => ?_)
  refine bds (h.c hj 17 128) (fun _ h => ?_)
  refine bds (h.c hj 18 8) (fun _ h => ?_)
  refine bds (h.s hj 11 7) (fun _ h => ?_)
  refine bds (h.s hj 11 8) (fun _ h => ?_)
  refine bds (h.s hj 11 9) (fun _ h => ?_)
  refine bds (h.s hj 11 10) (fun _ h => ?_)
  refine bds (h.s hj 11 11) (fun _ h => ?_)
  exact ⟨_, rfl, h⟩
theorem cl_copy (hj : j ≠ k) (h : RC (M j) S) (hN : S 0 1 ≤ 128) (h5 : S 0 5 < 2) : ∃ M', f_X6_copyFrom k j M = some M' ∧ RC (M' k) S ∧ Fr k M M' := by
  obtain ⟨M1, e1, h1⟩ := cl_cp4 hj (Cpy.z (k := k) (j := j) (M := M))
  obtain ⟨M2, e2, h2⟩ := cl_cp0 hj h1
  obtain ⟨M3, e3, h3⟩ := cl_cp2 hj h2
  have hB : isB (M3 j 0 3) := by
    rw [h3.1 j hj, h.1.2.2.2.2.2.1.1]
    rcases (show S 0 5 = 0 ∨ S 0 5 = 1 by omega) with e | e <;> rw [e] <;> decide
  have h4 := h3.s hj 0 3
  have h5 := h4.s hj 0 4
  exact ⟨_, by rw [f_X6_copyFrom, e1, bO, e2, bO, e3, bO, gd, if_pos hB, bd, bd], RC_cp h hN (fun r a c hm => h5.2 r a c hm), h5.1⟩
end CC
