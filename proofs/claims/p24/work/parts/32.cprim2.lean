theorem itr_s {α : Type} (b : α → α) (z : α) (n : Nat) : itr b z (n + 1) = b (itr b z n) := rfl
theorem FU_s : FU = 9999 + 1 := rfl
/-- the least of the first record's number n and the begins of open groups -/
def mg (S : St) (n : Nat) : Nat → Nat
  | 0 => n
  | i + 1 => if (S 0 8).testBit i then (if S 6 i < mg S n i then S 6 i else mg S n i) else mg S n i
def mp (S : St) (n : Nat) : Nat → Nat
  | 0 => mg S n 4
  | i + 1 => if (S 0 7).testBit i then (if S 5 i < mp S n i then S 5 i else mp S n i) else mp S n i
def hmx (f : Nat → Nat) : Nat → Nat
  | 0 => 0
  | m + 1 => if hmx f m < f m then f m else hmx f m
def hb (S : St) (g p : Nat) : Bool := (S 0 8).testBit g && (S 8 g).testBit p
def hol (S : St) (p : Nat) : Int32 := if hb S 0 p then nI 0 else if hb S 1 p then nI 1 else if hb S 2 p then nI 2 else if hb S 3 p then nI 3 else -1000004
def upr (S : St) (f : Nat) (g : Nat → Nat) : St := fun f' i' => if f' = f then g i' else S f' i'
section CP2
variable {k b : Nat} {M : Mem} {S : St}
theorem hmx_le {f : Nat → Nat} {b : Nat} (h : ∀ i, f i ≤ b) : ∀ m, hmx f m ≤ b
  | 0 => Nat.zero_le _
  | m + 1 => by
    unfold hmx
    split
    · exact h m
    · exact hmx_le h m
theorem hmx_lt {f : Nat → Nat} {n : Nat} (hn : 0 < n) : ∀ m, hmx f m < n ↔ ∀ p, p < m → f p < n
  | 0 => ⟨fun _ p hp => by omega, fun _ => hn⟩
  | m + 1 => by
    have ih := hmx_lt (f := f) hn m
    unfold hmx
    split
    · rename_i q
      constructor
      · intro h p hp
        by_cases e : p = m
        · rw [e]; exact h
        · exact (ih.mp (by omega)) p (by omega)
      · intro h; exact h m (by omega)
    · rename_i q
      constructor
      · intro h p hp
        by_cases e : p = m
        · rw [e]; omega
        · exact (ih.mp h) p (by omega)
      · intro h; exact ih.mpr (fun p hp => h p (by omega))
theorem cl_at (h : RC (M k) S) (hB : Bd b S) (hb : b < 2 ^ 29) (hN : S 0 1 ≤ 128) {rw n : Nat} (hn : n < 2 ^ 30) : f_X2_at k rw M (nI n) = some (if S 0 0 ≤ n ∧ n < S 0 0 + S 0 1 then M k rw (n - S 0 0) else -1000004) := by
  have h0 := hB 0 0
  unfold f_X2_at
  rw [h.1.1, h.1.2.1, bd]
  by_cases q : S 0 0 ≤ n
  · rw [nL_sub q]
    by_cases q2 : n < S 0 0 + S 0 1
    · simp (disch := omega) only [nL_neg, nl128, nL_le, nL_in, nL_cl, if_false, gd, show ¬ (S 0 1 ≤ n - S 0 0) by omega, show ¬ (128 ≤ n - S 0 0) by omega, show n - S 0 0 < 128 by omega, if_true, q, q2, and_self]
    · simp (disch := omega) only [nL_neg, nL_le, if_false, show (S 0 1 ≤ n - S 0 0) by omega, if_true, q, q2, and_false]
  · rw [if_pos (by rw [nL_subneg (by omega) (by omega)]; trivial), if_neg (fun h => q h.1)]
theorem cl_has (h : RC (M k) S) (hB : Bd b S) (hb : b < 2 ^ 29) (hN : S 0 1 ≤ 128) {n : Nat} (hn : n < 2 ^ 30) : f_X2_has k M (nI n) = some (b01 (decide (S 0 0 ≤ n ∧ n < S 0 0 + S 0 1))) := by
  have h0 := hB 0 0
  unfold f_X2_has
  rw [h.1.1, h.1.2.1]
  by_cases q : S 0 0 ≤ n
  · rw [nL_sub q, if_neg (by rw [nL_lt (by omega) (by omega)]; omega)]
    by_cases q2 : n < S 0 0 + S 0 1
    · rw [if_neg (by rw [nL_le (by omega) (by omega)]; omega), if_neg (by rw [nl128, nL_le (by omega) (by omega)]; omega), decide_eq_true ⟨q, q2⟩]
      rfl
    · rw [if_pos (by rw [nL_le (by omega) (by omega)]; omega), decide_eq_false (fun h => q2 h.2)]
      rfl
  · rw [if_pos (by rw [nL_lt (by omega) (by omega)]; omega), decide_eq_false (fun h => q h.1)]
    rfl
theorem cl_append (h : RC (M k) S) (hB : Bd b S) (hb : b < 2 ^ 29) (hN : S 0 1 < 128) (kd g pg o v t : Nat) : ∃ M', f_X2_append k M (nI kd) (eo kd g) (ep kd pg) (nI o) (nI v) (nI t) = some (nI (S 0 0 + S 0 1), M') ∧ RC (M' k) (app S kd g pg o v t) ∧ Fr k M M' := by
  have h0 := hB 0 0
  refine ⟨st (st (st (st (st (st (st M k 12 (S 0 1) (nI kd)) k 13 (S 0 1) (eo kd g)) k 14 (S 0 1) (ep kd pg)) k 15 (S 0 1) (nI o)) k 16 (S 0 1) (nI v)) k 17 (S 0 1) (nI t)) k 11 8 (nI (S 0 1 + 1)), ?_, ?_, ?_⟩
  rotate_left
  · obtain ⟨a1, a2, a3, a4, a5, a6, a7, a8, a9⟩ := h.1
    refine ⟨?_, fun p hp => ?_, fun g hg => ?_, fun j hj => ?_⟩
    · simp [st_get, app, up, *]
    · have a1 := h.2.1 p hp
      simp [st_get, app, up, *]
    · have a1 := h.2.2.1 g hg
      simp [st_get, app, up, *]
    · have hj : j < S 0 1 + 1 := by simpa [app, up] using hj
      by_cases q : j = S 0 1
      · subst q
        simp [st_get, app, up]
      · have a1 := h.2.2.2 j (by omega)
        have e : ¬ (S 0 0 + j = S 0 0 + S 0 1) := by omega
        simp [st_get, app, up, q, *]
  · exact Fr.rf.st.st.st.st.st.st.st
  · unfold f_X2_append
    have e : ((nI (S 0 0) + nI (S 0 1 + 1)) - (1 : Int32)) = nI (S 0 0 + S 0 1) := by
      rw [nI_add, nl1, nL_sub (by omega)]
      congr 1
    simp (disch := omega) [h.1.1, h.1.2.1, nL_neg, nl128, nL_lt, nL_in, nL_cl, gd, bd, st_get, hN, nI_1, e]
theorem cl_put (h : RC (M k) S) (hs : Sm S) {p : Nat} (hp : p < 8) (v n : Nat) : ∃ M', f_X4_put k M (nI p) (nI v) (nI n) = some M' ∧ RC (M' k) (put S p v n) ∧ Fr k M M' := by
  have hC := h.1.2.2.2.2.2.2.1
  have hY := h.1.2.2.2.2.2.2.2.1
  refine ⟨st (st (st (st (if (S 0 7).testBit p then M else st M k 6 p (nI n)) k 4 p (nI v)) k 5 p (nI n)) k 1 5 (nI (S 0 6 ||| 2 ^ p))) k 1 6 (nI (S 0 7 ||| 2 ^ p)), ?_, ?_, ?_⟩
  rotate_left
  · obtain ⟨a1, a2, a3, a4, a5, a6, a7, a8, a9⟩ := h.1
    by_cases q : (S 0 7).testBit p = true
    · refine ⟨?_, fun p' hp' => ?_, fun g hg => ?_, fun j hj => ?_⟩
      · simp [st_get, put, up, q, *]
      · have a1 := h.2.1 p' hp'
        by_cases e : p' = p
        · subst e
          simp [st_get, put, up, q, *]
        · simp [st_get, put, up, q, e, *]
      · have a1 := h.2.2.1 g hg
        simp [st_get, put, up, q, *]
      · have a1 := h.2.2.2 j (by simpa [put, up, q] using hj)
        simp [st_get, put, up, q, *]
    · have q : (S 0 7).testBit p = false := by simpa using q
      refine ⟨?_, fun p' hp' => ?_, fun g hg => ?_, fun j hj => ?_⟩
      · simp [st_get, put, up, q, *]
      · have a1 := h.2.1 p' hp'
        by_cases e : p' = p
        · subst e
          simp [st_get, put, up, q, *]
        · simp [st_get, put, up, q, e, *]
      · have a1 := h.2.2.1 g hg
        simp [st_get, put, up, q, *]
      · have a1 := h.2.2.2 j (by simpa [put, up, q] using hj)
        simp [st_get, put, up, q, *]
  · split
    · exact Fr.rf.st.st.st.st
    · exact Fr.rf.st.st.st.st.st
  · unfold f_X4_put f_X4_put_L33
    rw [bone8 p hp, hY, bd]
    have eb := band8 _ hs.2.1 p hp
    have e1 := bset8 _ hs.1 p hp
    have e2 := bset8 _ hs.2.1 p hp
    rw [bone8 p hp] at e1 e2
    by_cases q : (S 0 7).testBit p = true
    · simp (disch := omega) [nL_neg, nl8, nL_lt, nL_in, nL_cl, gd, bd, st_get, hp, q, hC, hY, e1, e2, eb]
    · have q : (S 0 7).testBit p = false := by simpa using q
      simp (disch := omega) [nL_neg, nl8, nL_lt, nL_in, nL_cl, gd, bd, st_get, hp, q, hC, hY, e1, e2, eb]
end CP2
