/-! the class's small methods over the abstract store -/
theorem st_get {M : Mem} {k r i : Nat} {v : Int32} {k' r' i' : Nat} : st M k r i v k' r' i' = if k' = k ∧ r' = r ∧ i' = i then v else M k' r' i' := by
  unfold st sr
  by_cases h : k' = k ∧ r' = r
  · obtain ⟨rfl, rfl⟩ := h
    simp [upd]
  · rw [if_neg h, if_neg (fun q => h ⟨q.1, q.2.1⟩)]
theorem st_fr {M : Mem} {k r i : Nat} {v : Int32} {k' : Nat} (h : k' ≠ k) : st M k r i v k' = M k' := by
  funext r' i'
  rw [st_get, if_neg (fun q => h q.1)]
def Fr (k : Nat) (M M' : Mem) : Prop := ∀ i, i ≠ k → M' i = M i
theorem Fr.rf {k : Nat} {M : Mem} : Fr k M M := fun _ _ => rfl
theorem Fr.st {k r i : Nat} {v : Int32} {M M' : Mem} (h : Fr k M M') : Fr k M (st M' k r i v) := fun j hj => (st_fr hj).trans (h j hj)
theorem Fr.tr {k : Nat} {M M' M'' : Mem} (h : Fr k M M') (h2 : Fr k M' M'') : Fr k M M'' := fun j hj => (h2 j hj).trans (h j hj)
/-- sets stay small -/
def Sm (S : St) : Prop := S 0 6 < 256 ∧ S 0 7 < 256 ∧ S 0 8 < 16 ∧ (∀ g, g < 4 → S 8 g < 256) ∧ S 0 5 < 2
def val (S : St) (p : Nat) : Nat := if (S 0 6).testBit p then S 3 p else S 1 p
def mrk (S : St) (p : Nat) : Nat := if (S 0 6).testBit p then S 4 p else S 2 p
def app (S : St) (kd g pg a b t : Nat) : St := up (up (up (up (up (up (up S 9 (S 0 0 + S 0 1) kd) 10 (S 0 0 + S 0 1) g) 11 (S 0 0 + S 0 1) pg) 12 (S 0 0 + S 0 1) a) 13 (S 0 0 + S 0 1) b) 14 (S 0 0 + S 0 1) t) 0 1 (S 0 1 + 1)
def frc (S : St) (n : Nat) : St := up S 0 2 (S 0 2 + (n - S 0 2))
def put (S : St) (p v n : Nat) : St := up (up (up (up (if (S 0 7).testBit p then S else up S 5 p n) 3 p v) 4 p n) 0 6 (S 0 6 ||| 2 ^ p)) 0 7 (S 0 7 ||| 2 ^ p)
section CP
variable {k b : Nat} {M : Mem} {S : St}
theorem RC_num (h : RC (M k) S) : M k 11 7 = nI (S 0 0) ∧ M k 11 8 = nI (S 0 1) ∧ M k 11 9 = nI (S 0 2) ∧ M k 11 10 = nI (S 0 3) ∧ M k 11 11 = nI (S 0 4) ∧ (M k 0 3 = nI (S 0 5) ∧ M k 0 4 = nI (S 0 9)) ∧ M k 1 5 = nI (S 0 6) ∧ M k 1 6 = nI (S 0 7) ∧ M k 7 3 = nI (S 0 8) := h.1
theorem cl_valueOf (h : RC (M k) S) (hs : Sm S) {p : Nat} (hp : p < 8) : f_X4_valueOf k M (nI p) = some (nI (val S p)) := by
  obtain ⟨h1, h2, h3, h4, h5, h6⟩ := h.2.1 p hp
  have hc := h.1.2.2.2.2.2.2.1
  unfold f_X4_valueOf val
  rw [hc, bit8 _ hs.1 p hp]
  simp (disch := omega) only [nL_neg, nl8, nL_lt, nL_in, nL_cl, hp, if_true, if_false, b01_1, gd, h1, h3]
  split <;> rfl
theorem cl_markOf (h : RC (M k) S) (hs : Sm S) {p : Nat} (hp : p < 8) : f_X4_markOf k M (nI p) = some (nI (mrk S p)) := by
  obtain ⟨h1, h2, h3, h4, h5, h6⟩ := h.2.1 p hp
  have hc := h.1.2.2.2.2.2.2.1
  unfold f_X4_markOf mrk
  rw [hc, bit8 _ hs.1 p hp]
  simp (disch := omega) only [nL_neg, nl8, nL_lt, nL_in, nL_cl, hp, if_true, if_false, b01_1, gd, h2, h4]
  split <;> rfl
theorem cl_startOf (h : RC (M k) S) (hs : Sm S) {p : Nat} (hp : p < 8) : f_X4_startOf k M (nI p) = some (if (S 0 7).testBit p then nI (S 5 p) else -1000004) := by
  obtain ⟨h1, h2, h3, h4, h5, h6⟩ := h.2.1 p hp
  have hc := h.1.2.2.2.2.2.2.2.1
  unfold f_X4_startOf
  rw [hc, bit8 _ hs.2.1 p hp]
  simp (disch := omega) only [nL_neg, nl8, nL_le, nL_in, nL_cl, hp, if_true, if_false, b01_1, gd, h5, show ¬ (8 ≤ p) by omega]
  split <;> rfl
theorem cl_isOpen (h : RC (M k) S) (hs : Sm S) {g : Nat} (hg : g < 4) : f_X0_isOpen k M (nI g) = some (b01 ((S 0 8).testBit g)) := by
  have hc := h.1.2.2.2.2.2.2.2.2
  have := hs.2.2.1
  unfold f_X0_isOpen
  rw [hc, bit8 _ (by omega) g (by omega)]
  simp (disch := omega) only [nL_neg, nl4, nL_le, if_true, if_false, b01_1, show ¬ (4 ≤ g) by omega]
  cases (S 0 8).testBit g <;> rfl
theorem cl_beginOf (h : RC (M k) S) {g : Nat} (hg : g < 4) : f_X0_beginOf k M (nI g) = some (nI (S 6 g)) ∧ f_X0_writesOf k M (nI g) = some (nI (S 7 g)) ∧ f_X0_heldBy k M (nI g) = some (nI (S 8 g)) := by
  obtain ⟨h1, h2, h3⟩ := h.2.2.1 g hg
  unfold f_X0_beginOf f_X0_writesOf f_X0_heldBy
  simp (disch := omega) only [nL_neg, nl4, nL_le, nL_in, nL_cl, hg, if_true, if_false, gd, h1, h2, h3, show ¬ (4 ≤ g) by omega, and_self]
theorem cl_isFull (h : RC (M k) S) (hB : Bd b S) (hb : b < 2 ^ 30) : f_X2_isFull k M = some (b01 (decide (60 ≤ S 0 1))) := by
  have h1 := hB 0 1
  unfold f_X2_isFull
  rw [h.1.2.1]
  simp (disch := omega) only [nl60, nL_lt, nL_le]
  by_cases q : S 0 1 < 60
  · simp [q, b01, show ¬ (60 ≤ S 0 1) by omega]
  · simp [q, b01, show (60 ≤ S 0 1) by omega]
theorem cl_last (h : RC (M k) S) (hB : Bd b S) (hb : b < 2 ^ 29) : f_X2_last k M = some (nI (if S 0 1 = 0 then 0 else S 0 0 + S 0 1 - 1)) := by
  have h1 := hB 0 1
  have h0 := hB 0 0
  unfold f_X2_last
  rw [h.1.2.1, h.1.1, nI_add]
  by_cases q : S 0 1 = 0
  · rw [q]
    rfl
  · simp (disch := omega) only [nl0, nl1, nL_eq, nL_sub, q, if_false]
theorem cl_force (h : RC (M k) S) (hB : Bd b S) (hb : b < 2 ^ 29) {n : Nat} (hn : n < 2 ^ 30) : ∃ M', f_X2_forceUpTo k M (nI n) = some (nI (n - S 0 2), M') ∧ RC (M' k) (frc S n) ∧ Fr k M M' := by
  have h1 := hB 0 2
  refine ⟨_, by unfold f_X2_forceUpTo; rw [h.1.2.2.1, nL_max hn (by omega), bd, bd], ?_, Fr.rf.st⟩
  refine ⟨?_, fun p hp => ?_, fun g hg => ?_, fun j hj => ?_⟩
  · obtain ⟨a1, a2, a3, a4, a5, a6, a7, a8, a9⟩ := h.1
    simp [st_get, frc, up, nI_add, *]
  · have a1 := h.2.1 p hp
    simp [st_get, frc, up, *]
  · have a1 := h.2.2.1 g hg
    simp [st_get, frc, up, *]
  · have a1 := h.2.2.2 j (by simpa [frc, up] using hj)
    simp [st_get, frc, up, *]
end CP
