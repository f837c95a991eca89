theorem bclr8n : ∀ m, m < 256 → ∀ p, p < 8 → (nI m &&& ~~~((1 : Int32) <<< (nI p &&& 31))) = nI (m &&& (255 - 2 ^ p)) := by decide +kernel
def toD (S : St) (p : Nat) : St := up (up (up S 1 p (S 3 p)) 2 p (S 4 p)) 0 7 (S 0 7 &&& (255 - 2 ^ p))
def ent (S : St) (g n : Nat) : St := up (up (up (up S 6 g n) 7 g 0) 8 g 0) 0 8 (S 0 8 ||| 2 ^ g)
def hld (S : St) (g p : Nat) : St := up (up S 7 g (S 7 g + 1)) 8 g (S 8 g ||| 2 ^ p)
def lev (S : St) (g : Nat) : St := up S 0 8 (S 0 8 &&& (255 - 2 ^ g))
def emp (S : St) : St := up (up S 0 6 0) 0 7 0
section CP3
variable {k b : Nat} {M : Mem} {S : St}
theorem cl_toDisk (h : RC (M k) S) (hs : Sm S) {p : Nat} (hp : p < 8) : ∃ M', f_X4_toDisk k M (nI p) = some M' ∧ RC (M' k) (toD S p) ∧ Fr k M M' := by
  have hY := h.1.2.2.2.2.2.2.2.1
  have hq := h.2.1 p hp
  refine ⟨st (st (st M k 2 p (nI (S 3 p))) k 3 p (nI (S 4 p))) k 1 6 (nI (S 0 7 &&& (255 - 2 ^ p))), ?_, ?_, Fr.rf.st.st.st⟩
  · unfold f_X4_toDisk
    have e := bclr8n _ hs.2.1 p hp
    simp (disch := omega) [nL_neg, nl8, nL_lt, nL_in, nL_cl, gd, bd, st_get, hp, hq, hY, e]
  · obtain ⟨a1, a2, a3, a4, a5, a6, a7, a8, a9⟩ := h.1
    refine ⟨?_, fun p' hp' => ?_, fun g hg => ?_, fun j hj => ?_⟩
    · simp [st_get, toD, up, *]
    · have a1 := h.2.1 p' hp'
      by_cases e : p' = p
      · subst e
        simp [st_get, toD, up, *]
      · simp [st_get, toD, up, e, *]
    · have a1 := h.2.2.1 g hg
      simp [st_get, toD, up, *]
    · have a1 := h.2.2.2 j (by simpa [toD, up] using hj)
      simp [st_get, toD, up, *]
theorem cl_enter (h : RC (M k) S) (hs : Sm S) {g : Nat} (hg : g < 4) (n : Nat) : ∃ M', f_X0_enter k M (nI g) (nI n) = some M' ∧ RC (M' k) (ent S g n) ∧ Fr k M M' := by
  have hO := h.1.2.2.2.2.2.2.2.2
  have hs3 := hs.2.2.1
  refine ⟨st (st (st (st M k 8 g (nI n)) k 9 g (nI 0)) k 10 g (nI 0)) k 7 3 (nI (S 0 8 ||| 2 ^ g)), ?_, ?_, Fr.rf.st.st.st.st⟩
  · unfold f_X0_enter
    have e := bset8 (S 0 8) (by omega) g (by omega)
    simp (disch := omega) [nL_neg, nl4, nL_lt, nL_in, nL_cl, gd, bd, st_get, hg, hO, e]
    rfl
  · obtain ⟨a1, a2, a3, a4, a5, a6, a7, a8, a9⟩ := h.1
    refine ⟨?_, fun p' hp' => ?_, fun g' hg' => ?_, fun j hj => ?_⟩
    · simp [st_get, ent, up, *]
    · have a1 := h.2.1 p' hp'
      simp [st_get, ent, up, *]
    · have a1 := h.2.2.1 g' hg'
      by_cases e : g' = g
      · subst e
        simp [st_get, ent, up, *]
      · simp [st_get, ent, up, e, *]
    · have a1 := h.2.2.2 j (by simpa [ent, up] using hj)
      simp [st_get, ent, up, *]
theorem cl_hold (h : RC (M k) S) (hs : Sm S) {g p : Nat} (hg : g < 4) (hp : p < 8) : ∃ M', f_X0_hold k M (nI g) (nI p) = some M' ∧ RC (M' k) (hld S g p) ∧ Fr k M M' := by
  have hG := h.2.2.1 g hg
  refine ⟨st (st M k 9 g (nI (S 7 g + 1))) k 10 g (nI (S 8 g ||| 2 ^ p)), ?_, ?_, Fr.rf.st.st⟩
  · unfold f_X0_hold
    have e := bset8 (S 8 g) (hs.2.2.2.1 g hg) p hp
    simp (disch := omega) [nL_neg, nl4, nL_lt, nL_in, nL_cl, gd, bd, st_get, hg, hG, e, nI_1]
  · obtain ⟨a1, a2, a3, a4, a5, a6, a7, a8, a9⟩ := h.1
    refine ⟨?_, fun p' hp' => ?_, fun g' hg' => ?_, fun j hj => ?_⟩
    · simp [st_get, hld, up, *]
    · have a1 := h.2.1 p' hp'
      simp [st_get, hld, up, *]
    · have a1 := h.2.2.1 g' hg'
      by_cases e : g' = g
      · subst e
        simp [st_get, hld, up, *]
      · simp [st_get, hld, up, e, *]
    · have a1 := h.2.2.2 j (by simpa [hld, up] using hj)
      simp [st_get, hld, up, *]
theorem cl_leave (h : RC (M k) S) (hs : Sm S) {g : Nat} (hg : g < 4) : ∃ M', f_X0_leave k M (nI g) = some M' ∧ RC (M' k) (lev S g) ∧ Fr k M M' := by
  have hO := h.1.2.2.2.2.2.2.2.2
  have hs3 := hs.2.2.1
  refine ⟨st M k 7 3 (nI (S 0 8 &&& (255 - 2 ^ g))), ?_, ?_, Fr.rf.st⟩
  · unfold f_X0_leave
    have e := bclr8n (S 0 8) (by omega) g (by omega)
    simp (disch := omega) [nL_neg, nl4, nL_le, bd, hO, e, show ¬ (4 ≤ g) by omega]
  · obtain ⟨a1, a2, a3, a4, a5, a6, a7, a8, a9⟩ := h.1
    refine ⟨?_, fun p' hp' => ?_, fun g' hg' => ?_, fun j hj => ?_⟩
    · simp [st_get, lev, up, *]
    · have a1 := h.2.1 p' hp'
      simp [st_get, lev, up, *]
    · have a1 := h.2.2.1 g' hg'
      simp [st_get, lev, up, *]
    · have a1 := h.2.2.2 j (by simpa [lev, up] using hj)
      simp [st_get, lev, up, *]
theorem cl_empty (h : RC (M k) S) : ∃ M', f_X4_emptyCache k M = some M' ∧ RC (M' k) (emp S) ∧ Fr k M M' := by
  refine ⟨st (st M k 1 5 (nI 0)) k 1 6 (nI 0), rfl, ?_, Fr.rf.st.st⟩
  obtain ⟨a1, a2, a3, a4, a5, a6, a7, a8, a9⟩ := h.1
  refine ⟨?_, fun p' hp' => ?_, fun g' hg' => ?_, fun j hj => ?_⟩
  · simp [st_get, emp, up, *]
  · have a1 := h.2.1 p' hp'
    simp [st_get, emp, up, *]
  · have a1 := h.2.2.1 g' hg'
    simp [st_get, emp, up, *]
  · have a1 := h.2.2.2 j (by simpa [emp, up] using hj)
    simp [st_get, emp, up, *]
theorem cl_highest (h : RC (M k) S) (hB : Bd b S) (hb : b < 2 ^ 29) : f_X4_highestDiskMark k M = some (nI (hmx (S 2) 8)) := by
  have lp : ∀ d n i : Nat, i + d = 8 → d < n → itr (f_X4_highestDiskMark_L4 k M) (fun _ _ => none) n (nI (hmx (S 2) i)) (nI i) = some (nI (hmx (S 2) 8)) := by
    intro d
    induction d with
    | zero =>
      intro n i hi hn
      obtain ⟨m, rfl⟩ : ∃ m, n = m + 1 := ⟨n - 1, by omega⟩
      rw [itr_s]
      unfold f_X4_highestDiskMark_L4
      rw [if_pos (by rw [nl8, nL_le (by omega) (by omega)]; omega), show i = 8 by omega]
    | succ d ih =>
      intro n i hi hn
      obtain ⟨m, rfl⟩ : ∃ m, n = m + 1 := ⟨n - 1, by omega⟩
      rw [itr_s]
      have h2 := (h.2.1 i (by omega)).2.1
      have h3 := hB 2 i
      have h4 := hmx_le (f := S 2) (hB 2) i
      have ih := ih m (i + 1) (by omega) (by omega)
      unfold f_X4_highestDiskMark_L4
      rw [if_neg (by rw [nl8, nL_le (by omega) (by omega)]; omega), gd, if_pos (by rw [nL_in (by omega)]; omega), bd, bd, nL_cl (by omega), h2, nI_1]
      unfold hmx at ih
      by_cases q : hmx (S 2) i < S 2 i
      · rw [if_pos q] at ih
        rw [if_pos (by rw [nL_lt (by omega) (by omega)]; exact q)]
        exact ih
      · rw [if_neg q] at ih
        rw [if_neg (by rw [nL_lt (by omega) (by omega)]; exact q)]
        exact ih
  unfold f_X4_highestDiskMark
  exact lp 8 FU 0 rfl (by decide)
theorem cl_holder (h : RC (M k) S) (hs : Sm S) {p : Nat} (hp : p < 8) : f_X0_holderOf k M (nI p) = some (hol S p) := by
  have hO := h.1.2.2.2.2.2.2.2.2
  have hs3 := hs.2.2.1
  have stp : ∀ g n : Nat, g < 4 → itr (f_X0_holderOf_L2 k M) (fun _ _ => none) (n + 1) (nI p) (nI g) = if hb S g p then some (nI g) else itr (f_X0_holderOf_L2 k M) (fun _ _ => none) n (nI p) (nI (g + 1)) := by
    intro g n hg
    rw [itr_s]
    have hG := (h.2.2.1 g hg).2.2
    unfold f_X0_holderOf_L2 f_X0_holderOf_L35
    rw [if_neg (by rw [nl4, nL_le (by omega) (by omega)]; omega), hO, bit8 _ (by omega) g (by omega), nL_cl (by omega), hG, bit8 _ (hs.2.2.2.1 g hg) p hp, gd, bd, nI_1]
    unfold hb
    cases (S 0 8).testBit g <;> cases (S 8 g).testBit p <;> simp [b01, nL_in (show g < 2 ^ 31 by omega), hg]
  unfold f_X0_holderOf hol
  rw [show FU = 9995 + 1 + 1 + 1 + 1 + 1 from rfl, show (0 : Int32) = nI 0 from rfl, stp 0 _ (by omega), stp 1 _ (by omega), stp 2 _ (by omega), stp 3 _ (by omega), itr_s]
  have e : f_X0_holderOf_L2 k M (itr (f_X0_holderOf_L2 k M) (fun _ _ => none) 9995) (nI p) (nI (3 + 1)) = some (-1000004) := by
    unfold f_X0_holderOf_L2
    rw [if_pos (by decide)]
  rw [e]
  split
  · rfl
  · split
    · rfl
    · split
      · rfl
      · split <;> rfl
end CP3
