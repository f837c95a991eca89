/-! the class's journal: dropping, losing, checkpoints -/
def drb (S : St) : Nat := if S 0 3 = 0 then 0 else S 0 4 - S 0 0
def dro (S : St) : St := up (up S 0 1 (S 0 1 - drb S)) 0 0 (S 0 0 + drb S)
/-- the journal up to the record m alone, m forced -/
def los (S : St) (m : Nat) : St := up (up S 0 1 (m + 1 - S 0 0)) 0 2 m
def tornC (S : St) : Bool := decide (S 0 0 ≤ S 0 2) && decide (hmx (S 2) 8 < S 0 2) && !decide (S 9 (S 0 2) = 2) && !decide (S 9 (S 0 2) = 5)
def ckp (S : St) : St :=
  up (upr (up (up (app S 5 0 0 (S 0 8) (S 0 7) 0) 0 3 (S 0 0 + S 0 1)) 0 4 (mp S (S 0 0 + S 0 1) 8)) 15 (fun p => if p < 8 then (if (S 0 7).testBit p then S 5 p else 0) else S 15 p)) 0 2 (S 0 2 + (S 0 0 + S 0 1 - S 0 2))
section CP4
variable {k b : Nat} {M : Mem} {S : St}
theorem cl_droppable (h : RC (M k) S) (hB : Bd b S) (hb : b < 2 ^ 29) : f_X2_droppable k M = some (nI (drb S)) := by
  have h1 := hB 0 3
  have h2 := hB 0 4
  have h3 := hB 0 0
  unfold f_X2_droppable drb
  rw [h.1.2.2.2.1, h.1.2.2.2.2.1, h.1.1]
  by_cases q : S 0 3 = 0
  · rw [if_pos (by rw [nl0, nL_eq (by omega) (by omega)]; exact q), if_pos q]
    rfl
  · rw [if_neg (by rw [nl0, nL_eq (by omega) (by omega)]; exact q), if_neg q, nL_max (by omega) (by omega)]
theorem sr_get {M : Mem} {k r : Nat} {f : Nat → Int32} {k' r' : Nat} : sr M k r f k' r' = if k' = k ∧ r' = r then f else M k' r' := rfl
theorem Fr.sr {k r : Nat} {f : Nat → Int32} {M M' : Mem} (h : Fr k M M') : Fr k M (sr M' k r f) := fun j hj => by
  funext r'
  rw [sr_get, if_neg (fun q => hj q.1)]
  exact congrFun (h j hj) r'
theorem cl_dropFirst (h : RC (M k) S) (hB : Bd b S) (hb : b < 2 ^ 29) (hN : S 0 1 ≤ 128) (hd : drb S ≤ S 0 1) : ∃ M', f_X2_dropFirst k M = some (nI (drb S), M') ∧ RC (M' k) (dro S) ∧ Fr k M M' := by
  have h1 := hB 0 1
  have h3 := hB 0 0
  by_cases q : drb S = 0
  · refine ⟨M, ?_, ?_, Fr.rf⟩
    · unfold f_X2_dropFirst
      rw [cl_droppable h hB hb, bO, q, bd, if_pos (by decide)]
      rfl
    · have e : dro S = S := by
        funext f i
        unfold dro
        rw [q]
        unfold up
        split
        · rename_i e; rw [e.1, e.2]; omega
        · split
          · rename_i e; rw [e.1, e.2]; omega
          · rfl
      rw [e]
      exact h
  · have cp : ∀ (f g : Nat → Int32) (j : Nat), j < S 0 1 - drb S → va_cpy f g (drb S) 0 (S 0 1 - drb S) j = f (drb S + j) := by
      intro f g j hj
      rw [pk_cpy_in (by omega) (by omega)]
      congr 1
    refine ⟨st (st (sr (sr (sr (sr (sr (sr M k 12 (va_cpy (M k 12) (M k 12) (drb S) 0 (S 0 1 - drb S))) k 13 (va_cpy (M k 13) (M k 13) (drb S) 0 (S 0 1 - drb S))) k 14 (va_cpy (M k 14) (M k 14) (drb S) 0 (S 0 1 - drb S))) k 15 (va_cpy (M k 15) (M k 15) (drb S) 0 (S 0 1 - drb S))) k 16 (va_cpy (M k 16) (M k 16) (drb S) 0 (S 0 1 - drb S))) k 17 (va_cpy (M k 17) (M k 17) (drb S) 0 (S 0 1 - drb S))) k 11 8 (nI (S 0 1 - drb S))) k 11 7 (nI (S 0 0 + drb S)), ?_, ?_, Fr.rf.sr.sr.sr.sr.sr.sr.st.st⟩
    · unfold f_X2_dropFirst
      rw [cl_droppable h hB hb, bO, h.1.2.1, nL_sub hd, bd, if_neg (by rw [nl0, nL_le (by omega) (by omega)]; omega), if_neg (by rw [nL_neg (by omega)]; exact id), if_pos (by rw [nl128, nL_le (by omega) (by omega)]; omega)]
      have g1 : (¬ nI (drb S) < 0 ∧ ¬ (0 : Int32) < 0 ∧ ¬ nI (S 0 1 - drb S) < 0 ∧ (nI (drb S)).toNatClampNeg + (nI (S 0 1 - drb S)).toNatClampNeg ≤ 128 ∧ ((0 : Int32)).toNatClampNeg + (nI (S 0 1 - drb S)).toNatClampNeg ≤ 128) := by
        rw [nL_neg (by omega), nL_neg (by omega), nL_cl (by omega), nL_cl (by omega), show ((0 : Int32)).toNatClampNeg = 0 from rfl]
        refine ⟨id, by decide, id, by omega, by omega⟩
      have z : ((0 : Int32)).toNatClampNeg = 0 := rfl
      simp only [gd, g1, if_true, bd, nL_cl (show drb S < 2 ^ 31 by omega), nL_cl (show S 0 1 - drb S < 2 ^ 31 by omega), z]
      simp [sr_get, st_get, h.1.1, nI_add]
      exact ⟨by omega, by omega⟩
    · obtain ⟨a1, a2, a3, a4, a5, a6, a7, a8, a9⟩ := h.1
      refine ⟨?_, fun p' hp' => ?_, fun g' hg' => ?_, fun j hj => ?_⟩
      · simp [st_get, sr_get, dro, up, *]
      · have a1 := h.2.1 p' hp'
        simp [st_get, sr_get, dro, up, *]
      · have a1 := h.2.2.1 g' hg'
        simp [st_get, sr_get, dro, up, *]
      · have hj : j < S 0 1 - drb S := by simpa [dro, up] using hj
        have a1 := h.2.2.2 (drb S + j) (by omega)
        have e : S 0 0 + drb S + j = S 0 0 + (drb S + j) := by omega
        simp [st_get, sr_get, dro, up, e, cp _ _ j hj, *]
theorem cl_lose_end (h : RC (M k) S) (hB : Bd b S) (hb : b < 2 ^ 29) {m : Nat} (hm : m < 2 ^ 29) (hF : S 0 0 ≤ m + 1) (hN : m + 1 ≤ S 0 0 + S 0 1) : ∃ M', f_X2_loseRecords_L64 k M (nI (S 0 1)) (nI m) = some (nI (S 0 1 - (m + 1 - S 0 0)), M') ∧ RC (M' k) (los S m) ∧ Fr k M M' := by
  have h1 := hB 0 1
  have h3 := hB 0 0
  have e1 : ((nI m - nI (S 0 0)) + (1 : Int32)) = nI (m + 1 - S 0 0) := by
    rw [show (nI m - nI (S 0 0)) + (1 : Int32) = (nI m + 1) - nI (S 0 0) by rw [Int32.sub_eq_add_neg, Int32.sub_eq_add_neg, Int32.add_assoc, Int32.add_comm (-nI (S 0 0)) 1, ← Int32.add_assoc], nI_1, nL_sub (by omega)]
  refine ⟨st (st M k 11 8 (nI (m + 1 - S 0 0))) k 11 9 (nI m), ?_, ?_, Fr.rf.st.st⟩
  · unfold f_X2_loseRecords_L64
    rw [h.1.1, e1]
    have e2 : (if (0 : Int32) < nI (m + 1 - S 0 0) then nI (m + 1 - S 0 0) else (0 : Int32)) = nI (m + 1 - S 0 0) := by
      by_cases q : m + 1 - S 0 0 = 0
      · rw [q]; rfl
      · rw [if_pos (by rw [nl0, nL_lt (by omega) (by omega)]; omega)]
    rw [e2]
    simp [bd, st_get, nL_sub (show m + 1 - S 0 0 ≤ S 0 1 by omega)]
  · obtain ⟨a1, a2, a3, a4, a5, a6, a7, a8, a9⟩ := h.1
    refine ⟨?_, fun p' hp' => ?_, fun g' hg' => ?_, fun j hj => ?_⟩
    · simp [st_get, los, up, *]
    · have a1 := h.2.1 p' hp'
      simp [st_get, los, up, *]
    · have a1 := h.2.2.1 g' hg'
      simp [st_get, los, up, *]
    · have hj : j < m + 1 - S 0 0 := by simpa [los, up] using hj
      have a1 := h.2.2.2 j (by omega)
      simp [st_get, los, up, *]
theorem cl_lose (h : RC (M k) S) (hB : Bd b S) (hb : b < 2 ^ 28) (hN : S 0 1 ≤ 128) (hF : 1 ≤ S 0 0) (hD : S 0 0 ≤ S 0 2 + 1) (hD2 : S 0 2 < S 0 0 + S 0 1) (hz : S 0 1 = 0 → S 0 0 = 1) {t : Nat} (ht : t < 2) :
    ∃ M', f_X2_loseRecords k M (nI t) (nI (hmx (S 2) 8)) = some (nI (S 0 1 - ((if t = 1 ∧ tornC S then S 0 2 - 1 else S 0 2) + 1 - S 0 0)), M') ∧ RC (M' k) (los S (if t = 1 ∧ tornC S then S 0 2 - 1 else S 0 2)) ∧ Fr k M M' := by
  have h1 := hB 0 1
  have h2 := hB 0 2
  have h3 := hB 0 0
  have h4 := hmx_le (f := S 2) (hB 2) 8
  have e0 : (if (M k 11 9) < nI (if S 0 1 = 0 then 0 else S 0 0 + S 0 1 - 1) then (M k 11 9) else nI (if S 0 1 = 0 then 0 else S 0 0 + S 0 1 - 1)) = nI (S 0 2) := by
    rw [h.1.2.2.1]
    by_cases q : S 0 1 = 0
    · have := hz q
      rw [if_pos q, show S 0 2 = 0 by omega]
      rfl
    · rw [if_neg q]
      by_cases q2 : S 0 2 < S 0 0 + S 0 1 - 1
      · rw [if_pos (by rw [nL_lt (by omega) (by omega)]; exact q2)]
      · rw [if_neg (by rw [nL_lt (by omega) (by omega)]; exact q2), show S 0 2 = S 0 0 + S 0 1 - 1 by omega]
  unfold f_X2_loseRecords
  rw [bd, cl_last h hB (by omega), bO, bd, e0, h.1.2.1]
  have L := fun (m : Nat) (a : S 0 0 ≤ m + 1) (c : m + 1 ≤ S 0 0 + S 0 1) (d : m ≤ b) => cl_lose_end h hB (by omega) (m := m) (by omega) a c
  have l0 := L (S 0 2) hD hD2 h2
  rcases (show t = 0 ∨ t = 1 by omega) with rfl | rfl
  · rw [if_pos (show nI 0 = 0 from rfl), if_neg (by simp)]
    exact l0
  · rw [if_neg (show ¬ (nI 1 = 0) by decide), cl_has h hB (by omega) hN (by omega), bO]
    by_cases q1 : S 0 0 ≤ S 0 2
    · rw [decide_eq_true ⟨q1, by omega⟩, if_neg (show ¬ (b01 true = 0) by decide)]
      by_cases q2 : hmx (S 2) 8 < S 0 2
      · rw [if_neg (by rw [nL_le (by omega) (by omega)]; omega), cl_at h hB (by omega) hN (by omega), if_pos ⟨q1, by omega⟩, bO, (h.2.2.2 (S 0 2 - S 0 0) (by omega)).1, show S 0 0 + (S 0 2 - S 0 0) = S 0 2 by omega]
        have h9 := hB 9 (S 0 2)
        by_cases q3 : S 9 (S 0 2) = 2
        · rw [if_pos (by rw [q3]; rfl), if_neg (by simp [tornC, q3])]
          exact l0
        · rw [if_neg (by rw [nl2, nL_eq (by omega) (by omega)]; exact q3)]
          by_cases q4 : S 9 (S 0 2) = 5
          · rw [if_pos (by rw [q4]; rfl), if_neg (by simp [tornC, q4])]
            exact l0
          · rw [if_neg (by rw [nl5, nL_eq (by omega) (by omega)]; exact q4), bd]
            have ht : tornC S = true := by simp [tornC, q1, q2, q3, q4]
            rw [if_pos ⟨rfl, ht⟩, show nI (S 0 2) + (-1 : Int32) = nI (S 0 2 - 1) from sb_m1 (by omega)]
            exact L (S 0 2 - 1) (by omega) (by omega) (by omega)
      · rw [if_pos (by rw [nL_le (by omega) (by omega)]; omega), if_neg (by simp [tornC, q2])]
        exact l0
    · rw [decide_eq_false (fun h => q1 h.1), if_pos (show b01 false = 0 from rfl), if_neg (by simp [tornC, q1])]
      exact l0
end CP4
