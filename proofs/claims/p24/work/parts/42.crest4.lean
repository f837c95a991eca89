/-- one record met on the way down: the store, the losers left, the writes that were taken back already, how many are taken back -/
def tst (n : Nat) (x : St × Nat × (Nat → Bool) × Nat) : St × Nat × (Nat → Bool) × Nat :=
  if x.1 9 n = 3 then (x.1, x.2.1, (fun m => x.2.2.1 m || decide (m = x.1 14 n)), x.2.2.2)
  else if x.1 9 n = 5 then x
  else if x.2.1.testBit (x.1 10 n) then
    (if x.1 9 n = 0 then (endg x.1 (x.1 10 n), x.2.1 &&& (255 - 2 ^ x.1 10 n), x.2.2.1, x.2.2.2)
     else if x.1 9 n = 1 ∧ x.2.2.1 n = false then (twb x.1 n, x.2.1, x.2.2.1, x.2.2.2 + 1)
     else x)
  else x
/-- the records lo + d, .. lo + 1 from the highest on down, while losers are left -/
def tlb (lo : Nat) : Nat → St × Nat × (Nat → Bool) × Nat → St × Nat × (Nat → Bool) × Nat
  | 0, x => x
  | d + 1, x => if x.2.1 = 0 then x else tlb lo d (tst (lo + d + 1) x)
section CR4
variable {j b : Nat} {M : Mem} {S : St}
theorem cl_doAgain (hj : j ≠ 7) {sr : Nat → Nat} (h : RC (M j) S) (hB : Bd b S) (hb : b < 2 ^ 27) (hb1 : 256 ≤ b) (hs : Sm S) (hw : WF S) (hF : 1 ≤ S 0 0) (hN : S 0 1 ≤ 128) (hz : S 0 1 = 0 → S 0 0 = 1) (hFN : S 0 0 + S 0 1 ≤ b) (hsr : ∀ p, sr p ≤ b) (hsF : ∀ p, p < 8 → sr p = 0 ∨ S 0 0 ≤ sr p) (hR : ∀ p, p < 8 → M 7 21 p = nI (sr p)) :
    ∃ M', f_X5_doAgain j M = some M' ∧ RC (M' j) (rdo sr (S 0 1) (S 0 0) (S, 0)).1 ∧ Bd b (rdo sr (S 0 1) (S 0 0) (S, 0)).1 ∧ Sm (rdo sr (S 0 1) (S 0 0) (S, 0)).1 ∧ WF (rdo sr (S 0 1) (S 0 0) (S, 0)).1 ∧ M' 7 20 4 = nI (rdo sr (S 0 1) (S 0 0) (S, 0)).2 ∧ (∀ i, i ≠ j → i ≠ 7 → M' i = M i) ∧ (∀ i, i ≠ 4 → M' 7 20 i = M 7 20 i) := by
  have hM : st M 7 20 4 (0 : Int32) j = M j := st_fr hj
  have hR1 : ∀ p, p < 8 → st M 7 20 4 (0 : Int32) 7 21 p = nI (sr p) := fun p hp => by rw [st_get, if_neg (by omega)]; exact hR p hp
  obtain ⟨m, e1, m1, m2, m3⟩ := cl_least hR1 (fun p => by have := hsr p; omega)
  have h40 : st M 7 20 4 (0 : Int32) 7 20 4 = nI 0 := by rw [st_get, if_pos ⟨rfl, rfl, rfl⟩]; rfl
  have skip : (∀ k, S 0 0 ≤ k → k < S 0 0 + S 0 1 → ∀ p, p < 8 → sr p = 0 ∨ k < sr p) → rdo sr (S 0 1) (S 0 0) (S, 0) = (S, 0) := by
    intro hk
    refine rdo_skip _ _ (fun k h1 h2 => ?_)
    unfold rst
    refine if_neg ?_
    rintro ⟨q1, q2, q3, q4⟩
    obtain ⟨w1, w2, w3⟩ := hw k h1 h2
    rcases hk k h1 h2 (S 11 k) (w3 q1) with e | e
    · exact q2 e
    · have q3 : sr (S 11 k) ≤ k := q3
      omega
  have done : rdo sr (S 0 1) (S 0 0) (S, 0) = (S, 0) → (∃ M', some (st M 7 20 4 (0 : Int32)) = some M' ∧ RC (M' j) (rdo sr (S 0 1) (S 0 0) (S, 0)).1 ∧ Bd b (rdo sr (S 0 1) (S 0 0) (S, 0)).1 ∧ Sm (rdo sr (S 0 1) (S 0 0) (S, 0)).1 ∧ WF (rdo sr (S 0 1) (S 0 0) (S, 0)).1 ∧ M' 7 20 4 = nI (rdo sr (S 0 1) (S 0 0) (S, 0)).2 ∧ (∀ i, i ≠ j → i ≠ 7 → M' i = M i) ∧ (∀ i, i ≠ 4 → M' 7 20 i = M 7 20 i)) := by
    intro e
    rw [e]
    exact ⟨_, rfl, by rw [hM]; exact h, hB, hs, hw, h40, fun i c1 c2 => st_fr c2, fun i c => by rw [st_get, if_neg (by omega)]⟩
  rw [f_X5_doAgain, bd, e1, bO]
  by_cases q : m = 0
  · rw [if_pos (by rw [q]; rfl)]
    exact done (skip (fun k _ _ p hp => Or.inl (m2 q p hp)))
  · obtain ⟨⟨p0, hp0, ep0⟩, m4⟩ := m3 q
    rw [if_neg (by rw [nl0, nL_eq (by omega) (by omega)]; exact q)]
    have hmF : S 0 0 ≤ m := by
      rcases hsF p0 hp0 with e | e
      · omega
      · omega
    have eL : (if S 0 1 = 0 then 0 else S 0 0 + S 0 1 - 1) = S 0 0 + S 0 1 - 1 := by
      by_cases z : S 0 1 = 0
      · have := hz z
        rw [if_pos z]; omega
      · rw [if_neg z]
    have h' : RC (st M 7 20 4 (0 : Int32) j) S := by rw [hM]; exact h
    rw [cl_last h' hB (by omega), bO, eL]
    by_cases q2 : m ≤ S 0 0 + S 0 1
    · have hsp := rdo_add (sr := sr) (m - S 0 0) (S 0 0 + S 0 1 - m) (S 0 0) (S, 0)
      rw [show m - S 0 0 + (S 0 0 + S 0 1 - m) = S 0 1 by omega, show S 0 0 + (m - S 0 0) = m by omega] at hsp
      have hsk : rdo sr (m - S 0 0) (S 0 0) (S, 0) = (S, 0) := by
        refine rdo_skip _ _ (fun k h1 h2 => ?_)
        unfold rst
        refine if_neg ?_
        rintro ⟨q1, q3, q4, q5⟩
        obtain ⟨w1, w2, w3⟩ := hw k h1 (by omega)
        have q4 : sr (S 11 k) ≤ k := q4
        rcases m4 (S 11 k) (w3 q1) with e | e
        · exact q3 e
        · omega
      rw [hsk] at hsp
      rw [hsp]
      obtain ⟨M', a1, a2, a3, a4, a5, a6, a7, a8⟩ := cl_redo (j := j) (b := b) hj (sr := sr) (F := S 0 0) (N := S 0 1) (fun p => by have := hsr p; omega) hFN hb hb1 hN (S 0 0 + S 0 1 - m) m FU (S, 0) (st M 7 20 4 (0 : Int32)) h' hB hs hw rfl rfl (by omega) hmF hF (by show _ < 10000; omega) hR1 h40
      exact ⟨M', a1, a2, a3, a4, a5, a6, fun i c1 c2 => (a7 i c1 c2).trans (st_fr c2), fun i c => (a8 i c).trans (by rw [st_get, if_neg (by omega)])⟩
    · have e2 : itr (f_X5_doAgain_L24 j) (fun _ _ _ => none) FU (st M 7 20 4 (0 : Int32)) (nI (S 0 0 + S 0 1 - 1)) (nI m) = some (st M 7 20 4 (0 : Int32)) := by
        rw [FU_s, itr_s, f_X5_doAgain_L24, if_pos (by rw [nL_lt (by omega) (by omega)]; omega)]
      rw [e2]
      exact done (skip (fun k _ _ p hp => by
        rcases m4 p hp with e | e
        · exact Or.inl e
        · exact Or.inr (by omega)))
/-- the Restarter's row of writes that were taken back -/
def Tk (M : Mem) (F : Nat) (tk : Nat → Bool) : Prop := ∀ i, i < 128 → M 7 22 i = b01 (tk (F + i))
theorem cl_note {F t : Nat} {tk : Nat → Bool} (hF : F < 2 ^ 28) (ht : t < 2 ^ 28) (hT : Tk M F tk) : ∃ M', f_X5_noteTakenBack M (nI t - nI F) = some M' ∧ Tk M' F (fun m => tk m || decide (m = t)) ∧ Fr 7 M M' ∧ (∀ i, M' 7 20 i = M 7 20 i) := by
  rw [f_X5_noteTakenBack]
  by_cases q : F ≤ t
  · rw [nL_sub q, if_neg (by rw [nL_neg (by omega)]; exact id)]
    by_cases q2 : t - F < 128
    · rw [if_neg (by rw [nl128, nL_le (by omega) (by omega)]; omega), gd_in q2 (by omega), bd, nL_cl (by omega)]
      refine ⟨_, rfl, fun i hi => ?_, Fr.rf.st, fun i => by rw [st_get, if_neg (by omega)]⟩
      show _ = b01 (tk (F + i) || decide (F + i = t))
      rw [st_get]
      by_cases e : i = t - F
      · rw [if_pos ⟨rfl, rfl, e⟩, decide_eq_true (show F + i = t by omega), Bool.or_true]
        rfl
      · rw [if_neg (by omega), hT i hi, decide_eq_false (show ¬ (F + i = t) by omega), Bool.or_false]
    · rw [if_pos (by rw [nl128, nL_le (by omega) (by omega)]; omega)]
      refine ⟨M, rfl, fun i hi => ?_, Fr.rf, fun _ => rfl⟩
      show _ = b01 (tk (F + i) || decide (F + i = t))
      rw [hT i hi, decide_eq_false (show ¬ (F + i = t) by omega), Bool.or_false]
  · rw [if_pos (by rw [nL_subneg (by omega) (by omega)]; trivial)]
    refine ⟨M, rfl, fun i hi => ?_, Fr.rf, fun _ => rfl⟩
    show _ = b01 (tk (F + i) || decide (F + i = t))
    rw [hT i hi, decide_eq_false (show ¬ (F + i = t) by omega), Bool.or_false]
theorem cl_isTk {F n : Nat} {tk : Nat → Bool} (h1 : F ≤ n) (h2 : n - F < 128) (hT : Tk M F tk) : f_X5_isTakenBack M (nI n - nI F) = some (b01 (tk n)) := by
  rw [f_X5_isTakenBack, nL_sub h1, if_neg (by rw [nL_neg (by omega)]; exact id), if_neg (by rw [nl128, nL_le (by omega) (by omega)]; omega), gd_in h2 (by omega), nL_cl (by omega), hT _ h2, show F + (n - F) = n by omega]
  cases tk n <;> rfl
end CR4
