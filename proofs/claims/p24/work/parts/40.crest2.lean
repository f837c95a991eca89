def lf (S : St) : Nat := if S 0 3 = 0 then (if S 0 1 = 0 then 0 else S 0 0) else S 0 3
/-- what a restart asks of the latest checkpoint -/
def Ck (b : Nat) (S : St) : Prop := S 0 3 ≠ 0 → S 0 0 ≤ S 0 3 ∧ S 0 3 < S 0 0 + S 0 1 ∧ S 9 (S 0 3) = 5 ∧ S 12 (S 0 3) < 16
section CR2
variable {j b : Nat} {M : Mem} {S : St}
theorem Bx_lk0 (hB : Bd b S) (hc : Ck b S) : Bx b (lk0 S) := by
  unfold lk0
  split
  · exact ⟨by decide, fun _ => Nat.zero_le _⟩
  · rename_i q
    exact ⟨(hc q).2.2.2, fun p => hB 15 p⟩
theorem cl_lk60 (hj : j ≠ 7) (hF : 1 ≤ S 0 0) (hB : Bd b S) (hb : b < 2 ^ 27) (hN : S 0 1 ≤ 128) (hz : S 0 1 = 0 → S 0 0 = 1) (hbn : S 0 0 + S 0 1 ≤ b) (hw : WF S) (hc : Ck b S) : ∀ (d i fu : Nat) (M : Mem), RC (M j) S → i + d = 8 → d < fu → M 7 20 3 = nI (lk0 S).1 → M 7 20 2 = nI (lf S) → (∀ p, p < i → M 7 21 p = nI ((lk0 S).2 p)) →
    ∃ M', itr (f_X5_look_L60 j) (fun _ _ _ => none) fu M (if S 0 3 = 0 then 0 else 1) (nI i) = some M' ∧ RL1 M' (look S) ∧ Fr 7 M M' ∧ (∀ i, i ≠ 3 → M' 7 20 i = M 7 20 i) := by
  intro d
  induction d with
  | zero =>
    intro i fu M h hi hf h3 h2 hp
    obtain ⟨f, rfl⟩ : ∃ f, fu = f + 1 := ⟨fu - 1, by omega⟩
    have hi : i = 8 := by omega
    subst hi
    have h0 := hB 0 0
    have hL := hB 0 3
    have x0 := Bx_lk0 hB hc
    have eL : (if S 0 1 = 0 then 0 else S 0 0 + S 0 1 - 1) = S 0 0 + S 0 1 - 1 := by
      by_cases z : S 0 1 = 0
      · have := hz z
        rw [if_pos z]; omega
      · rw [if_neg z]
    have hlf : lf S ≤ b := by
      unfold lf
      split
      · split
        · omega
        · exact h0
      · exact hL
    have em : (if (M j 11 7) < (M 7 20 2) then (M 7 20 2) else (M j 11 7)) = nI (if S 0 3 = 0 then S 0 0 else S 0 3) := by
      rw [h.1.1, h2]
      by_cases q : S 0 3 = 0
      · rw [if_pos q]
        rw [if_neg (by
          rw [nL_lt (by omega) (by omega)]
          unfold lf
          rw [if_pos q]
          split <;> omega)]
      · obtain ⟨c1, c2, c3, c4⟩ := hc q
        rw [if_neg q]
        have e : lf S = S 0 3 := by unfold lf; rw [if_neg q]
        rw [e]
        by_cases q2 : S 0 0 < S 0 3
        · rw [if_pos (by rw [nL_lt (by omega) (by omega)]; exact q2)]
        · rw [if_neg (by rw [nL_lt (by omega) (by omega)]; exact q2), show S 0 0 = S 0 3 by omega]
    have hR : RL1 M (lk0 S) := ⟨h3, fun p hp8 => hp p hp8⟩
    have key : ∃ M', itr (f_X5_look_L114 j) (fun _ _ _ => none) FU M (nI (S 0 0 + S 0 1 - 1)) (nI (if S 0 3 = 0 then S 0 0 else S 0 3)) = some M' ∧ RL1 M' (look S) ∧ Fr 7 M M' ∧ (∀ i, i ≠ 3 → M' 7 20 i = M 7 20 i) := by
      by_cases q : S 0 3 = 0
      · have e := cl_lk hj hF hB (by omega) hN hbn hw (S 0 1) (S 0 0) FU (lk0 S) M h (by omega) (by omega) (by show _ < 10000; omega) x0 hR
        rw [if_pos q]
        unfold look lkn
        rw [if_pos q, show S 0 0 + S 0 1 - S 0 0 = S 0 1 by omega]
        exact e
      · obtain ⟨c1, c2, c3, c4⟩ := hc q
        have e := cl_lk hj hF hB (by omega) hN hbn hw (S 0 0 + S 0 1 - S 0 3) (S 0 3) FU (lk0 S) M h (by omega) (by omega) (by show _ < 10000; omega) x0 hR
        rw [if_neg q]
        unfold look lkn
        rw [if_neg q]
        have e2 : lkk S (S 0 0 + S 0 1 - S 0 3) (S 0 3) (lk0 S) = lkk S (S 0 0 + S 0 1 - (S 0 3 + 1)) (S 0 3 + 1) (lk0 S) := by
          rw [show S 0 0 + S 0 1 - S 0 3 = (S 0 0 + S 0 1 - (S 0 3 + 1)) + 1 by omega, lkk]
          congr 1
          unfold lst
          rw [if_neg (by omega), if_neg (by omega), if_pos c3]
        rw [← e2]
        exact e
    obtain ⟨M', e1, r1, f1, g1⟩ := key
    refine ⟨M', ?_, r1, f1, g1⟩
    rw [itr_s, f_X5_look_L60, if_pos (by decide), cl_last h hB (by omega), bO, bd, em, eL]
    exact e1
  | succ d ih =>
    intro i fu M h hi hf h3 h2 hp
    obtain ⟨f, rfl⟩ : ∃ f, fu = f + 1 := ⟨fu - 1, by omega⟩
    have ev : (lk0 S).2 i = if S 0 3 = 0 then 0 else S 15 i := by unfold lk0; split <;> rfl
    obtain ⟨M', e1, r1, f1, g1⟩ := ih (i + 1) f (st M 7 21 i (nI ((lk0 S).2 i))) (by rw [st_fr hj]; exact h) (by omega) (by omega) (by rw [st_get, if_neg (by omega)]; exact h3) (by rw [st_get, if_neg (by omega)]; exact h2) (fun p hpi => by
      rw [st_get]
      by_cases e : p = i
      · rw [if_pos ⟨rfl, rfl, e⟩, e]
      · rw [if_neg (by omega)]; exact hp p (by omega))
    refine ⟨M', ?_, r1, (Fr.rf.st).tr f1, fun c hc3 => (g1 c hc3).trans (by rw [st_get, if_neg (by omega)])⟩
    rw [itr_s, f_X5_look_L60, if_neg (by rw [nl8, nL_le (by omega) (by omega)]; omega)]
    by_cases q : S 0 3 = 0
    · rw [if_pos q] at e1 ev ⊢
      rw [if_pos rfl, f_X5_look_L88, gd_in (by omega) (by omega), bd, bd, nL_cl (by omega), nI_1]
      rw [ev] at e1
      exact e1
    · rw [if_neg q] at e1 ev ⊢
      rw [if_neg (by decide), gd_in (by omega) (by omega), f_X5_look_L88, gd_in (by omega) (by omega), bd, bd, nL_cl (by omega), nI_1, (h.2.1 i (by omega)).2.2.2.2.2]
      rw [ev] at e1
      exact e1
theorem cl_look (hj : j ≠ 7) (h : RC (M j) S) (hF : 1 ≤ S 0 0) (hB : Bd b S) (hb : b < 2 ^ 27) (hN : S 0 1 ≤ 128) (hz : S 0 1 = 0 → S 0 0 = 1) (hbn : S 0 0 + S 0 1 ≤ b) (hw : WF S) (hc : Ck b S) :
    ∃ M', f_X5_look j M = some M' ∧ RL1 M' (look S) ∧ Fr 7 M M' ∧ M' 7 20 2 = nI (lf S) := by
  have hL := hB 0 3
  have h1 := hB 0 1
  rw [f_X5_look, bd, h.1.2.2.2.1]
  by_cases q : S 0 3 = 0
  · have e0 : lk0 S = (0, fun _ => 0) := by unfold lk0; rw [if_pos q]
    obtain ⟨M', e1, r1, f1, g1⟩ := cl_lk60 (j := j) hj hF hB hb hN hz hbn hw hc 8 0 FU (st (st M 7 20 3 0) 7 20 2 (nI (lf S))) (by rw [st_fr hj, st_fr hj]; exact h) (by omega) (by decide) (by rw [st_get, if_neg (by omega), st_get, if_pos ⟨rfl, rfl, rfl⟩, e0]; rfl) (by rw [st_get, if_pos ⟨rfl, rfl, rfl⟩]) (fun p hp => by omega)
    refine ⟨M', ?_, r1, (Fr.rf.st.st).tr f1, (g1 2 (by decide)).trans (by rw [st_get, if_pos ⟨rfl, rfl, rfl⟩])⟩
    rw [if_pos q, show nI 0 = (0 : Int32) from rfl] at e1
    rw [if_pos (by rw [q]; rfl), f_X5_look_L14, if_pos rfl, f_X5_look_L37, bd, if_pos rfl]
    have et : f_X2_tellNumber j (st M 7 20 3 0) (1 : Int32) = some (nI (lf S)) := by
      unfold f_X2_tellNumber
      rw [if_neg (by decide), if_pos rfl, st_fr hj, h.1.2.1, h.1.1]
      unfold lf
      rw [if_pos q]
      by_cases z : S 0 1 = 0
      · rw [if_pos z, if_pos (by rw [z]; rfl)]; rfl
      · rw [if_neg z, if_neg (by rw [nl0, nL_eq (by omega) (by omega)]; exact z)]
    rw [et, bO, f_X5_look_L54, bd]
    exact e1
  · obtain ⟨c1, c2, c3, c4⟩ := hc q
    have e0 : lk0 S = (S 12 (S 0 3), S 15) := by unfold lk0; rw [if_neg q]
    have el : lf S = S 0 3 := by unfold lf; rw [if_neg q]
    obtain ⟨M', e1, r1, f1, g1⟩ := cl_lk60 (j := j) hj hF hB hb hN hz hbn hw hc 8 0 FU (st (st M 7 20 3 (nI (S 12 (S 0 3)))) 7 20 2 (nI (lf S))) (by rw [st_fr hj, st_fr hj]; exact h) (by omega) (by decide) (by rw [st_get, if_neg (by omega), st_get, if_pos ⟨rfl, rfl, rfl⟩, e0]) (by rw [st_get, if_pos ⟨rfl, rfl, rfl⟩]) (fun p hp => by omega)
    refine ⟨M', ?_, r1, (Fr.rf.st.st).tr f1, (g1 2 (by decide)).trans (by rw [st_get, if_pos ⟨rfl, rfl, rfl⟩])⟩
    rw [if_neg q, show nI 0 = (0 : Int32) from rfl] at e1
    rw [if_neg (by rw [nl0, nL_eq (by omega) (by omega)]; exact q), f_X5_look_L14, if_neg (show ¬ ((1 : Int32) = 0) by decide), cl_atI h hB (by omega) (by omega) (by omega) c1 c2, bO, f_X5_look_L37, bd, if_neg (show ¬ ((1 : Int32) = 0) by decide), f_X5_look_L54, bd]
    obtain ⟨r1', r2', r3', r4', -, -⟩ := h.2.2.2 (S 0 3 - S 0 0) (by omega)
    rw [show S 0 0 + (S 0 3 - S 0 0) = S 0 3 by omega] at r4'
    have em : (if (0 : Int32) < M j 15 (S 0 3 - S 0 0) then M j 15 (S 0 3 - S 0 0) else 0) = nI (S 12 (S 0 3)) := by
      rw [r4']
      by_cases z : S 12 (S 0 3) = 0
      · rw [z]; rfl
      · rw [if_pos (by rw [nl0, nL_lt (by omega) (by omega)]; omega)]
    rw [em]
    rw [el] at e1
    exact e1
end CR2
