section CR7
variable {j k b : Nat} {M : Mem} {S : St}
theorem Bx_lkk (hbn : S 0 0 + S 0 1 ≤ b) (hw : WF S) : ∀ (d n : Nat) (x : Nat × (Nat → Nat)), S 0 0 ≤ n → n + d ≤ S 0 0 + S 0 1 → Bx b x → Bx b (lkk S d n x)
  | 0, _, _, _, _, hx => hx
  | d + 1, n, x, h1, h2, hx => by
    rw [lkk]
    exact Bx_lkk hbn hw d (n + 1) (lst S n x) (by omega) (by omega) (Bx_lst hw hbn h1 (by omega) hx)
theorem Bx_look (hB : Bd b S) (hbn : S 0 0 + S 0 1 ≤ b) (hw : WF S) (hc : Ck b S) : Bx b (look S) := by
  have h0 := Bx_lk0 hB hc
  unfold look
  by_cases q : S 0 3 = 0
  · have e : lkn S = S 0 0 := by unfold lkn; rw [if_pos q]
    exact Bx_lkk hbn hw _ _ _ (by omega) (by omega) h0
  · have e : lkn S = S 0 3 + 1 := by unfold lkn; rw [if_neg q]
    obtain ⟨c1, c2, c3, c4⟩ := hc q
    exact Bx_lkk hbn hw _ _ _ (by omega) (by omega) h0
theorem RC_up5 (h : RC (M k) S) {v : Nat} : RC (st M k 0 3 (nI v) k) (up S 0 5 v) := by
  refine ⟨?_, fun p hp => ?_, fun g hg => ?_, fun j hj => ?_⟩
  · obtain ⟨a1, a2, a3, a4, a5, a6, a7, a8, a9⟩ := h.1
    simp [st_get, up, *]
  · have a1 := h.2.1 p hp
    simp [st_get, up, *]
  · have a1 := h.2.2.1 g hg
    simp [st_get, up, *]
  · have a1 := h.2.2.2 j (by simpa [up] using hj)
    simp [st_get, up, a1]
theorem RC_up9 (h : RC (M k) S) {v : Nat} : RC (st M k 0 4 (nI v) k) (up S 0 9 v) := by
  refine ⟨?_, fun p hp => ?_, fun g hg => ?_, fun j hj => ?_⟩
  · obtain ⟨a1, a2, a3, a4, a5, a6, a7, a8, a9⟩ := h.1
    simp [st_get, up, *]
  · have a1 := h.2.1 p hp
    simp [st_get, up, *]
  · have a1 := h.2.2.1 g hg
    simp [st_get, up, *]
  · have a1 := h.2.2.2 j (by simpa [up] using hj)
    simp [st_get, up, a1]
theorem rdo_n (sr : Nat → Nat) : ∀ (d n : Nat) (x : St × Nat) (f i : Nat), (5 < f ∨ f = 1 ∨ f = 2 ∨ (f = 0 ∧ i ≠ 6 ∧ i ≠ 7)) → (rdo sr d n x).1 f i = x.1 f i
  | 0, _, _, _, _, _ => rfl
  | d + 1, n, x, f, i, h => by rw [rdo, rdo_n sr d (n + 1) _ f i h, rst_n sr n x f i h]
theorem rs1_n {f i : Nat} (h : 5 < f ∨ f = 1 ∨ f = 2 ∨ (f = 0 ∧ i ≠ 6 ∧ i ≠ 7)) : (rs1 S).1 f i = S f i := rdo_n _ _ _ _ _ _ h
theorem rs2_e : rs2 S = tlb (S 0 0 - 1) (S 0 1) ((rs1 S).1, (look S).1, (fun _ => false), 0) := rfl
/-- the class's restart -/
theorem co_rest (hj : j ≠ 7) (h : RC (M j) S) (hn : Nm b S) (hw : WF S) (hc : Ck b S) (hsF : S 0 5 ≠ 0 → ∀ p, p < 8 → (look S).2 p = 0 ∨ S 0 0 ≤ (look S).2 p) (hN2 : S 0 5 ≠ 0 → (rs2 S).1 0 1 ≤ 128) (h9 : (rs2 S).1 0 9 = S 0 9) :
    ∃ M', f_X5_run j M = some ((aRest S).1, M') ∧ RC (M' j) (aRest S).2 ∧ (∀ i, i ≠ j → i ≠ 7 → M' i = M i) ∧ (S 0 5 ≠ 0 → M' 7 20 4 = nI (rs1 S).2 ∧ M' 7 20 5 = nI (rs2 S).2.2.2 ∧ M' 7 20 3 = nI (look S).1 ∧ M' 7 20 2 = nI (lf S)) := by
  obtain ⟨hB, ⟨hb1, hFN⟩, hb, hN, hF, hD, hD2, hz, hs⟩ := hn
  have h5b := hB 0 5
  rw [f_X5_run, h.1.2.2.2.2.2.1.1]
  by_cases q : S 0 5 = 0
  · rw [if_pos (by rw [q]; rfl)]
    exact ⟨M, by unfold aRest; rw [if_pos q], by unfold aRest; rw [if_pos q]; exact h, fun _ _ _ => rfl, fun h => absurd q h⟩
  · rw [if_neg (by rw [nl0, nL_eq (by omega) (by omega)]; exact q)]
    obtain ⟨M1, a1, a2, a3, a4⟩ := cl_look hj h hF hB hb (by omega) hz hFN hw hc
    obtain ⟨x1, x2⟩ := Bx_look hB hFN hw hc
    have c1 : RC (M1 j) S := by rw [a3 j hj]; exact h
    obtain ⟨M2, d1, d2, d3, d4, d5, d6, d7, d8⟩ := cl_doAgain hj c1 hB hb hb1 hs hw hF (by omega) hz hFN x2 (hsF q) a2.2
    change RC (M2 j) (rs1 S).1 at d2
    change Bd b (rs1 S).1 at d3
    change Sm (rs1 S).1 at d4
    change WF (rs1 S).1 at d5
    change M2 7 20 4 = nI (rs1 S).2 at d6
    have e0 : (rs1 S).1 0 0 = S 0 0 := rs1_n (by omega)
    have e1 : (rs1 S).1 0 1 = S 0 1 := rs1_n (by omega)
    have hN3 := hN2 q
    rw [rs2_e, ← e1] at hN3
    have hl1 : Lp b (rs1 S).1 := ⟨d3, hb1, by omega, by rw [e0, e1]; exact hFN, d4, d5⟩
    obtain ⟨M3, t1, t2, t3, t4, t5, t6, t7⟩ := cl_take (S := (rs1 S).1) (ls := (look S).1) (lo := S 0 0 - 1) hj d2 hl1 (by rw [e1]; omega) (by rw [e0]; omega) (by rw [e0, e1]; exact hz) hN3 x1 (by rw [d8 3 (by omega)]; exact a2.1)
    rw [e1, ← rs2_e] at t2 t3 t4 t5
    obtain ⟨y1, y2, y3, y4, y5, y6⟩ := id t3
    have y0 := y1 0 1
    obtain ⟨M4, u1, u2, u3⟩ := cl_force t2 y1 (by omega) (n := (rs2 S).1 0 0 + (rs2 S).1 0 1 - 1) (by omega)
    have el : (if (rs2 S).1 0 1 = 0 then 0 else (rs2 S).1 0 0 + (rs2 S).1 0 1 - 1) = (rs2 S).1 0 0 + (rs2 S).1 0 1 - 1 := by
      by_cases z : (rs2 S).1 0 1 = 0
      · have w : (rs1 S).1 0 1 ≤ (rs2 S).1 0 1 := tlb_mono _ _ ((rs1 S).1, (look S).1, (fun _ => false), 0)
        have := hz (by omega)
        rw [if_pos z]; omega
      · rw [if_neg z]
    have m7 : M4 7 = M3 7 := u3 7 (fun e => hj e.symm)
    have r4 : M3 7 20 4 = nI (rs1 S).2 := by rw [t7 4 (by omega)]; exact d6
    have eR : (aRest S).1 = nI (rs1 S).2 := by unfold aRest; rw [if_neg q]
    have eS : (aRest S).2 = up (up (frc (rs2 S).1 ((rs2 S).1 0 0 + (rs2 S).1 0 1 - 1)) 0 5 0) 0 9 (S 0 9 + (rs1 S).2) := by unfold aRest; rw [if_neg q]
    have v1 : RC (st M4 j 0 3 (0 : Int32) j) (up (frc (rs2 S).1 ((rs2 S).1 0 0 + (rs2 S).1 0 1 - 1)) 0 5 0) := RC_up5 (v := 0) u2
    have v2 : st M4 j 0 3 (0 : Int32) j 0 4 = nI (S 0 9) := by
      rw [v1.1.2.2.2.2.2.1.2]
      show nI ((rs2 S).1 0 9) = _
      rw [h9]
    have f7 : ∀ v, st (st M4 j 0 3 (0 : Int32)) j 0 4 v 7 = M3 7 := fun v => by rw [st_fr (fun e => hj e.symm), st_fr (fun e => hj e.symm)]; exact m7
    have v4 : st M4 j 0 3 (0 : Int32) 7 20 4 = nI (rs1 S).2 := by rw [st_fr (fun e => hj e.symm), m7]; exact r4
    refine ⟨st (st M4 j 0 3 (0 : Int32)) j 0 4 (nI (S 0 9 + (rs1 S).2)), ?_, ?_, ?_, fun _ => ⟨?_, ?_, ?_, ?_⟩⟩
    · rw [a1, bO, d1, bO, t1, bO, cl_last t2 y1 (by omega), bO, el, u1, bP, bd, bd, v2, v4, nI_add, f7, r4, eR]
    · rw [eS]
      exact RC_up9 v1
    · intro i i1 i2
      rw [st_fr i1, st_fr i1, u3 i i1, t6 i i1 i2, d7 i i1 i2, a3 i i2]
    · rw [f7]; exact r4
    · rw [f7]; exact t5
    · rw [f7, t7 3 (by omega), d8 3 (by omega)]; exact a2.1
    · rw [f7, t7 2 (by omega), d8 2 (by omega)]; exact a4
end CR7
