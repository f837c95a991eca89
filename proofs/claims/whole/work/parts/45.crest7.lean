section CR7
variable {j b : Nat} {M : Mem} {S : St}
theorem Bx_lkk (hbn : S 0 0 + S 0 1 ≤ b) (hw : WF S) : ∀ (d n : Nat) (x : Nat × (Nat → Nat)), S 0 0 ≤ n → n + d ≤ S 0 0 + S 0 1 → Bx b x → Bx b (lkk S d n x)
  | 0, _, _, _, _, hx => hx
  | d + 1, n, x, h1, h2, hx => by
    rw [lkk]
    exact Bx_lkk hbn hw d (n + 1) (lst S n x) (by omega) (by omega) (Bx_lst hw hbn h1 (by omega) hx)
theorem Bx_look (hB : Bd b S) (hbn : S 0 0 + S 0 1 ≤ b) (hw : WF S) (hc : Ck b S) : Bx b (look S) := by
  have h0 := Bx_lk0 hB hc
  unfold look
  by_cases q : S 0 3 = 0
  · have e : lkn S = S 0 0 := by unfold lkn; rw [if_pos q]
    exact Bx_lkk hbn hw _ _ _ (by omega) (by omega) h0
  · have e : lkn S = S 0 3 + 1 := by unfold lkn; rw [if_neg q]
    obtain ⟨c1, c2, c3, c4⟩ := hc q
    exact Bx_lkk hbn hw _ _ _ (by omega) (by omega) h0
theorem RC_up5 (h : RC (M k) S) {v : Nat} : RC (st M k 0 3 (nI v) k) (up S 0 5 v) := by
  refine ⟨?_, fun p hp => ?_, fun g hg => ?_, fun j hj => ?_⟩
  · obtain ⟨a1, a2, a3, a4, a5, a6, a7, a8, a9⟩ := h.1
    simp [st_get, up, *]
  · have a1 := h.2.1 p hp
    simp [st_get, up, *]
  · have a1 := h.2.2.1 g hg
    simp [st_get, up, *]
  · have a1 := h.2.2.2 j (by simpa [up] using hj)
    simp [st_get, up, a1]
theorem RC_up9 (h : RC (M k) S) {v : Nat} : RC (st M k 0 4 (nI v) k) (up S 0 9 v) := by
  refine ⟨?_, fun p hp => ?_, fun g hg => ?_, fun j hj => ?_⟩
  · obtain ⟨a1, a2, a3, a4, a5, a6, a7, a8, a9⟩ := h.1
    simp [st_get, up, *]
  · have a1 := h.2.1 p hp
    simp [st_get, up, *]
  · have a1 := h.2.2.1 g hg
    simp [st_get, up, *]
  · have a1 := h.2.2.2 j (by simpa [up] using hj)
    simp [st_get, up, a1]
theorem rdo_n (sr : Nat → Nat) : ∀ (d n : Nat) (x : St × Nat) (f i : Nat), (5 < f ∨ f = 1 ∨ f = 2 ∨ (f = 0 ∧ i ≠ 6 ∧ i ≠ 7)) → (rdo sr d n x).1 f i = x.1 f i
  | 0, _, _, _, _, _ => rfl
  | d + 1, n, x, f, i, h => by rw [rdo, rdo_n sr d (n + 1) _ f i h, rst_n sr n x f i h]
theorem rs1_n {f i : Nat} (h : 5 < f ∨ f = 1 ∨ f = 2 ∨ (f = 0 ∧ i ≠ 6 ∧ i ≠ 7)) : (rs1 S).1 f i = S f i := rdo_n _ _ _ _ _ _ h
theorem rs2_e : rs2 S = tlb (S 0 0 - 1) (S 0 1) ((rs1 S).1, (look S).1, (fun _ => false), 0) := rfl
end CR7
