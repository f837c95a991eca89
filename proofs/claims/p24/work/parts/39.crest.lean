/-! the class's restart -/
def lst (S : St) (n : Nat) (x : Nat × (Nat → Nat)) : Nat × (Nat → Nat) :=
  if S 9 n = 0 then (x.1 ||| 2 ^ S 10 n, x.2)
  else if S 9 n = 2 ∨ S 9 n = 4 then (x.1 &&& (255 - 2 ^ S 10 n), x.2)
  else if S 9 n = 5 then x
  else (x.1, if x.2 (S 11 n) = 0 then (fun p => if p = S 11 n then n else x.2 p) else x.2)
def lkk (S : St) : Nat → Nat → Nat × (Nat → Nat) → Nat × (Nat → Nat)
  | 0, _, x => x
  | d + 1, n, x => lkk S d (n + 1) (lst S n x)
def lk0 (S : St) : Nat × (Nat → Nat) := if S 0 3 = 0 then (0, fun _ => 0) else (S 12 (S 0 3), S 15)
def lkn (S : St) : Nat := if S 0 3 = 0 then S 0 0 else S 0 3 + 1
def look (S : St) : Nat × (Nat → Nat) := lkk S (S 0 0 + S 0 1 - lkn S) (lkn S) (lk0 S)
/-- the Restarter's own numbers: losers, starts -/
def RL1 (M : Mem) (x : Nat × (Nat → Nat)) : Prop := M 7 20 3 = nI x.1 ∧ ∀ p, p < 8 → M 7 21 p = nI (x.2 p)
def Bx (b : Nat) (x : Nat × (Nat → Nat)) : Prop := x.1 < 16 ∧ ∀ p, x.2 p ≤ b
theorem tset4 : ∀ m, m < 16 → ∀ g, g < 4 → (m ||| 2 ^ g) < 16 ∧ (m &&& (255 - 2 ^ g)) < 16 := by decide +kernel
section CR
variable {j b : Nat} {M : Mem} {S : St}
theorem Bx_lst (hw : WF S) (hb : S 0 0 + S 0 1 ≤ b) {n : Nat} (h1 : S 0 0 ≤ n) (h2 : n < S 0 0 + S 0 1) {x : Nat × (Nat → Nat)} (hx : Bx b x) : Bx b (lst S n x) := by
  obtain ⟨w1, w2, w3⟩ := hw n h1 h2
  unfold lst
  split
  · rename_i q
    exact ⟨(tset4 _ hx.1 _ (w2 (by omega))).1, hx.2⟩
  · split
    · rename_i q
      exact ⟨(tset4 _ hx.1 _ (w2 (by omega))).2, hx.2⟩
    · split
      · exact hx
      · refine ⟨hx.1, fun p => ?_⟩
        split
        · show (if p = S 11 n then n else x.2 p) ≤ b
          split
          · omega
          · exact hx.2 p
        · exact hx.2 p
theorem cl_lookAt (hj : j ≠ 7) (h : RC (M j) S) (hB : Bd b S) (hb : b < 2 ^ 28) (hN : S 0 1 ≤ 128) (hw : WF S) {n : Nat} (h1 : S 0 0 ≤ n) (h2 : n < S 0 0 + S 0 1) (hn : n < 2 ^ 28) {x : Nat × (Nat → Nat)} (hx : Bx b x) (hR : RL1 M x) :
    ∃ M', f_X5_lookAt j M (nI n) = some M' ∧ RL1 M' (lst S n x) ∧ Fr 7 M M' ∧ (∀ i, i ≠ 3 → M' 7 20 i = M 7 20 i) := by
  obtain ⟨w1, w2, w3⟩ := hw n h1 h2
  obtain ⟨r1, r2, r3, r4, r5, r6⟩ := h.2.2.2 (n - S 0 0) (by omega)
  rw [show S 0 0 + (n - S 0 0) = n by omega] at r1 r2 r3
  unfold f_X5_lookAt f_X5_lookAt_L36 f_X5_lookAt_L37
  rw [cl_atI h hB (by omega) (by omega) (by omega) h1 h2, bO, cl_atI h hB (by omega) (by omega) (by omega) h1 h2, bO, cl_atI h hB (by omega) (by omega) (by omega) h1 h2, r1, r2, r3]
  simp only [bO]
  have hk : S 9 n = 0 ∨ S 9 n = 1 ∨ S 9 n = 2 ∨ S 9 n = 3 ∨ S 9 n = 4 ∨ S 9 n = 5 := by omega
  have own : S 9 n ≠ 5 → (eo (S 9 n) (S 10 n) = nI (S 10 n) ∧ ¬ (eo (S 9 n) (S 10 n) < 0) ∧ ¬ ((4 : Int32) ≤ eo (S 9 n) (S 10 n))) := by
    intro q
    have w := w2 q
    have e : eo (S 9 n) (S 10 n) = nI (S 10 n) := by unfold eo; rw [if_neg q]
    rw [e]
    exact ⟨rfl, by rw [nL_neg (by omega)]; exact id, by rw [nl4, nL_le (by omega) (by omega)]; omega⟩
  have W : (S 9 n = 1 ∨ S 9 n = 3) → ∃ M', f_X5_lookAt_L114 j M (nI n) (ep (S 9 n) (S 11 n)) = some M' ∧ RL1 M' (lst S n x) ∧ Fr 7 M M' ∧ (∀ i, i ≠ 3 → M' 7 20 i = M 7 20 i) := by
    intro q
    have w := w3 q
    have e : ep (S 9 n) (S 11 n) = nI (S 11 n) := by unfold ep; rw [if_pos q]
    have s1 := hR.2 (S 11 n) w
    have s2 := hx.2 (S 11 n)
    have el : lst S n x = (x.1, if x.2 (S 11 n) = 0 then (fun p => if p = S 11 n then n else x.2 p) else x.2) := by
      unfold lst
      rw [if_neg (by omega), if_neg (by omega), if_neg (by omega)]
    unfold f_X5_lookAt_L114
    rw [e, if_neg (by rw [nL_neg (by omega)]; exact id), if_neg (by rw [nl8, nL_le (by omega) (by omega)]; omega), gd_in w (by omega), gd_in w (by omega), nL_cl (by omega), s1]
    by_cases z : x.2 (S 11 n) = 0
    · rw [if_pos (by rw [z]; rfl), bd]
      refine ⟨_, rfl, ?_, Fr.rf.st, fun i hi => by rw [st_get, if_neg (by omega)]⟩
      rw [el, if_pos z]
      refine ⟨by rw [st_get, if_neg (by omega)]; exact hR.1, fun p hp => ?_⟩
      rw [st_get]
      show _ = nI (if p = S 11 n then n else x.2 p)
      by_cases e2 : p = S 11 n
      · rw [if_pos ⟨rfl, rfl, e2⟩, if_pos e2]
      · rw [if_neg (by omega), if_neg e2]
        exact hR.2 p hp
    · rw [if_neg (by rw [nl0, nL_eq (by omega) (by omega)]; exact z)]
      refine ⟨M, rfl, ?_, Fr.rf, fun _ _ => rfl⟩
      rw [el, if_neg z]
      exact hR
  have V : (S 9 n = 2 ∨ S 9 n = 4) → ∃ M', f_X5_lookAt_L98 j M ((1 : Int32) <<< (nI (S 10 n) &&& 31)) = some M' ∧ RL1 M' (lst S n x) ∧ Fr 7 M M' ∧ (∀ i, i ≠ 3 → M' 7 20 i = M 7 20 i) := by
    intro q
    have w := w2 (by omega)
    have el : lst S n x = (x.1 &&& (255 - 2 ^ S 10 n), x.2) := by
      unfold lst
      rw [if_neg (by omega), if_pos q]
    have x1 := hx.1
    unfold f_X5_lookAt_L98
    rw [hR.1, bclr8 _ (by omega) _ (by omega), bd]
    refine ⟨_, rfl, ?_, Fr.rf.st, fun i hi => by rw [st_get, if_neg (by omega)]⟩
    rw [el]
    exact ⟨by rw [st_get, if_pos ⟨rfl, rfl, rfl⟩], fun p hp => by rw [st_get, if_neg (by omega)]; exact hR.2 p hp⟩
  rcases hk with q | q | q | q | q | q
  · obtain ⟨o1, o2, o3⟩ := own (by omega)
    have w := w2 (by omega)
    have x1 := hx.1
    rw [if_neg o2, if_neg o3, o1, q, if_pos (show nI 0 = (0 : Int32) from rfl), hR.1, bset8 _ (by omega) _ (by omega), bd]
    refine ⟨_, rfl, ?_, Fr.rf.st, fun i hi => by rw [st_get, if_neg (by omega)]⟩
    have el : lst S n x = (x.1 ||| 2 ^ S 10 n, x.2) := by
      unfold lst
      rw [if_pos q]
    rw [el]
    exact ⟨by rw [st_get, if_pos ⟨rfl, rfl, rfl⟩], fun p hp => by rw [st_get, if_neg (by omega)]; exact hR.2 p hp⟩
  · obtain ⟨o1, o2, o3⟩ := own (by omega)
    have w := W (Or.inl q)
    rw [if_neg o2, if_neg o3]
    rw [q] at w ⊢
    rw [if_neg (show ¬ (nI 1 = (0 : Int32)) by decide), if_pos (show nI 1 = (1 : Int32) from rfl)]
    exact w
  · obtain ⟨o1, o2, o3⟩ := own (by omega)
    have v := V (Or.inl q)
    rw [if_neg o2, if_neg o3, o1, q, if_neg (show ¬ (nI 2 = (0 : Int32)) by decide), if_neg (show ¬ (nI 2 = (1 : Int32)) by decide), if_pos (show nI 2 = (2 : Int32) from rfl)]
    exact v
  · obtain ⟨o1, o2, o3⟩ := own (by omega)
    have w := W (Or.inr q)
    rw [if_neg o2, if_neg o3]
    rw [q] at w ⊢
    rw [if_neg (show ¬ (nI 3 = (0 : Int32)) by decide), if_neg (show ¬ (nI 3 = (1 : Int32)) by decide), if_neg (show ¬ (nI 3 = (2 : Int32)) by decide), if_pos (show nI 3 = (3 : Int32) from rfl)]
    exact w
  · obtain ⟨o1, o2, o3⟩ := own (by omega)
    have v := V (Or.inr q)
    rw [if_neg o2, if_neg o3, o1, q, if_neg (show ¬ (nI 4 = (0 : Int32)) by decide), if_neg (show ¬ (nI 4 = (1 : Int32)) by decide), if_neg (show ¬ (nI 4 = (2 : Int32)) by decide), if_neg (show ¬ (nI 4 = (3 : Int32)) by decide), if_pos (show nI 4 = (4 : Int32) from rfl)]
    exact v
  · rw [if_pos (show eo (S 9 n) (S 10 n) < 0 by rw [q]; show (-1000004 : Int32) < 0; decide), q, if_neg (show ¬ (nI 5 = (0 : Int32)) by decide), if_neg (show ¬ (nI 5 = (1 : Int32)) by decide), if_neg (show ¬ (nI 5 = (2 : Int32)) by decide), if_neg (show ¬ (nI 5 = (3 : Int32)) by decide), if_neg (show ¬ (nI 5 = (4 : Int32)) by decide)]
    refine ⟨M, rfl, ?_, Fr.rf, fun _ _ => rfl⟩
    have el : lst S n x = x := by
      unfold lst
      rw [if_neg (by omega), if_neg (by omega), if_pos q]
    rw [el]
    exact hR
theorem cl_lk (hj : j ≠ 7) (hF : 1 ≤ S 0 0) (hB : Bd b S) (hb : b < 2 ^ 28) (hN : S 0 1 ≤ 128) (hbn : S 0 0 + S 0 1 ≤ b) (hw : WF S) : ∀ (d n fu : Nat) (x : Nat × (Nat → Nat)) (M : Mem), RC (M j) S → n + d = S 0 0 + S 0 1 → S 0 0 ≤ n → d < fu → Bx b x → RL1 M x →
    ∃ M', itr (f_X5_look_L114 j) (fun _ _ _ => none) fu M (nI (S 0 0 + S 0 1 - 1)) (nI n) = some M' ∧ RL1 M' (lkk S d n x) ∧ Fr 7 M M' ∧ (∀ i, i ≠ 3 → M' 7 20 i = M 7 20 i) := by
  intro d
  induction d with
  | zero =>
    intro n fu x M h hn h1 hf hx hR
    obtain ⟨f, rfl⟩ : ∃ f, fu = f + 1 := ⟨fu - 1, by omega⟩
    have h0 := hB 0 0
    refine ⟨M, ?_, hR, Fr.rf, fun _ _ => rfl⟩
    rw [itr_s, f_X5_look_L114, if_pos (by rw [nL_lt (by omega) (by omega)]; omega)]
  | succ d ih =>
    intro n fu x M h hn h1 hf hx hR
    obtain ⟨f, rfl⟩ : ∃ f, fu = f + 1 := ⟨fu - 1, by omega⟩
    obtain ⟨M1, e1, R1, f1, g1⟩ := cl_lookAt hj h hB hb hN hw h1 (by omega) (by omega) hx hR
    obtain ⟨M2, e2, R2, f2, g2⟩ := ih (n + 1) f (lst S n x) M1 (by rw [f1 j hj]; exact h) (by omega) (by omega) (by omega) (Bx_lst hw hbn h1 (by omega) hx) R1
    refine ⟨M2, ?_, R2, f1.tr f2, fun i hi => (g2 i hi).trans (g1 i hi)⟩
    rw [itr_s, f_X5_look_L114, if_neg (by rw [nL_lt (by omega) (by omega)]; omega), e1, bO, bd, nI_1]
    exact e2
end CR
