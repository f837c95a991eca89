theorem gd_in {α : Type} {a n : Nat} {x : Option α} (h : a < n) (ha : a < 2 ^ 31) : gd (inb (nI a) n) x = x := by
  unfold gd
  rw [if_pos (by rw [nL_in ha]; exact h)]
theorem ne10 : ((1 : Int32) = 0) = False := eq_false (by decide)
section CO3
variable {k b : Nat} {M : Mem} {S : St}
theorem mg_le {S : St} {n : Nat} : ∀ i, mg S n i ≤ n
  | 0 => Nat.le_refl _
  | i + 1 => by
    have := mg_le (S := S) (n := n) i
    unfold mg
    split
    · split <;> omega
    · exact this
theorem mp_le {S : St} {n : Nat} : ∀ i, mp S n i ≤ n
  | 0 => mg_le 4
  | i + 1 => by
    have := mp_le (S := S) (n := n) i
    unfold mp
    split
    · split <;> omega
    · exact this
/-- a store that differs from S in the drop limit alone, or in the drop limit and the starts at the checkpoint of pages below i -/
def wdl (S : St) (v : Nat) : St := up S 0 4 v
def wcs (S : St) (v i : Nat) (T : St) : St := upr (up S 0 4 v) 15 (fun p => if p < i then (if (T 0 7).testBit p then T 5 p else 0) else S 15 p)
theorem RC_dl (h : RC (M k) S) (v : Nat) : RC (st M k 11 11 (nI v) k) (wdl S v) := by
  obtain ⟨a1, a2, a3, a4, a5, a6, a7, a8, a9⟩ := h.1
  refine ⟨?_, fun p' hp' => ?_, fun g' hg' => ?_, fun j hj => ?_⟩
  · simp [st_get, wdl, up, *]
  · have a1 := h.2.1 p' hp'
    simp [st_get, wdl, up, *]
  · have a1 := h.2.2.1 g' hg'
    simp [st_get, wdl, up, *]
  · have a1 := h.2.2.2 j (by simpa [wdl, up] using hj)
    simp [st_get, wdl, up, *]
theorem RC_cs (h : RC (M k) S) {p v : Nat} (hp : p < 8) : RC (st M k 18 p (nI v) k) (up S 15 p v) := by
  obtain ⟨a1, a2, a3, a4, a5, a6, a7, a8, a9⟩ := h.1
  refine ⟨?_, fun p' hp' => ?_, fun g' hg' => ?_, fun j hj => ?_⟩
  · simp [st_get, up, *]
  · have a1 := h.2.1 p' hp'
    by_cases e : p' = p
    · subst e
      simp [st_get, up, *]
    · simp [st_get, up, e, *]
  · have a1 := h.2.2.1 g' hg'
    simp [st_get, up, *]
  · have a1 := h.2.2.2 j (by simpa [up] using hj)
    simp [st_get, up, *]
/-- the second loop of a checkpoint, over the pages -/
theorem cl_ck2 {T : St} {n : Nat} (hs : Sm T) (hT : Bd b T) (hb : b < 2 ^ 28) (hn : n ≤ b) (hD : T 0 2 ≤ b) : ∀ (d i fu : Nat) (S : St) (M : Mem), i + d = 8 → d < fu → RC (M k) S → (∀ f j, ¬ (f = 0 ∧ j = 4) → f ≠ 15 → S f j = T f j) → S 0 4 = mp T n i →
    ∃ M' S', itr (f_X2_appendCheckpoint_L78 k) (fun _ _ _ => none) fu M (nI n) (nI i) = some (nI n, M') ∧ RC (M' k) S' ∧ Fr k M M' ∧ S' 0 4 = mp T n 8 ∧ S' 0 2 = T 0 2 + (n - T 0 2) ∧ (∀ p, i ≤ p → p < 8 → S' 15 p = if (T 0 7).testBit p then T 5 p else 0) ∧ (∀ p, p < i ∨ 8 ≤ p → S' 15 p = S 15 p) ∧ (∀ f j, ¬ (f = 0 ∧ (j = 4 ∨ j = 2)) → f ≠ 15 → S' f j = T f j) := by
  intro d
  induction d with
  | zero =>
    intro i fu S M hi hf h hST h4
    obtain ⟨f, rfl⟩ : ∃ f, fu = f + 1 := ⟨fu - 1, by omega⟩
    have hi : i = 8 := by omega
    subst hi
    have e2 : S 0 2 = T 0 2 := hST 0 2 (by omega) (by omega)
    refine ⟨st M k 11 9 (nI (S 0 2 + (n - S 0 2))), frc S n, ?_, ?_, Fr.rf.st, ?_, ?_, fun p h1 h2 => by omega, fun p hp => ?_, fun f j h1 h2 => ?_⟩
    · rw [itr_s, f_X2_appendCheckpoint_L78, if_pos (by decide)]
      unfold f_X2_forceUpTo
      rw [h.1.2.2.1, nL_max (by omega) (by omega), bd, bd, bP, nI_add]
    · refine ⟨?_, fun p hp => ?_, fun g hg => ?_, fun j hj => ?_⟩
      · obtain ⟨a1, a2, a3, a4, a5, a6, a7, a8, a9⟩ := h.1
        simp [st_get, frc, up, nI_add, *]
      · have a1 := h.2.1 p hp
        simp [st_get, frc, up, *]
      · have a1 := h.2.2.1 g hg
        simp [st_get, frc, up, *]
      · have a1 := h.2.2.2 j (by simpa [frc, up] using hj)
        simp [st_get, frc, up, *]
    · simpa [frc, up] using h4
    · simp [frc, up, e2]
    · simp [frc, up]
    · have : frc S n f j = S f j := by
        simp only [frc, up]
        rw [if_neg (by omega)]
      rw [this]
      exact hST f j (by omega) h2
  | succ d ih =>
    intro i fu S M hi hf h hST h4
    obtain ⟨f, rfl⟩ : ∃ f, fu = f + 1 := ⟨fu - 1, by omega⟩
    have eY : S 0 7 = T 0 7 := hST 0 7 (by omega) (by omega)
    have e5 : S 5 i = T 5 i := hST 5 i (by omega) (by omega)
    have hy := h.1.2.2.2.2.2.2.2.1
    have h5 := hT 5 i
    have hm := mp_le (S := T) (n := n) i
    have hp5 := (h.2.1 i (by omega)).2.2.2.2.1
    have h6 := h.1.2.2.2.2.1
    rw [itr_s, f_X2_appendCheckpoint_L78, if_neg (by rw [nl8, nL_le (by omega) (by omega)]; omega), hy, eY, bit8 _ hs.2.1 i (by omega)]
    cases q : (T 0 7).testBit i
    · rw [if_neg (show ¬ (b01 false = 1) by decide)]
      have R := RC_cs (M := M) (k := k) h (p := i) (v := 0) (by omega)
      obtain ⟨M', S', e1, r1, f1, g1, g2, g3, g4, g5⟩ := ih (i + 1) f _ _ (by omega) (by omega) R (fun f' j' a c => by simp only [up]; rw [if_neg (by omega)]; exact hST f' j' a c) (by
        simp only [up]
        rw [if_neg (by omega), h4]
        show mp T n i = mp T n (i + 1)
        rw [mp, if_neg (by rw [q]; decide)])
      refine ⟨M', S', ?_, r1, (Fr.rf.st).tr f1, g1, g2, fun p c1 c2 => ?_, fun p c1 => ?_, g5⟩
      · simp only [f_X2_appendCheckpoint_L103, f_X2_appendCheckpoint_L127, f_X2_appendCheckpoint_L151, if_true, bd, gd_in (show i < 8 by omega) (show i < 2 ^ 31 by omega)]
        rw [nL_cl (by omega), nI_1]
        exact e1
      · by_cases e : p = i
        · subst e
          rw [g4 p (by omega), q]
          simp [up]
        · exact g3 p (by omega) c2
      · rw [g4 p (by omega)]
        simp only [up]
        rw [if_neg (by omega)]
    · rw [if_pos (show b01 true = 1 from rfl)]
      have R := RC_dl (M := st M k 18 i (nI (T 5 i))) (k := k) (RC_cs (M := M) (k := k) h (p := i) (v := T 5 i) (by omega)) (mp T n (i + 1))
      obtain ⟨M', S', e1, r1, f1, g1, g2, g3, g4, g5⟩ := ih (i + 1) f _ _ (by omega) (by omega) R (fun f' j' a c => by simp only [wdl, up]; rw [if_neg (by omega), if_neg (by omega)]; exact hST f' j' a c) (by simp [wdl, up])
      refine ⟨M', S', ?_, r1, (Fr.rf.st.st).tr f1, g1, g2, fun p c1 c2 => ?_, fun p c1 => ?_, g5⟩
      · simp only [f_X2_appendCheckpoint_L103, f_X2_appendCheckpoint_L127, f_X2_appendCheckpoint_L151, bd, gd_in (show i < 8 by omega) (show i < 2 ^ 31 by omega), ne10, if_false]
        rw [nL_cl (by omega), nI_1, hp5, e5]
        have z1 : st M k 18 i (nI (T 5 i)) k 6 i = nI (T 5 i) := by rw [st_get, if_neg (by omega), hp5, e5]
        have z2 : st M k 18 i (nI (T 5 i)) k 11 11 = nI (mp T n i) := by rw [st_get, if_neg (by omega), h6, h4]
        rw [z1, z2]
        have z3 : (if nI (T 5 i) < nI (mp T n i) then nI (T 5 i) else nI (mp T n i)) = nI (mp T n (i + 1)) := by
          rw [mp, if_pos q]
          by_cases z : T 5 i < mp T n i
          · rw [if_pos z, if_pos (by rw [nL_lt (by omega) (by omega)]; exact z)]
          · rw [if_neg z, if_neg (by rw [nL_lt (by omega) (by omega)]; exact z)]
        rw [z3]
        exact e1
      · by_cases e : p = i
        · subst e
          rw [g4 p (by omega), q]
          simp [wdl, up]
        · exact g3 p (by omega) c2
      · rw [g4 p (by omega)]
        simp only [wdl, up]
        rw [if_neg (by omega), if_neg (by omega)]
/-- the first loop, over the groups -/
theorem cl_ck1 {T : St} {n : Nat} (hs : Sm T) (hT : Bd b T) (hb : b < 2 ^ 28) (hn : n ≤ b) (hD : T 0 2 ≤ b) : ∀ (d i fu : Nat) (S : St) (M : Mem), i + d = 4 → d < fu → RC (M k) S → (∀ f j, ¬ (f = 0 ∧ j = 4) → S f j = T f j) → S 0 4 = mg T n i →
    ∃ M' S', itr (f_X2_appendCheckpoint_L32 k) (fun _ _ _ => none) fu M (nI n) (nI i) = some (nI n, M') ∧ RC (M' k) S' ∧ Fr k M M' ∧ S' 0 4 = mp T n 8 ∧ S' 0 2 = T 0 2 + (n - T 0 2) ∧ (∀ p, p < 8 → S' 15 p = if (T 0 7).testBit p then T 5 p else 0) ∧ (∀ p, 8 ≤ p → S' 15 p = T 15 p) ∧ (∀ f j, ¬ (f = 0 ∧ (j = 4 ∨ j = 2)) → f ≠ 15 → S' f j = T f j) := by
  intro d
  induction d with
  | zero =>
    intro i fu S M hi hf h hST h4
    obtain ⟨f, rfl⟩ : ∃ f, fu = f + 1 := ⟨fu - 1, by omega⟩
    have hi : i = 4 := by omega
    subst hi
    obtain ⟨M', S', e1, r1, f1, g1, g2, g3, g4, g5⟩ := cl_ck2 (k := k) (n := n) hs hT hb hn hD 8 0 FU S M (by omega) (by decide) h (fun f j a c => hST f j a) h4
    refine ⟨M', S', ?_, r1, f1, g1, g2, fun p hp => g3 p (by omega) hp, fun p hp => (g4 p (by omega)).trans (hST 15 p (by omega)), g5⟩
    rw [itr_s, f_X2_appendCheckpoint_L32, if_pos (by decide)]
    exact e1
  | succ d ih =>
    intro i fu S M hi hf h hST h4
    obtain ⟨f, rfl⟩ : ∃ f, fu = f + 1 := ⟨fu - 1, by omega⟩
    have eO : S 0 8 = T 0 8 := hST 0 8 (by omega)
    have e6 : S 6 i = T 6 i := hST 6 i (by omega)
    have ho := h.1.2.2.2.2.2.2.2.2
    have h6 := hT 6 i
    have hs3 := hs.2.2.1
    have hm := mg_le (S := T) (n := n) i
    have hg := (h.2.2.1 i (by omega)).1
    have hx := h.1.2.2.2.2.1
    rw [itr_s, f_X2_appendCheckpoint_L32, if_neg (by rw [nl4, nL_le (by omega) (by omega)]; omega), ho, eO, bit8 _ (by omega) i (by omega)]
    cases q : (T 0 8).testBit i
    · rw [if_neg (show ¬ (b01 false = 1) by decide)]
      simp only [f_X2_appendCheckpoint_L69, bd]
      rw [nI_1]
      exact ih (i + 1) f S M (by omega) (by omega) h hST (by rw [h4, mg, if_neg (by rw [q]; decide)])
    · rw [if_pos (show b01 true = 1 from rfl)]
      simp only [f_X2_appendCheckpoint_L69, bd, gd_in (show i < 4 by omega) (show i < 2 ^ 31 by omega)]
      have z3 : (if nI (T 6 i) < nI (mg T n i) then nI (T 6 i) else nI (mg T n i)) = nI (mg T n (i + 1)) := by
        rw [mg, if_pos q]
        by_cases z : T 6 i < mg T n i
        · rw [if_pos z, if_pos (by rw [nL_lt (by omega) (by omega)]; exact z)]
        · rw [if_neg z, if_neg (by rw [nL_lt (by omega) (by omega)]; exact z)]
      rw [nL_cl (by omega), nI_1, hg, hx, h4, e6, z3]
      obtain ⟨M', S', e1, r1, f1, g1⟩ := ih (i + 1) f (wdl S (mg T n (i + 1))) (st M k 11 11 (nI (mg T n (i + 1)))) (by omega) (by omega) (RC_dl h _) (fun f' j' a => by simp only [wdl, up]; rw [if_neg a]; exact hST f' j' a) (by simp [wdl, up])
      exact ⟨M', S', e1, r1, (Fr.rf.st).tr f1, g1⟩
end CO3
