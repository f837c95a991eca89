def rs1 (S : St) : St × Nat := rdo (look S).2 (S 0 1) (S 0 0) (S, 0)
def rs2 (S : St) : St × Nat × (Nat → Bool) × Nat := tlb (S 0 0 - 1) (S 0 1) ((rs1 S).1, (look S).1, (fun _ => false), 0)
def aRest (S : St) : Int32 × St := if S 0 5 = 0 then (-1000002, S) else (nI (rs1 S).2, up (up (frc (rs2 S).1 ((rs2 S).1 0 0 + (rs2 S).1 0 1 - 1)) 0 5 0) 0 9 (S 0 9 + (rs1 S).2))
section CR6
variable {j b : Nat} {M : Mem} {S : St}
theorem cl_take (hj : j ≠ 7) {ls lo : Nat} (h : RC (M j) S) (hl : Lp b S) (hb : b + S 0 1 < 2 ^ 28) (e0 : S 0 0 = lo + 1) (hz : S 0 1 = 0 → S 0 0 = 1) (hN : (tlb lo (S 0 1) (S, ls, (fun _ => false), 0)).1 0 1 ≤ 128) (hx : ls < 16) (h3 : M 7 20 3 = nI ls) :
    ∃ M', f_X5_takeLosersBack j M = some M' ∧ RC (M' j) (tlb lo (S 0 1) (S, ls, (fun _ => false), 0)).1 ∧ Lp (b + S 0 1) (tlb lo (S 0 1) (S, ls, (fun _ => false), 0)).1 ∧ (tlb lo (S 0 1) (S, ls, (fun _ => false), 0)).1 0 0 = lo + 1 ∧ M' 7 20 5 = nI (tlb lo (S 0 1) (S, ls, (fun _ => false), 0)).2.2.2 ∧ (∀ i, i ≠ j → i ≠ 7 → M' i = M i) ∧ (∀ i, i ≠ 5 → M' 7 20 i = M 7 20 i) := by
  have hN0 : S 0 1 ≤ (tlb lo (S 0 1) (S, ls, (fun _ => false), 0)).1 0 1 := tlb_mono lo (S 0 1) (S, ls, (fun _ => false), 0)
  have lp : ∀ d i fu (M : Mem), i + d = 128 → d < fu → RC (M j) S → M 7 20 3 = nI ls → M 7 20 5 = nI 0 → (∀ k, k < i → M 7 22 k = 0) →
      ∃ M', itr (f_X5_takeLosersBack_L12 j) (fun _ _ => none) fu M (nI i) = some M' ∧ RC (M' j) (tlb lo (S 0 1) (S, ls, (fun _ => false), 0)).1 ∧ Lp (b + S 0 1) (tlb lo (S 0 1) (S, ls, (fun _ => false), 0)).1 ∧ (tlb lo (S 0 1) (S, ls, (fun _ => false), 0)).1 0 0 = lo + 1 ∧ M' 7 20 5 = nI (tlb lo (S 0 1) (S, ls, (fun _ => false), 0)).2.2.2 ∧ (∀ i, i ≠ j → i ≠ 7 → M' i = M i) ∧ (∀ i, i ≠ 5 → M' 7 20 i = M 7 20 i) := by
    intro d
    induction d with
    | zero =>
      intro i fu M hi hf h h3 h5 hk
      obtain ⟨f, rfl⟩ : ∃ f, fu = f + 1 := ⟨fu - 1, by omega⟩
      have hi : i = 128 := by omega
      subst hi
      obtain ⟨M', a1, a2, a3, a4, a5, a6, a7, a8, a9⟩ := cl_tl (j := j) hj (S 0 1) FU b (S, ls, (fun _ => false), 0) M lo h hl hb e0 (Nat.le_refl _) hN (by show _ < 10000; omega) hx (fun i hi => by rw [hk i hi]; rfl) h5
      refine ⟨M', ?_, a2, a3, a4, a7, a8, a9⟩
      have eL : (if S 0 1 = 0 then 0 else S 0 0 + S 0 1 - 1) = lo + S 0 1 := by
        by_cases z : S 0 1 = 0
        · have := hz z
          rw [if_pos z]; omega
        · rw [if_neg z]; omega
      have hb4 := hl.2.2.1
      have hb5 := hl.2.2.2.1
      have hl0 := hl.1 0 0
      have hl1 := hl.1 0 1
      have el : f_X2_last j M = some (nI (lo + S 0 1)) := by
        rw [f_X2_last, h.1.2.1, h.1.1, nI_add]
        by_cases z : S 0 1 = 0
        · have := hz z
          rw [if_pos (by rw [z]; rfl), show lo + S 0 1 = 0 by omega]
          rfl
        · rw [if_neg (by rw [nl0, nL_eq (by omega) (by omega)]; exact z), nl1, nL_sub (by omega), show S 0 0 + S 0 1 - 1 = lo + S 0 1 by omega]
      rw [itr_s, f_X5_takeLosersBack_L12, if_pos (by decide), bd, el, bO, h3]
      exact a1
    | succ d ih =>
      intro i fu M hi hf h h3 h5 hk
      obtain ⟨f, rfl⟩ : ∃ f, fu = f + 1 := ⟨fu - 1, by omega⟩
      have hM : st M 7 22 i (0 : Int32) j = M j := st_fr hj
      obtain ⟨M', a1, a2, a3, a4, a5, a6, a7⟩ := ih (i + 1) f (st M 7 22 i (0 : Int32)) (by omega) (by omega) (by rw [hM]; exact h) (by rw [st_get, if_neg (by omega)]; exact h3) (by rw [st_get, if_neg (by omega)]; exact h5) (fun k hk2 => by
        rw [st_get]
        by_cases e : k = i
        · rw [if_pos ⟨rfl, rfl, e⟩]
        · rw [if_neg (by omega)]; exact hk k (by omega))
      refine ⟨M', ?_, a2, a3, a4, a5, fun i c1 c2 => (a6 i c1 c2).trans (st_fr c2), fun i c => (a7 i c).trans (by rw [st_get, if_neg (by omega)])⟩
      rw [itr_s, f_X5_takeLosersBack_L12, if_neg (by rw [nl128, nL_le (by omega) (by omega)]; omega), gd_in (by omega) (by omega), bd, bd, nL_cl (by omega), nI_1]
      exact a1
  have hM : st M 7 20 5 (0 : Int32) j = M j := st_fr hj
  obtain ⟨M', a1, a2, a3, a4, a5, a6, a7⟩ := lp 128 0 FU (st M 7 20 5 (0 : Int32)) (by omega) (by decide) (by rw [hM]; exact h) (by rw [st_get, if_neg (by omega)]; exact h3) (by rw [st_get, if_pos ⟨rfl, rfl, rfl⟩]; rfl) (fun k hk => by omega)
  refine ⟨M', ?_, a2, a3, a4, a5, fun i c1 c2 => (a6 i c1 c2).trans (st_fr c2), fun i c => (a7 i c).trans (by rw [st_get, if_neg (by omega)])⟩
  rw [f_X5_takeLosersBack, bd]
  exact a1
end CR6
