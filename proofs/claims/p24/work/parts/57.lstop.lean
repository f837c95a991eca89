/-! stops and restarts -/
section LST
variable {M : Mem} {S T : St} {O : Nat → Bool} {b p g n t : Nat}
theorem LO_rw {M' : Mem} (h : LO O M S) (e : ∀ r, 28 ≤ r → r ≤ 32 → M' 11 r = M 11 r) : LO O M' S := by
  obtain ⟨h1, h2, h3, h4, h5⟩ := h
  unfold LO
  rw [e 28 (by omega) (by omega), e 29 (by omega) (by omega), e 30 (by omega) (by omega), wd_cg (e 31 (by omega) (by omega)), e 32 (by omega) (by omega)]
  exact ⟨h1, h2, h3, h4, h5⟩
/-- emptying the cache -/
theorem l_emp : ∀ (d i fu : Nat) (M : Mem) (y : Int32), i + d = 8 → d < fu → ∃ M', itr (f_L_stop_L152) (fun _ _ _ => none) fu M y (nI i) = itr (f_L_stop_L178) (fun _ _ _ => none) FU M' y 0 ∧ FQ R30 M M' ∧ (∀ j, M' 11 30 j = if 6 * i + 2 ≤ j ∧ j < 48 ∧ j % 6 = 2 then 0 else M 11 30 j) := by
  intro d
  induction d with
  | zero =>
    intro i fu M y hi hf
    obtain ⟨f, rfl⟩ : ∃ f, fu = f + 1 := ⟨fu - 1, by omega⟩
    have hi : i = 8 := by omega
    subst hi
    refine ⟨M, ?_, FQ.rf, fun j => ?_⟩
    · rw [itr_s, f_L_stop_L152, if_pos (by decide)]
    · rw [if_neg (by omega)]
  | succ d ih =>
    intro i fu M y hi hf
    obtain ⟨f, rfl⟩ : ∃ f, fu = f + 1 := ⟨fu - 1, by omega⟩
    obtain ⟨M', e1, f1, g1⟩ := ih (i + 1) f (st M 11 30 (6 * i + 2) 0) y (by omega) (by omega)
    refine ⟨M', ?_, (FQ.st (R := R30) FQ.rf rfl).tr f1, fun j => ?_⟩
    · rw [itr_s, f_L_stop_L152, if_neg (by rw [nl8, nL_le (by omega) (by omega)]; omega), nl2, g6c i 2 (by omega) (by omega), c6 i 2 (by omega) (by omega), bd, bd, nI_1]
      exact e1
    · rw [g1, sgr_at]
      by_cases q : 6 * (i + 1) + 2 ≤ j ∧ j < 48 ∧ j % 6 = 2
      · rw [if_pos q, if_pos (by omega)]
      · rw [if_neg q]
        by_cases q2 : j = 6 * i + 2
        · rw [if_pos q2, if_pos (by omega)]
        · rw [if_neg q2, if_neg (by omega)]
theorem l_cls : ∀ (d i fu : Nat) (M : Mem) (y : Int32), i + d = 16 → d < fu → ∃ M', itr (f_L_stop_L178) (fun _ _ _ => none) fu M y (nI i) = some (y, M') ∧ FQ (fun r => r = 28 ∨ r = 29) M M' ∧ (∀ j, M' 11 29 j = if i ≤ j ∧ j < 16 then 0 else M 11 29 j) ∧ (∀ j, M' 11 28 j = if j = 3 then 1 else M 11 28 j) := by
  intro d
  induction d with
  | zero =>
    intro i fu M y hi hf
    obtain ⟨f, rfl⟩ : ∃ f, fu = f + 1 := ⟨fu - 1, by omega⟩
    have hi : i = 16 := by omega
    subst hi
    refine ⟨st M 11 28 3 1, ?_, FQ.st FQ.rf (Or.inl rfl), fun j => ?_, fun j => sgr_at _ _ _ _ _⟩
    · rw [itr_s, f_L_stop_L178, if_pos (by decide), bd]
    · rw [sgr_ne (by omega), if_neg (by omega)]
  | succ d ih =>
    intro i fu M y hi hf
    obtain ⟨f, rfl⟩ : ∃ f, fu = f + 1 := ⟨fu - 1, by omega⟩
    obtain ⟨M', e1, f1, g1, g2⟩ := ih (i + 1) f (st M 11 29 i 0) y (by omega) (by omega)
    refine ⟨M', ?_, (FQ.st FQ.rf (Or.inr rfl)).tr f1, fun j => ?_, fun j => ?_⟩
    · rw [itr_s, f_L_stop_L178, if_neg (by rw [nl16, nL_le (by omega) (by omega)]; omega), gd_in (by omega) (by omega), nL_cl (by omega), bd, bd, nI_1]
      exact e1
    · rw [g1, sgr_at]
      by_cases q : i + 1 ≤ j ∧ j < 16
      · rw [if_pos q, if_pos (by omega)]
      · rw [if_neg q]
        by_cases q2 : j = i
        · rw [if_pos q2, if_pos (by omega)]
        · rw [if_neg q2, if_neg (by omega)]
    · rw [g2, sgr_ne (by omega)]
theorem stp_o {f i t : Nat} (h : ¬ (f = 0 ∧ (i = 1 ∨ i = 2 ∨ i = 5 ∨ i = 6 ∨ i = 7 ∨ i = 8))) : stp S t f i = S f i := by
  unfold stp emp los
  rw [up_ne (by omega), up_ne (by omega), up_ne (by omega), up_ne (by omega), up_ne (by omega), up_ne (by omega)]
theorem stp_v (t : Nat) : stp S t 0 1 = mst S t + 1 - S 0 0 ∧ stp S t 0 2 = mst S t ∧ stp S t 0 5 = 1 ∧ stp S t 0 6 = 0 ∧ stp S t 0 7 = 0 ∧ stp S t 0 8 = 0 := by
  refine ⟨?_, ?_, ?_, ?_, ?_, ?_⟩ <;> simp [stp, emp, los, up, mst]
theorem l_stop_end (h : LO O M S) (hv : Inv b S) {e : Nat} (he : e = 0 ∨ (e = 1 ∧ 1 ≤ S 0 2)) (em : S 0 2 - e = mst S t) : ∃ M', f_L_stop_L139 M (nI (S 0 1 - (mst S t + 1 - S 0 0))) (nI e) (nI (S 0 2)) 2 = some (nI (S 0 1 - (mst S t + 1 - S 0 0)), M') ∧ LSt M' (stp S t) ∧ ∀ g, g ≠ 11 → M' g = M g := by
  obtain ⟨⟨n1, ⟨n2, n2'⟩, n3, n4, n5, n6, n7, n8, n9⟩, hj, hpi, hr, hst⟩ := id hv
  obtain ⟨m1, m2, m3, m4⟩ := mst_spec hj t
  obtain ⟨⟨g0, g1, g2, g3, g4⟩, hq, hp, hR, hl⟩ := h
  have y1 := n1 0 1
  have y2 := n1 0 2
  obtain ⟨Ma, ea⟩ : ∃ Ma, Ma = st (st M 11 28 2 (nI (mst S t))) 11 28 1 (nI (mst S t + 1 - S 0 0)) := ⟨_, rfl⟩
  obtain ⟨Mb, e1, f1, c1⟩ := l_emp 8 0 FU Ma (nI (S 0 1 - (mst S t + 1 - S 0 0))) rfl (by decide)
  obtain ⟨Mc, e2, f2, c2, c3⟩ := l_cls 16 0 FU Mb (nI (S 0 1 - (mst S t + 1 - S 0 0))) rfl (by decide)
  have fa : FQ R28 M Ma := by rw [ea]; exact FQ.st (FQ.st FQ.rf rfl) rfl
  refine ⟨Mc, ?_, ?_, fun g hg => (f2.o g hg).trans ((f1.o g hg).trans (fa.o g hg))⟩
  · rw [f_L_stop_L139, nl2, gd_in (by omega) (by omega), nL_cl (by omega), nL_sub (by omega), em, bd, sgr_at, if_neg (by omega), g1, nL_sub (by omega), bd, show S 0 1 - (S 0 1 - (mst S t + 1 - S 0 0)) = mst S t + 1 - S 0 0 by omega, ← ea]
    exact e1.trans e2
  · obtain ⟨v1, v2, v5, v6, v7, v8⟩ := stp_v (S := S) t
    have r28 : ∀ j, Mc 11 28 j = if j = 3 then 1 else if j = 1 then nI (mst S t + 1 - S 0 0) else if j = 2 then nI (mst S t) else M 11 28 j := fun j => by
      rw [c3, f1 11 28 (by omega), ea, sgr_at, sgr_at]
    have r29 : ∀ j, j < 16 → Mc 11 29 j = 0 := fun j hj => by rw [c2, if_pos ⟨Nat.zero_le _, hj⟩]
    have r30 : ∀ j, Mc 11 30 j = if 6 * 0 + 2 ≤ j ∧ j < 48 ∧ j % 6 = 2 then 0 else M 11 30 j := fun j => by
      rw [f2 11 30 (by omega), c1, fa 11 30 (by omega)]
    have r31 : Mc 11 31 = M 11 31 := by rw [f2 11 31 (by omega), f1 11 31 (by omega), fa 11 31 (by omega)]
    have r32 : Mc 11 32 = M 11 32 := by rw [f2 11 32 (by omega), f1 11 32 (by omega), fa 11 32 (by omega)]
    refine ⟨⟨?_, ?_, ?_, ?_, ?_⟩, fun g hg => ?_, fun p hp8 => ?_, fun j hj' => ?_, ?_⟩
    · rw [r28, if_neg (by omega), if_neg (by omega), if_neg (by omega), stp_o (by omega)]; exact g0
    · rw [r28, if_neg (by omega), if_pos rfl, v1]
    · rw [r28, if_neg (by omega), if_neg (by omega), if_pos rfl, v2]
    · rw [r28, if_pos rfl, v5]; rfl
    · rw [r28, if_neg (by omega), if_neg (by omega), if_neg (by omega), stp_o (by omega)]; exact g4
    · rw [r29 _ (by omega)]
      show (0 : Int32) = b01 ((stp S t 0 8).testBit g) ∧ ((stp S t 0 8).testBit g = true → _)
      rw [v8, Nat.zero_testBit]
      exact ⟨rfl, fun z => nomatch z⟩
    · obtain ⟨⟨h0, h00⟩, h1, h2, h3, h4⟩ := hp p hp8
      rw [v6, v7, Nat.zero_testBit, stp_o (by omega), stp_o (by omega)]
      refine ⟨⟨?_, h00⟩, ?_, ?_, fun z => (nomatch z), fun z => (nomatch z)⟩
      · rw [r30, if_neg (by omega)]; exact h0
      · rw [r30, if_neg (by omega)]; exact h1
      · rw [r30, if_pos (by omega)]; rfl
    · rw [v1] at hj'
      rw [wd_cg r31, stp_o (by omega)]
      exact RF_cg (hR j (by omega)) (fun f a c => stp_o (by omega))
    · rw [r32]
      exact LN_cg hl (stp_o (by omega)) (fun p _ => stp_o (by omega))
theorem l_torn (h : LO O M S) (hv : Inv b S) (y5 : Int32) : ∀ (d i fu : Nat) (c : Bool), i + d = 8 → d < fu → ∃ r : Bool, itr (f_L_stop_L70) (fun _ _ _ _ => none) fu M y5 (b01 c) (nI i) = f_L_stop_L110 M y5 (b01 r) ∧ (r = true ↔ (c = true ∧ ∀ p, i ≤ p → p < 8 → S 2 p < S 0 2)) := by
  have n1 := hv.1.1
  have n3 := hv.1.2.2.1
  have y2 := n1 0 2
  intro d
  induction d with
  | zero =>
    intro i fu c hi hf
    obtain ⟨f, rfl⟩ : ∃ f, fu = f + 1 := ⟨fu - 1, by omega⟩
    have hi : i = 8 := by omega
    subst hi
    refine ⟨c, ?_, ⟨fun z => ⟨z, fun p a c => by omega⟩, fun z => z.1⟩⟩
    rw [itr_s, f_L_stop_L70, if_pos (by decide)]
  | succ d ih =>
    intro i fu c hi hf
    obtain ⟨f, rfl⟩ : ∃ f, fu = f + 1 := ⟨fu - 1, by omega⟩
    have yp := n1 2 i
    rw [itr_s, f_L_stop_L70, if_neg (by rw [nl8, nL_le (by omega) (by omega)]; omega)]
    cases c
    · rw [if_pos (show b01 false = 0 from rfl)]
      obtain ⟨r, e1, e2⟩ := ih (i + 1) f false (by omega) (by omega)
      refine ⟨r, ?_, ⟨fun z => (nomatch (e2.mp z).1), fun z => (nomatch z.1)⟩⟩
      rw [f_L_stop_L101, f_L_stop_L102, bd, nI_1]
      exact e1
    · rw [if_neg (show ¬ b01 true = 0 by decide), nl1, g6c i 1 (by omega) (by omega), c6 i 1 (by omega) (by omega), (h.2.2.1 i (by omega)).2.1, h.1.2.2.1]
      by_cases q : S 2 i < S 0 2
      · rw [if_neg (by rw [nL_le (by omega) (by omega)]; omega)]
        obtain ⟨r, e1, e2⟩ := ih (i + 1) f true (by omega) (by omega)
        refine ⟨r, ?_, e2.trans ⟨fun z => ⟨rfl, fun p a c => ?_⟩, fun z => ⟨rfl, fun p a c => z.2 p (by omega) c⟩⟩⟩
        · rw [f_L_stop_L102, bd, nI_1]
          exact e1
        · by_cases e : p = i
          · rw [e]; exact q
          · exact z.2 p (by omega) c
      · rw [if_pos (by rw [nL_le (by omega) (by omega)]; omega)]
        obtain ⟨r, e1, e2⟩ := ih (i + 1) f false (by omega) (by omega)
        refine ⟨r, ?_, ⟨fun z => (nomatch (e2.mp z).1), fun z => absurd (z.2 i (Nat.le_refl _) (by omega)) q⟩⟩
        rw [f_L_stop_L101, f_L_stop_L102, bd, nI_1]
        exact e1
theorem l_stop (h : LO O M S) (hv : Inv b S) (hN64 : S 0 1 ≤ 64) {t : Nat} (ht : t < 2) : ∃ M', f_L_stop M (nI t) = some (nI (S 0 1 - (mst S t + 1 - S 0 0)), M') ∧ LSt M' (stp S t) ∧ ∀ g, g ≠ 11 → M' g = M g := by
  obtain ⟨⟨n1, ⟨n2, n2'⟩, n3, n4, n5, n6, n7, n8, n9⟩, hj, hpi, hr, hst⟩ := id hv
  have y0 := n1 0 0
  have y1 := n1 0 1
  have y2 := n1 0 2
  have eL : nI (S 0 0 + S 0 1 - 1) - nI (S 0 2) = nI (S 0 1 - (S 0 2 + 1 - S 0 0)) := by
    rw [nL_sub (by omega)]
    congr 1
    omega
  have no : mst S t = S 0 2 → ∃ M', f_L_stop_L110 M (nI (S 0 1 - (S 0 2 + 1 - S 0 0))) (b01 false) = some (nI (S 0 1 - (mst S t + 1 - S 0 0)), M') ∧ LSt M' (stp S t) ∧ ∀ g, g ≠ 11 → M' g = M g := fun em => by
    obtain ⟨M', e1, e2, e3⟩ := l_stop_end (e := 0) (t := t) h hv (Or.inl rfl) (by rw [em]; rfl)
    refine ⟨M', ?_, e2, e3⟩
    rw [f_L_stop_L110, if_pos (show b01 false = 0 from rfl), f_L_stop_L122, nl0, nI_add, Nat.add_zero, bd, if_pos (show b01 false = nI 0 from rfl), h.1.2.2.1]
    rw [em] at e1 ⊢
    exact e1
  have yes : S 0 0 ≤ S 0 2 → mst S t = S 0 2 - 1 → ∃ M', f_L_stop_L110 M (nI (S 0 1 - (S 0 2 + 1 - S 0 0))) (b01 true) = some (nI (S 0 1 - (mst S t + 1 - S 0 0)), M') ∧ LSt M' (stp S t) ∧ ∀ g, g ≠ 11 → M' g = M g := fun q em => by
    obtain ⟨M', e1, e2, e3⟩ := l_stop_end (e := 1) (t := t) h hv (Or.inr ⟨rfl, by omega⟩) em.symm
    refine ⟨M', ?_, e2, e3⟩
    rw [f_L_stop_L110, if_neg (show ¬ b01 true = 0 by decide), f_L_stop_L122, nI_1, bd, if_neg (show ¬ b01 true = 0 by decide), h.1.2.2.1, show S 0 1 - (S 0 2 + 1 - S 0 0) + 1 = S 0 1 - (mst S t + 1 - S 0 0) by omega]
    exact e1
  rw [f_L_stop, l_last h.1 n5, bO_some, h.1.2.2.1, eL, bd]
  by_cases q1 : t = 1
  · rw [if_pos (by rw [q1]; rfl), h.1.1]
    by_cases q2 : S 0 0 ≤ S 0 2
    · rw [if_neg (by rw [nL_lt (by omega) (by omega)]; omega), f_L_stop_L30, if_neg (by decide), h.1.2.2.1, (l_rec h.1 h.2.2.2.1 hN64 q2 n7).1, bO_some]
      have w1 := (hj.1.1 _ q2 n7).1
      have fin : ∀ c : Bool, (c = true ↔ (S 9 (S 0 2) ≠ 2 ∧ S 9 (S 0 2) ≠ 5)) → ∃ M', itr (f_L_stop_L70) (fun _ _ _ _ => none) FU M (nI (S 0 1 - (S 0 2 + 1 - S 0 0))) (b01 c) (nI 0) = some (nI (S 0 1 - (mst S t + 1 - S 0 0)), M') ∧ LSt M' (stp S t) ∧ ∀ g, g ≠ 11 → M' g = M g := fun c hc => by
        obtain ⟨r, e1, e2⟩ := l_torn h hv (nI (S 0 1 - (S 0 2 + 1 - S 0 0))) 8 0 FU c rfl (by decide)
        rw [e1]
        have et : r = true ↔ tornC S = true := by
          rw [e2, hc]
          unfold tornC
          rw [Bool.and_eq_true, Bool.and_eq_true, Bool.and_eq_true, decide_eq_true_eq, decide_eq_true_eq, hmx_lt (by omega) 8]
          simp only [Bool.not_eq_true', decide_eq_false_iff_not]
          exact ⟨fun z => ⟨⟨⟨q2, fun p hp => z.2 p (Nat.zero_le _) hp⟩, z.1.1⟩, z.1.2⟩, fun z => ⟨⟨z.1.2, z.2⟩, fun p _ hp => z.1.1.2 p hp⟩⟩
        cases r
        · refine no ?_
          unfold mst
          rw [if_neg (fun z => by have := et.mpr z.2; exact nomatch this)]
        · refine yes q2 ?_
          unfold mst
          rw [if_pos ⟨q1, et.mp rfl⟩]
      by_cases k2 : S 9 (S 0 2) = 2
      · rw [if_pos (by rw [k2]; rfl), f_L_stop_L64, f_L_stop_L65]
        exact fin false ⟨fun z => (nomatch z), fun z => absurd k2 z.1⟩
      · rw [if_neg (by rw [nl2, nL_eq (by omega) (by omega)]; exact k2)]
        by_cases k5 : S 9 (S 0 2) = 5
        · rw [if_pos (by rw [k5]; rfl), f_L_stop_L64, f_L_stop_L65]
          exact fin false ⟨fun z => (nomatch z), fun z => absurd k5 z.2⟩
        · rw [if_neg (by rw [nl5, nL_eq (by omega) (by omega)]; exact k5), f_L_stop_L65]
          exact fin true ⟨fun _ => ⟨k2, k5⟩, fun _ => rfl⟩
    · rw [if_pos (by rw [nL_lt (by omega) (by omega)]; omega), f_L_stop_L29, f_L_stop_L30, if_pos rfl]
      refine no ?_
      unfold mst
      rw [if_neg]
      intro z
      have z := z.2
      unfold tornC at z
      rw [decide_eq_false q2] at z
      exact nomatch z
  · rw [if_neg (by rw [nl1, nL_eq (by omega) (by omega)]; exact q1), f_L_stop_L29, f_L_stop_L30, if_pos rfl]
    refine no ?_
    unfold mst
    rw [if_neg (fun z => q1 z.1)]
end LST
