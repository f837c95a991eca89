/-- T is S with one record more -/
def EX (S T : St) (kd g t : Nat) : Prop := T 0 0 = S 0 0 ∧ T 0 1 = S 0 1 + 1 ∧ (∀ n, n < S 0 0 + S 0 1 → T 9 n = S 9 n ∧ T 10 n = S 10 n ∧ T 11 n = S 11 n ∧ T 12 n = S 12 n ∧ T 14 n = S 14 n) ∧ T 9 (S 0 0 + S 0 1) = kd ∧ T 10 (S 0 0 + S 0 1) = g ∧ T 14 (S 0 0 + S 0 1) = t
/-- the latest checkpoint is the same -/
def SL (S T : St) : Prop := T 0 3 = S 0 3 ∧ T 0 4 = S 0 4 ∧ ∀ p, T 15 p = S 15 p
section IV
variable {S T : St} {kd g t : Nat}
theorem DL_cg (eF : T 0 0 = S 0 0) (hs : SL S T) (e : ∀ n, S 0 0 ≤ n → n < S 0 3 → T 9 n = S 9 n ∧ T 10 n = S 10 n) (h : DL S) : DL T := by
  obtain ⟨s3, s4, s15⟩ := hs
  obtain ⟨d1, d2, d3, d4⟩ := h
  refine ⟨by rw [s3, s4]; exact d1, fun g hg n hn hk => ?_, fun p hp => by rw [s15, s4]; exact d3 p hp, ?_⟩
  · rw [eF, s3] at hn
    have h1 := LB_cg (sy2 e) hn
    rw [s4]
    exact d2 g hg n h1 (by rw [← (e n h1.1 h1.2.1).1]; exact hk)
  · rw [s3, s4, eF]
    rcases d4 with d4 | ⟨g, hg, n, h1, h2, h3⟩ | ⟨p, hp, h1, h2⟩
    · exact Or.inl d4
    · exact Or.inr (Or.inl ⟨g, hg, n, LB_cg e h1, by rw [(e n h1.1 h1.2.1).1]; exact h2, h3⟩)
    · exact Or.inr (Or.inr ⟨p, hp, by rw [s15]; exact h1, by rw [s15]; exact h2⟩)
theorem JI_ext (h : JI S) (E : EX S T kd g t) (hs : SL S T) (hk : kd ≤ 4) (hg : g < 4) (hp : kd = 1 ∨ kd = 3 → T 11 (S 0 0 + S 0 1) < 8) (hD : S 0 2 ≤ T 0 2) (hD2 : T 0 2 ≤ S 0 0 + S 0 1) (hdm : ∀ p, p < 8 → T 2 p ≤ T 0 2)
    (h3 : kd = 3 → t < S 0 0 + S 0 1 ∧ (S 0 0 ≤ t → S 9 t = 1 ∧ S 10 t = g)) (h24 : kd = 2 ∨ kd = 4 → ∀ m, LB S g (S 0 0) (S 0 0 + S 0 1) m → S 9 m = 0) (hphi : phi T (S 0 0) (S 0 1 + 1) ≤ 120) : JI T := by
  obtain ⟨⟨w, f1, f2, f3⟩, l0, l1, k3, al, ph, dm⟩ := h
  obtain ⟨eF, eN, er, e9, e10, e14⟩ := E
  have hs0 := hs
  obtain ⟨s3, s4, s15⟩ := hs
  refine ⟨⟨fun n a1 a2 => ?_, by omega, by omega, by omega⟩, fun q => ?_, fun q => ?_, fun n a1 a2 hk3 => ?_, fun n a1 a2 hk m hm => ?_, by rw [eF, eN]; exact hphi, hdm⟩
  · by_cases q : n = S 0 0 + S 0 1
    · rw [q, e9, e10]
      exact ⟨by omega, fun _ => hg, hp⟩
    · obtain ⟨r9, r10, r11, -, -⟩ := er n (by omega)
      rw [r9, r10, r11]
      exact w n (by omega) (by omega)
  · obtain ⟨b1, b2⟩ := l0 (by omega)
    refine ⟨by omega, fun n a1 a2 => ?_⟩
    by_cases q : n = S 0 0 + S 0 1
    · rw [q, e9]; omega
    · rw [(er n (by omega)).1]
      exact b2 n (by omega) (by omega)
  · obtain ⟨c1, c2, c3, c4, c5, c6, c7, c8⟩ := l1 (by omega)
    have r := er (S 0 3) (by omega)
    have e' : ∀ n, S 0 0 ≤ n → n < S 0 3 → T 9 n = S 9 n ∧ T 10 n = S 10 n := fun n _ a2 => ⟨(er n (by omega)).1, (er n (by omega)).2.1⟩
    refine ⟨by omega, by omega, by rw [s3, r.1]; exact c3, fun n a1 a2 => ?_, by rw [s3, r.2.2.2.1]; exact c5, fun g' hg' => ?_, DL_cg eF hs0 e' c7, fun p hp => by rw [s15, eF]; exact c8 p hp⟩
    · by_cases q : n = S 0 0 + S 0 1
      · rw [q, e9]; omega
      · rw [(er n (by omega)).1]
        exact c4 n (by omega) (by omega)
    · rw [s3, eF, r.2.2.2.1]
      exact (c6 g' hg').trans ⟨OJ_cg e', OJ_cg (sy2 e')⟩
  · rw [eF] at a1
    by_cases q : n = S 0 0 + S 0 1
    · rw [q] at hk3 ⊢
      rw [e14, e10, eF]
      obtain ⟨b1, b2⟩ := h3 (by omega)
      refine ⟨b1, fun z => ?_⟩
      rw [(er t b1).1, (er t b1).2.1]
      exact b2 z
    · obtain ⟨r9, r10, r11, r12, r14⟩ := er n (by omega)
      rw [r9] at hk3
      obtain ⟨b1, b2⟩ := k3 n a1 (by omega) hk3
      rw [r14, r10, eF]
      refine ⟨b1, fun z => ?_⟩
      rw [(er _ (show S 14 n < _ by omega)).1, (er _ (show S 14 n < _ by omega)).2.1]
      exact b2 z
  · rw [eF] at a1 hm
    by_cases q : n = S 0 0 + S 0 1
    · rw [q] at hk hm
      rw [e10] at hm
      have e' : ∀ n, S 0 0 ≤ n → n < S 0 0 + S 0 1 → T 9 n = S 9 n ∧ T 10 n = S 10 n := fun n _ a2 => ⟨(er n a2).1, (er n a2).2.1⟩
      have h1 := LB_cg (sy2 e') hm
      rw [(er m h1.2.1).1]
      exact h24 (by omega) m h1
    · obtain ⟨r9, r10, r11, r12, r14⟩ := er n (by omega)
      rw [r9] at hk
      rw [r10] at hm
      have e' : ∀ k, S 0 0 ≤ k → k < n → T 9 k = S 9 k ∧ T 10 k = S 10 k := fun k _ a2 => ⟨(er k (by omega)).1, (er k (by omega)).2.1⟩
      have h1 := LB_cg (sy2 e') hm
      have h2 := h1.2.1
      rw [(er m (by omega)).1]
      exact al n a1 (by omega) hk m h1
/-- the same journal, perhaps more of it forced -/
theorem JI_same (h : JI S) (eF : T 0 0 = S 0 0) (eN : T 0 1 = S 0 1) (hs : SL S T) (er : ∀ n, T 9 n = S 9 n ∧ T 10 n = S 10 n ∧ T 11 n = S 11 n ∧ T 12 n = S 12 n ∧ T 14 n = S 14 n) (hD : S 0 2 ≤ T 0 2) (hD2 : T 0 2 < S 0 0 + S 0 1) (hdm : ∀ p, p < 8 → T 2 p ≤ T 0 2) : JI T := by
  obtain ⟨⟨w, f1, f2, f3⟩, l0, l1, k3, al, ph, dm⟩ := h
  have hs0 := hs
  obtain ⟨s3, s4, s15⟩ := hs
  have e' : ∀ lo hi n, lo ≤ n → n < hi → T 9 n = S 9 n ∧ T 10 n = S 10 n := fun _ _ n _ _ => ⟨(er n).1, (er n).2.1⟩
  refine ⟨⟨fun n a1 a2 => ?_, by omega, by omega, by omega⟩, fun q => ?_, fun q => ?_, fun n a1 a2 hk3 => ?_, fun n a1 a2 hk m hm => ?_, ?_, hdm⟩
  · obtain ⟨r9, r10, r11, -, -⟩ := er n
    rw [r9, r10, r11]
    exact w n (by omega) (by omega)
  · obtain ⟨b1, b2⟩ := l0 (by omega)
    refine ⟨by omega, fun n a1 a2 => ?_⟩
    rw [(er n).1]
    exact b2 n (by omega) (by omega)
  · obtain ⟨c1, c2, c3, c4, c5, c6, c7, c8⟩ := l1 (by omega)
    have r := er (S 0 3)
    refine ⟨by omega, by omega, by rw [s3, r.1]; exact c3, fun n a1 a2 => ?_, by rw [s3, r.2.2.2.1]; exact c5, fun g' hg' => ?_, DL_cg eF hs0 (e' _ _) c7, fun p hp => by rw [s15, eF]; exact c8 p hp⟩
    · rw [(er n).1]
      exact c4 n (by omega) (by omega)
    · rw [s3, eF, r.2.2.2.1]
      exact (c6 g' hg').trans ⟨OJ_cg (e' _ _), OJ_cg (sy2 (e' _ _))⟩
  · obtain ⟨r9, r10, r11, r12, r14⟩ := er n
    rw [r9] at hk3
    rw [r14, r10, eF, (er _).1, (er _).2.1]
    exact k3 n (by omega) (by omega) hk3
  · obtain ⟨r9, r10, r11, r12, r14⟩ := er n
    rw [r9] at hk
    rw [r10, eF] at hm
    rw [(er m).1]
    exact al n (by omega) (by omega) hk m (LB_cg (sy2 (e' _ _)) hm)
  · rw [eF, eN, phi_cg (S := S) (fun n _ => ⟨(er n).1, (er n).2.1, (er n).2.2.2.2⟩)]
    exact ph
def PP (S : St) (p : Nat) : Prop := ((S 0 7).testBit p = true ↔ ((S 0 6).testBit p = true ∧ S 4 p ≠ S 2 p)) ∧ ((S 0 6).testBit p = true → S 2 p ≤ S 4 p ∧ S 4 p < S 0 0 + S 0 1) ∧ ((S 0 7).testBit p = true → S 0 0 ≤ S 5 p ∧ S 5 p < S 0 0 + S 0 1 ∧ (S 0 3 ≠ 0 → S 0 4 ≤ S 5 p))
theorem PP_of {p : Nat} (h : PP S p) (e6 : (T 0 6).testBit p = (S 0 6).testBit p) (e7 : (T 0 7).testBit p = (S 0 7).testBit p) (e2 : T 2 p = S 2 p) (e4 : T 4 p = S 4 p) (e5 : T 5 p = S 5 p) (hh : S 0 0 + S 0 1 ≤ T 0 0 + T 0 1) (hF : (S 0 7).testBit p = true → T 0 0 ≤ S 5 p) (hL : (S 0 7).testBit p = true → T 0 3 ≠ 0 → T 0 4 ≤ S 5 p) : PP T p := by
  obtain ⟨h1, h2, h3⟩ := h
  unfold PP
  rw [e6, e7, e2, e4, e5]
  exact ⟨h1, fun q => ⟨(h2 q).1, by have := (h2 q).2; omega⟩, fun q => ⟨hF q, by have := (h3 q).2.1; omega, hL q⟩⟩
theorem put_g {p v n : Nat} : put S p v n 0 6 = (S 0 6 ||| 2 ^ p) ∧ put S p v n 0 7 = (S 0 7 ||| 2 ^ p) ∧ (∀ q, put S p v n 3 q = if q = p then v else S 3 q) ∧ (∀ q, put S p v n 4 q = if q = p then n else S 4 q) ∧ (∀ q, put S p v n 5 q = if q = p ∧ (S 0 7).testBit p = false then n else S 5 q) := by
  cases hq : (S 0 7).testBit p <;> simp [put, up, hq]
theorem put_w {p v n f i : Nat} (h : 5 < f ∨ f = 1 ∨ f = 2 ∨ (f = 0 ∧ i ≠ 6 ∧ i ≠ 7)) : put S p v n f i = S f i := put_o h
theorem PP_put {p v n : Nat} (hs : Sm S) (hp : p < 8) (h1 : S 0 0 ≤ n) (h2 : n < S 0 0 + S 0 1) (h3 : S 2 p < n) (h4 : S 0 3 ≠ 0 → S 0 4 ≤ n) {q : Nat} (hq : q < 8) (h : PP S q) : PP (put S p v n) q := by
  obtain ⟨g6, g7, g3, g4, g5⟩ := put_g (S := S) (p := p) (v := v) (n := n)
  have b6 := (tset8 _ hs.1 p hp).2 q hq
  have b7 := (tset8 _ hs.2.1 p hp).2 q hq
  obtain ⟨a1, a2, a3⟩ := h
  unfold PP
  rw [g6, g7, g4, g5, b6, b7, put_w (f := 2) (by omega), put_w (f := 0) (i := 0) (by omega), put_w (f := 0) (i := 1) (by omega), put_w (f := 0) (i := 3) (by omega), put_w (f := 0) (i := 4) (by omega)]
  by_cases e : q = p
  · subst e
    simp only [decide_true, Bool.or_true, true_and, if_true, true_iff, forall_const]
    refine ⟨by omega, ⟨by omega, h2⟩, ?_⟩
    cases hd : (S 0 7).testBit q
    · simp only [if_true]
      exact ⟨h1, h2, h4⟩
    · rw [if_neg (by decide)]
      exact a3 hd
  · simp only [e, decide_false, Bool.or_false, false_and, if_false]
    exact ⟨a1, a2, a3⟩
theorem GC_ext (h : GC S g) {g' : Nat} (hj : S 0 2 < S 0 0 + S 0 1) (E : EX S T kd g' t) (hne : g ≠ g' ∨ kd = 5) (hL : T 0 3 ≠ 0 → T 0 4 ≤ S 6 g) (e6 : T 6 g = S 6 g) (e7 : T 7 g = S 7 g) : GC T g := by
  obtain ⟨h1, h2, h3, h4, h5⟩ := h
  obtain ⟨eF, eN, er, e9, e10, e14⟩ := E
  have e' : ∀ n, S 0 0 ≤ n → n < S 0 0 + S 0 1 → T 9 n = S 9 n ∧ T 10 n = S 10 n := fun n _ a2 => ⟨(er n a2).1, (er n a2).2.1⟩
  have nb : ¬ bd4 T g (S 0 0 + S 0 1) := by
    unfold bd4
    rw [e9, e10]
    omega
  have hB := h1.2.1
  refine ⟨?_, ?_, fun q => by rw [e6]; exact hL q, fun n a1 a2 hk => ?_, ?_⟩
  · rw [eF, eN, e6, ← Nat.add_assoc]
    exact LB_up e' nb h1
  · rw [e6, (er _ hB).1]; exact h2
  · rw [e6] at a1
    by_cases q : n = S 0 0 + S 0 1
    · rw [q] at hk ⊢
      rw [e10]; omega
    · rw [(er n (by omega)).1] at hk
      rw [(er n (by omega)).2.1]
      exact h4 n a1 (by omega) hk
  · rw [e6, e7, eF, eN, show S 0 0 + (S 0 1 + 1) - S 6 g = (S 0 0 + S 0 1 - S 6 g) + 1 by omega, cnt, cI_0 (by
      show ¬ (T 9 (S 6 g + (S 0 0 + S 0 1 - S 6 g)) = 1 ∧ T 10 (S 6 g + (S 0 0 + S 0 1 - S 6 g)) = g)
      rw [show S 6 g + (S 0 0 + S 0 1 - S 6 g) = S 0 0 + S 0 1 by omega, e9, e10]
      omega), h5]
    refine cnt_cg _ (fun n a1 a2 => ?_)
    show _ ↔ (T 9 n = 1 ∧ T 10 n = g)
    rw [(er n (by omega)).1, (er n (by omega)).2.1]
/-- a write of the group itself -/
theorem GC_write (h : GC S g) (E : EX S T 1 g t) (hL : T 0 3 ≠ 0 → T 0 4 ≤ S 6 g) (e6 : T 6 g = S 6 g) (e7 : T 7 g = S 7 g + 1) : GC T g := by
  obtain ⟨h1, h2, h3, h4, h5⟩ := h
  obtain ⟨eF, eN, er, e9, e10, e14⟩ := E
  have e' : ∀ n, S 0 0 ≤ n → n < S 0 0 + S 0 1 → T 9 n = S 9 n ∧ T 10 n = S 10 n := fun n _ a2 => ⟨(er n a2).1, (er n a2).2.1⟩
  have nb : ¬ bd4 T g (S 0 0 + S 0 1) := by
    unfold bd4
    rw [e9, e10]
    omega
  have hB := h1.2.1
  refine ⟨?_, ?_, fun q => by rw [e6]; exact hL q, fun n a1 a2 hk => ?_, ?_⟩
  · rw [eF, eN, e6, ← Nat.add_assoc]
    exact LB_up e' nb h1
  · rw [e6, (er _ hB).1]; exact h2
  · rw [e6] at a1
    by_cases q : n = S 0 0 + S 0 1
    · rw [q] at hk; omega
    · rw [(er n (by omega)).1] at hk
      rw [(er n (by omega)).2.1]
      exact h4 n a1 (by omega) hk
  · rw [e6, e7, eF, eN, show S 0 0 + (S 0 1 + 1) - S 6 g = (S 0 0 + S 0 1 - S 6 g) + 1 by omega, cnt, cI_1 (by
      show T 9 (S 6 g + (S 0 0 + S 0 1 - S 6 g)) = 1 ∧ T 10 (S 6 g + (S 0 0 + S 0 1 - S 6 g)) = g
      rw [show S 6 g + (S 0 0 + S 0 1 - S 6 g) = S 0 0 + S 0 1 by omega, e9, e10]
      exact ⟨rfl, rfl⟩), h5]
    congr 1
    refine cnt_cg _ (fun n a1 a2 => ?_)
    show _ ↔ (T 9 n = 1 ∧ T 10 n = g)
    rw [(er n (by omega)).1, (er n (by omega)).2.1]
theorem GC_new (h : JI S) (E : EX S T 0 g t) (e6 : T 6 g = S 0 0 + S 0 1) (e7 : T 7 g = 0) (hL : T 0 3 ≠ 0 → T 0 4 ≤ S 0 0 + S 0 1) : GC T g := by
  obtain ⟨eF, eN, er, e9, e10, e14⟩ := E
  refine ⟨?_, by rw [e6, e9], fun q => by rw [e6]; exact hL q, fun n a1 a2 hk => by rw [e6] at a1; omega, ?_⟩
  · rw [eF, eN, e6, ← Nat.add_assoc]
    exact LB_new (by omega) ⟨Or.inl e9, e10⟩
  · rw [e6, e7, eF, eN, show S 0 0 + (S 0 1 + 1) - (S 0 0 + S 0 1) = 0 + 1 by omega, cnt, cnt, cI_0 (by
      show ¬ (T 9 (S 0 0 + S 0 1 + 0) = 1 ∧ _)
      rw [Nat.add_zero, e9]
      omega)]
/-- the same journal -/
theorem GC_same (h : GC S g) (eF : T 0 0 = S 0 0) (eN : T 0 1 = S 0 1) (er : ∀ n, T 9 n = S 9 n ∧ T 10 n = S 10 n ∧ T 11 n = S 11 n ∧ T 12 n = S 12 n ∧ T 14 n = S 14 n) (hL : T 0 3 ≠ 0 → T 0 4 ≤ S 6 g) (e6 : T 6 g = S 6 g) (e7 : T 7 g = S 7 g) : GC T g := by
  obtain ⟨h1, h2, h3, h4, h5⟩ := h
  refine ⟨?_, ?_, fun q => by rw [e6]; exact hL q, fun n a1 a2 hk => ?_, ?_⟩
  · rw [eF, eN, e6]
    exact LB_cg (fun n _ _ => ⟨(er n).1, (er n).2.1⟩) h1
  · rw [e6, (er _).1]; exact h2
  · rw [e6] at a1
    rw [(er n).1] at hk
    rw [(er n).2.1]
    exact h4 n a1 (by omega) hk
  · rw [e6, e7, eF, eN, h5]
    refine cnt_cg _ (fun n a1 a2 => ?_)
    show _ ↔ (T 9 n = 1 ∧ T 10 n = g)
    rw [(er n).1, (er n).2.1]
theorem Nm_of {b : Nat} (h : JI S) (hB : Bd b S) (hb : 256 ≤ b) (hb2 : S 0 0 + S 0 1 ≤ b) (hb3 : b < 2 ^ 27) (hs : Sm S) : Nm b S := by
  obtain ⟨⟨w, f1, f2, f3⟩, l0, l1, k3, al, ph, dm⟩ := h
  refine ⟨hB, ⟨hb, hb2⟩, hb3, ?_, f1, f2, f3, fun q => ?_, hs⟩
  · unfold phi at ph; omega
  · by_cases z : S 0 3 = 0
    · exact (l0 z).1
    · have c := l1 z
      have c1 := c.1
      have c2 := c.2.1
      omega
theorem Inv_le {b b' : Nat} (h : Inv b S) (hb : b ≤ b') (hb3 : b' < 2 ^ 27) : Inv b' S := by
  obtain ⟨⟨n1, n2, n3, n4, n5, n6, n7, n8, n9⟩, h2⟩ := h
  exact ⟨⟨Bd_le n1 hb, by omega, hb3, n4, n5, n6, n7, n8, n9⟩, h2⟩
end IV
