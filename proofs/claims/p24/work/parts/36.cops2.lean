def WF (S : St) : Prop := ∀ n, S 0 0 ≤ n → n < S 0 0 + S 0 1 → S 9 n ≤ 5 ∧ (S 9 n ≠ 5 → S 10 n < 4) ∧ ((S 9 n = 1 ∨ S 9 n = 3) → S 11 n < 8)
section CO2
variable {k b : Nat} {M : Mem} {S : St}
theorem app_F {a1 a2 a3 a4 a5 a6 : Nat} : app S a1 a2 a3 a4 a5 a6 0 0 = S 0 0 := by simp [app, up]
theorem app_N {a1 a2 a3 a4 a5 a6 : Nat} : app S a1 a2 a3 a4 a5 a6 0 1 = S 0 1 + 1 := by simp [app, up]
theorem app_r {a1 a2 a3 a4 a5 a6 n : Nat} : app S a1 a2 a3 a4 a5 a6 9 n = (if n = S 0 0 + S 0 1 then a1 else S 9 n) ∧ app S a1 a2 a3 a4 a5 a6 10 n = (if n = S 0 0 + S 0 1 then a2 else S 10 n) ∧ app S a1 a2 a3 a4 a5 a6 11 n = (if n = S 0 0 + S 0 1 then a3 else S 11 n) ∧ app S a1 a2 a3 a4 a5 a6 12 n = (if n = S 0 0 + S 0 1 then a4 else S 12 n) ∧ app S a1 a2 a3 a4 a5 a6 13 n = (if n = S 0 0 + S 0 1 then a5 else S 13 n) ∧ app S a1 a2 a3 a4 a5 a6 14 n = (if n = S 0 0 + S 0 1 then a6 else S 14 n) := by simp [app, up]
theorem app_o {a1 a2 a3 a4 a5 a6 f i : Nat} (h : f < 9 ∨ 14 < f) (h2 : ¬ (f = 0 ∧ i = 1)) : app S a1 a2 a3 a4 a5 a6 f i = S f i := by
  simp only [app, up]
  rw [if_neg h2, if_neg (by omega), if_neg (by omega), if_neg (by omega), if_neg (by omega), if_neg (by omega), if_neg (by omega)]
theorem put_o {p v n f i : Nat} (h : 5 < f ∨ f = 1 ∨ f = 2 ∨ (f = 0 ∧ i ≠ 6 ∧ i ≠ 7)) : put S p v n f i = S f i := by
  unfold put
  simp only [up]
  rw [if_neg (by omega), if_neg (by omega), if_neg (by omega), if_neg (by omega)]
  split
  · rfl
  · simp only [up]
    rw [if_neg (by omega)]
theorem cl_atI (h : RC (M k) S) (hB : Bd b S) (hb : b < 2 ^ 29) (hN : S 0 1 ≤ 128) {rw n : Nat} (hn : n < 2 ^ 30) (h1 : S 0 0 ≤ n) (h2 : n < S 0 0 + S 0 1) : f_X2_at k rw M (nI n) = some (M k rw (n - S 0 0)) := by
  rw [cl_at h hB hb hN hn, if_pos ⟨h1, h2⟩]
theorem WF_app (h : WF S) {a1 a2 a3 a4 a5 a6 : Nat} (hk : a1 ≤ 5) (hg : a1 ≠ 5 → a2 < 4) (hp : a1 = 1 ∨ a1 = 3 → a3 < 8) : WF (app S a1 a2 a3 a4 a5 a6) := by
  intro n h1 h2
  rw [app_F] at h1 h2
  rw [app_N] at h2
  obtain ⟨r1, r2, r3, -, -, -⟩ := app_r (S := S) (a1 := a1) (a2 := a2) (a3 := a3) (a4 := a4) (a5 := a5) (a6 := a6) (n := n)
  rw [r1, r2, r3]
  by_cases q : n = S 0 0 + S 0 1
  · simp only [q, if_true]
    exact ⟨hk, hg, hp⟩
  · simp only [q, if_false]
    exact h n h1 (by omega)
theorem WF_put (h : WF S) {p v n : Nat} : WF (put S p v n) := by
  intro m h1 h2
  rw [put_o (by omega)] at h1
  rw [put_o (by omega), put_o (by omega)] at h2
  rw [put_o (by omega), put_o (by omega), put_o (by omega)]
  exact h m h1 h2
theorem Bd_put (h : Bd b S) {p v n : Nat} (hs : Sm S) (hb : 256 ≤ b) (hp : p < 8) (hv : v ≤ b) (hn : n ≤ b) : Bd b (put S p v n) := by
  have e1 := (tset8 _ hs.1 p hp).1
  have e2 := (tset8 _ hs.2.1 p hp).1
  unfold put
  split
  · exact Bd_up (Bd_up (Bd_up (Bd_up h hv) hn) (by omega)) (by omega)
  · exact Bd_up (Bd_up (Bd_up (Bd_up (Bd_up h hn) hv) hn) (by omega)) (by omega)
theorem val_le (h : Bd b S) {p : Nat} : val S p ≤ b := by
  unfold val
  split
  · exact h 3 p
  · exact h 1 p
theorem mrk_le (h : Bd b S) {p : Nat} : mrk S p ≤ b := by
  unfold mrk
  split
  · exact h 4 p
  · exact h 2 p
/-- what a loop that takes writes back keeps, from N records on -/
def Lp (b : Nat) (S : St) : Prop := Bd b S ∧ 256 ≤ b ∧ b < 2 ^ 28 ∧ S 0 0 + S 0 1 ≤ b ∧ Sm S ∧ WF S
theorem Lp_twb (h : Lp b S) {n : Nat} (h1 : S 0 0 ≤ n) (h2 : n < S 0 0 + S 0 1) (hk : S 9 n = 1) (hb : b + 1 < 2 ^ 28) : Lp (b + 1) (twb S n) := by
  obtain ⟨hB, hb1, hb2, hb3, hs, hw⟩ := h
  obtain ⟨w1, w2, w3⟩ := hw n h1 h2
  have w2 := w2 (by omega)
  have w3 := w3 (Or.inl hk)
  have o := hB 12 n
  have B1 : Bd (b + 1) (app S 3 (S 10 n) (S 11 n) (val S (S 11 n)) (S 12 n) n) := Bd_app hB (by omega) (by omega) (by omega) (by omega) (Nat.le_trans (val_le hB) (by omega)) (by omega) (by omega)
  refine ⟨Bd_put B1 (Sm_app hs) (by omega) w3 (by omega) (by omega), by omega, by omega, ?_, Sm_put (Sm_app hs) w3, WF_put (WF_app hw (by omega) (fun _ => w2) (fun _ => w3))⟩
  unfold twb
  rw [put_o (by omega), put_o (by omega), app_F, app_N]
  omega
theorem twb_n {n : Nat} : twb S n 0 0 = S 0 0 ∧ twb S n 0 1 = S 0 1 + 1 := by
  unfold twb
  rw [put_o (by omega), put_o (by omega), app_F, app_N]
  exact ⟨rfl, rfl⟩
theorem cl_twb (h : RC (M k) S) (hl : Lp b S) (hN : S 0 1 < 128) {n : Nat} (h1 : S 0 0 ≤ n) (h2 : n < S 0 0 + S 0 1) (hk : S 9 n = 1) : ∃ M', f_X6_takeWriteBack k M (nI n) = some M' ∧ RC (M' k) (twb S n) ∧ Fr k M M' := by
  obtain ⟨hB, hb1, hb2, hb3, hs, hw⟩ := hl
  obtain ⟨w1, w2, w3⟩ := hw n h1 h2
  have w2 := w2 (by omega)
  have w3 := w3 (Or.inl hk)
  have o := hB 12 n
  have e : S 0 0 + (n - S 0 0) = n := by omega
  obtain ⟨r1, r2, r3, r4, r5, r6⟩ := h.2.2.2 (n - S 0 0) (by omega)
  rw [e, hk] at r2 r3
  rw [e] at r4
  obtain ⟨M1, e1, c1, f1⟩ := cl_append h hB (by omega) hN 3 (S 10 n) (S 11 n) (val S (S 11 n)) (S 12 n) n
  obtain ⟨M2, e2, c2, f2⟩ := cl_put c1 (Sm_app hs) w3 (S 12 n) (S 0 0 + S 0 1)
  refine ⟨M2, ?_, c2, f1.tr f2⟩
  unfold f_X6_takeWriteBack
  rw [cl_at h hB (by omega) (by omega) (by omega), if_pos ⟨h1, h2⟩, bO, cl_at h hB (by omega) (by omega) (by omega), if_pos ⟨h1, h2⟩, bO, cl_at h hB (by omega) (by omega) (by omega), if_pos ⟨h1, h2⟩, bO, r2, r3, r4]
  rw [show ep 1 (S 11 n) = nI (S 11 n) from rfl, cl_valueOf h hs w3, bO]
  rw [show eo 1 (S 10 n) = nI (S 10 n) from rfl]
  rw [show f_X2_append k M (3 : Int32) (nI (S 10 n)) (nI (S 11 n)) (nI (val S (S 11 n))) (nI (S 12 n)) (nI n) = some (nI (S 0 0 + S 0 1), M1) from e1, bP]
  show bO (f_X4_put k M1 (nI (S 11 n)) (nI (S 12 n)) (nI (S 0 0 + S 0 1))) _ = _
  rw [e2, bO]
theorem cl_endg (h : RC (M k) S) (hl : Lp b S) (hN : S 0 1 < 128) {g : Nat} (hg : g < 4) : ∃ M', f_X6_endGroup k M (nI g) = some M' ∧ RC (M' k) (endg S g) ∧ Fr k M M' := by
  obtain ⟨hB, hb1, hb2, hb3, hs, hw⟩ := hl
  obtain ⟨M1, e1, c1, f1⟩ := cl_append h hB (by omega) hN 4 g 0 0 0 0
  obtain ⟨M2, e2, c2, f2⟩ := cl_leave c1 (Sm_app hs) hg
  refine ⟨M2, ?_, c2, f1.tr f2⟩
  unfold f_X6_endGroup
  rw [show f_X2_append k M (4 : Int32) (nI g) (-1000004 : Int32) (0 : Int32) (0 : Int32) (0 : Int32) = some (nI (S 0 0 + S 0 1), M1) from e1, bP]
  show bO (f_X0_leave k M1 (nI g)) _ = _
  rw [e2, bO]
theorem cl_tbk {g lo : Nat} (hg : g < 4) {y2 : Int32} : ∀ (d fu b : Nat) (S : St) (M : Mem), RC (M k) S → Lp b S → b + d < 2 ^ 28 → S 0 0 ≤ lo → lo + d < S 0 0 + S 0 1 → S 0 1 + d < 128 → d < fu →
    ∃ M', itr (f_X6_takeGroupBack_L43 k) (fun _ _ _ _ _ => none) fu M (nI g) y2 (nI lo) (nI (lo + d)) = some (y2, M') ∧ RC (M' k) (endg (tbk g lo d S) g) ∧ Fr k M M' := by
  intro d
  induction d with
  | zero =>
    intro fu b S M h hl hb hlo hd hN hf
    obtain ⟨f, rfl⟩ : ∃ f, fu = f + 1 := ⟨fu - 1, by omega⟩
    obtain ⟨hB, hb1, hb2, hb3, hs, hw⟩ := id hl
    obtain ⟨M1, e1, c1, f1⟩ := cl_endg h hl (by omega) hg
    refine ⟨M1, ?_, c1, f1⟩
    rw [itr_s, f_X6_takeGroupBack_L43, if_pos (by rw [nL_le (by omega) (by omega)]; omega), e1, bO]
  | succ d ih =>
    intro fu b S M h hl hb hlo hd hN hf
    obtain ⟨f, rfl⟩ : ∃ f, fu = f + 1 := ⟨fu - 1, by omega⟩
    obtain ⟨hB, hb1, hb2, hb3, hs, hw⟩ := id hl
    have n1 : S 0 0 ≤ lo + d + 1 := by omega
    have n2 : lo + d + 1 < S 0 0 + S 0 1 := by omega
    obtain ⟨w1, w2, w3⟩ := hw _ n1 n2
    have e : S 0 0 + (lo + d + 1 - S 0 0) = lo + d + 1 := by omega
    obtain ⟨r1, r2, r3, r4, r5, r6⟩ := h.2.2.2 (lo + d + 1 - S 0 0) (by omega)
    rw [e] at r1 r2
    rw [itr_s]
    rw [f_X6_takeGroupBack_L43, show lo + (d + 1) = lo + d + 1 by omega, if_neg (by rw [nL_le (by omega) (by omega)]; omega), cl_atI h hB (by omega) (by omega) (by omega) n1 n2, bO, r2]
    simp only [f_X6_takeGroupBack_L75, f_X6_takeGroupBack_L108, if_true]
    rw [if_neg (show ¬ ((1 : Int32) = 0) by decide), cl_atI h hB (by omega) (by omega) (by omega) n1 n2, bO, r1, show nI (lo + d + 1) + (-1 : Int32) = nI (lo + d) from pk_m1 _]
    simp only [bd]
    unfold tbk
    by_cases q : S 9 (lo + d + 1) = 1 ∧ S 10 (lo + d + 1) = g
    · obtain ⟨M1, e1, c1, f1⟩ := cl_twb h hl (by omega) n1 n2 q.1
      have L1 := Lp_twb hl n1 n2 q.1 (by omega)
      have t := twb_n (S := S) (n := lo + d + 1)
      obtain ⟨M2, e2, c2, f2⟩ := ih f (b + 1) (twb S (lo + d + 1)) M1 c1 L1 (by omega) (by rw [t.1]; omega) (by rw [t.1, t.2]; omega) (by rw [t.2]; omega) (by omega)
      rw [if_pos q]
      refine ⟨M2, ?_, c2, f1.tr f2⟩
      rw [q.1, if_pos (show eo 1 (S 10 (lo + d + 1)) = nI g by rw [q.2]; rfl), if_pos (show nI 1 = (1 : Int32) from rfl), e1, bO]
      exact e2
    · rw [if_neg q]
      obtain ⟨M2, e2, c2, f2⟩ := ih f b S M h hl (by omega) hlo (by omega) (by omega) (by omega)
      refine ⟨M2, ?_, c2, f2⟩
      by_cases q1 : eo (S 9 (lo + d + 1)) (S 10 (lo + d + 1)) = nI g
      · rw [if_pos q1]
        have q2 : ¬ (S 9 (lo + d + 1) = 1) := by
          intro q3
          refine q ⟨q3, ?_⟩
          rw [q3] at q1
          have w4 := w2 (by omega)
          have q4 : nI (S 10 (lo + d + 1)) = nI g := q1
          rw [nL_eq (by omega) (by omega)] at q4
          exact q4
        rw [if_neg (by rw [nl1, nL_eq (by omega) (by omega)]; exact q2)]
        exact e2
      · rw [if_neg q1]
        exact e2
theorem co_take (h : RC (M k) S) (hn : Nm b S) (hw : WF S) {g : Nat} (hg : g < 4) (ho : S 0 5 = 0 → (S 0 8).testBit g = true → S 0 0 ≤ S 6 g ∧ S 6 g < S 0 0 + S 0 1) : OKc k M (f_X6_takeGroupBack k M (nI g)) (aTake S g) := by
  have hn0 := hn
  obtain ⟨hB, hb1, hb2, hN, hF, hD1, hD2, hz, hs⟩ := hn
  have h7 := hB 7 g
  unfold f_X6_takeGroupBack aTake
  rw [(cl_beginOf h hg).2.1, bO, nI_1, cl_err h hn0 hg (by omega), bO]
  by_cases q1 : S 0 5 ≠ 0 ∨ (S 0 8).testBit g = false
  · rw [if_pos q1, if_pos q1, if_neg (by decide)]
    exact ⟨M, rfl, h, Fr.rf⟩
  · rw [if_neg q1, if_neg q1]
    by_cases q3 : 60 < S 0 1 + (S 7 g + 1)
    · rw [if_pos q3, if_pos q3, if_neg (by decide)]
      exact ⟨M, rfl, h, Fr.rf⟩
    · rw [if_neg q3, if_neg q3, if_pos rfl]
      have q4 : S 0 5 = 0 := by
        by_cases z : S 0 5 = 0
        · exact z
        · exact absurd (Or.inl z) q1
      have q5 : (S 0 8).testBit g = true := by
        cases z : (S 0 8).testBit g
        · exact absurd (Or.inr z) q1
        · rfl
      obtain ⟨o1, o2⟩ := ho q4 q5
      have hf := cl_tbk (k := k) hg (lo := S 6 g) (y2 := nI (S 7 g)) (S 0 0 + S 0 1 - 1 - S 6 g) FU b S M h ⟨hB, by omega, by omega, by omega, hs, hw⟩ (by omega) o1 (by omega) (by omega) (by show _ < 10000; omega)
      obtain ⟨M1, e1, c1, f1⟩ := hf
      refine ⟨M1, ?_, c1, f1⟩
      rw [(cl_beginOf h hg).1, bO, cl_last h hB (by omega), bO, if_neg (by omega)]
      rw [show S 6 g + (S 0 0 + S 0 1 - 1 - S 6 g) = S 0 0 + S 0 1 - 1 by omega] at e1
      exact e1
end CO2
