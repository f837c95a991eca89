/-! looking, doing again, taking back: what they keep -/
theorem lst_bits {S : St} (hw : WF S) {F n : Nat} (h1 : S 0 0 ≤ n) (h2 : n < S 0 0 + S 0 1) (hF : F ≤ n) {x : Nat × (Nat → Nat)} (hx : x.1 < 16) (h : ∀ g, g < 4 → (x.1.testBit g = true ↔ OJ S g F n)) : (lst S n x).1 < 16 ∧ ∀ g, g < 4 → ((lst S n x).1.testBit g = true ↔ OJ S g F (n + 1)) := by
  obtain ⟨w1, w2, w3⟩ := hw n h1 h2
  have cg : ∀ lo hi k, lo ≤ k → k < hi → S 9 k = S 9 k ∧ S 10 k = S 10 k := fun _ _ _ _ _ => ⟨rfl, rfl⟩
  have same : ∀ g, g < 4 → ¬ bd4 S g n → (x.1.testBit g = true ↔ OJ S g F (n + 1)) := fun g hg nb => (h g hg).trans (OJ_up (cg _ _) nb).symm
  unfold lst
  by_cases k0 : S 9 n = 0
  · rw [if_pos k0]
    have ow := w2 (by omega)
    have t := tset8 x.1 (by omega) (S 10 n) (by omega)
    refine ⟨(tset4 _ hx _ ow).1, fun g hg => ?_⟩
    show (x.1 ||| 2 ^ S 10 n).testBit g = true ↔ _
    rw [t.2 g (by omega)]
    by_cases e : g = S 10 n
    · rw [decide_eq_true e, Bool.or_true]
      exact ⟨fun _ => ⟨n, LB_new hF ⟨Or.inl k0, e.symm⟩, k0⟩, fun _ => rfl⟩
    · rw [decide_eq_false e, Bool.or_false]
      exact same g hg (fun z => e z.2.symm)
  · rw [if_neg k0]
    by_cases k2 : S 9 n = 2 ∨ S 9 n = 4
    · rw [if_pos k2]
      have ow := w2 (by omega)
      have t := tclr8 x.1 (by omega) (S 10 n) (by omega)
      refine ⟨(tset4 _ hx _ ow).2, fun g hg => ?_⟩
      show (x.1 &&& (255 - 2 ^ S 10 n)).testBit g = true ↔ _
      rw [t.2 g (by omega)]
      by_cases e : g = S 10 n
      · rw [decide_eq_true e, Bool.not_true, Bool.and_false]
        refine ⟨fun z => (nomatch z), fun z => ?_⟩
        obtain ⟨m, z1, z2⟩ := z
        have e2 := LB_uq z1 (LB_new (S := S) (g := g) hF ⟨by omega, e.symm⟩)
        rw [e2] at z2
        omega
      · rw [decide_eq_false e, Bool.not_false, Bool.and_true]
        exact same g hg (fun z => e z.2.symm)
    · rw [if_neg k2]
      by_cases k5 : S 9 n = 5
      · rw [if_pos k5]
        exact ⟨hx, fun g hg => same g hg (fun z => by have := z.1; omega)⟩
      · rw [if_neg k5]
        exact ⟨hx, fun g hg => same g hg (fun z => by have := z.1; omega)⟩
theorem lst_st {S : St} {n : Nat} {Q : Nat → Prop} (hq : Q n) {x : Nat × (Nat → Nat)} (h : ∀ p, p < 8 → x.2 p = 0 ∨ Q (x.2 p)) : ∀ p, p < 8 → (lst S n x).2 p = 0 ∨ Q ((lst S n x).2 p) := by
  intro p hp
  unfold lst
  split
  · exact h p hp
  · split
    · exact h p hp
    · split
      · exact h p hp
      · show (if x.2 (S 11 n) = 0 then (fun p => if p = S 11 n then n else x.2 p) else x.2) p = 0 ∨ Q ((if x.2 (S 11 n) = 0 then (fun p => if p = S 11 n then n else x.2 p) else x.2) p)
        split
        · show (if p = S 11 n then n else x.2 p) = 0 ∨ Q (if p = S 11 n then n else x.2 p)
          split
          · exact Or.inr hq
          · exact h p hp
        · exact h p hp
theorem lkk_iv {S : St} (hw : WF S) {F : Nat} {Q : Nat → Prop} : ∀ (d n : Nat) (x : Nat × (Nat → Nat)), S 0 0 ≤ n → n + d = S 0 0 + S 0 1 → F ≤ n → (∀ m, n ≤ m → Q m) → x.1 < 16 → (∀ g, g < 4 → (x.1.testBit g = true ↔ OJ S g F n)) → (∀ p, p < 8 → x.2 p = 0 ∨ Q (x.2 p)) →
    (lkk S d n x).1 < 16 ∧ (∀ g, g < 4 → ((lkk S d n x).1.testBit g = true ↔ OJ S g F (S 0 0 + S 0 1))) ∧ (∀ p, p < 8 → (lkk S d n x).2 p = 0 ∨ Q ((lkk S d n x).2 p))
  | 0, n, x, _, h2, _, _, hx, h, hs => by
    have e : n = S 0 0 + S 0 1 := by omega
    rw [← e]
    exact ⟨hx, h, hs⟩
  | d + 1, n, x, h1, h2, hF, hQ, hx, h, hs => by
    obtain ⟨a1, a2⟩ := lst_bits hw h1 (by omega) hF hx h
    rw [lkk]
    exact lkk_iv hw d (n + 1) (lst S n x) (by omega) (by omega) (by omega) (fun m hm => hQ m (by omega)) a1 a2 (lst_st (hQ n (Nat.le_refl _)) hs)
theorem look_iv {S : St} (h : JI S) : (look S).1 < 16 ∧ (∀ g, g < 4 → ((look S).1.testBit g = true ↔ OJ S g (S 0 0) (S 0 0 + S 0 1))) ∧ (∀ p, p < 8 → (look S).2 p = 0 ∨ (S 0 0 ≤ (look S).2 p ∧ (S 0 3 ≠ 0 → S 0 4 ≤ (look S).2 p))) := by
  have hj := h
  obtain ⟨⟨w, f1, f2', f3⟩, l0, l1, k3, al, ph, dm⟩ := h
  unfold look lkn lk0
  by_cases q : S 0 3 = 0
  · rw [if_pos q, if_pos q]
    refine lkk_iv w (F := S 0 0) (Q := fun m => S 0 0 ≤ m ∧ (S 0 3 ≠ 0 → S 0 4 ≤ m)) _ _ _ (Nat.le_refl _) (by omega) (Nat.le_refl _) (fun m hm => ⟨hm, fun z => absurd q z⟩) (by decide) (fun g hg => ?_) (fun p hp => Or.inl rfl)
    rw [Nat.zero_testBit]
    refine ⟨fun z => (nomatch z), ?_⟩
    rintro ⟨n, z, -⟩
    have a1 := z.1
    have a2 := z.2.1
    omega
  · rw [if_neg q, if_neg q]
    obtain ⟨c1, c2, c3, c4, c5, c6, ⟨d1, d2, d3, d4⟩, c8⟩ := l1 q
    refine lkk_iv w (F := S 0 0) (Q := fun m => S 0 0 ≤ m ∧ (S 0 3 ≠ 0 → S 0 4 ≤ m)) _ _ _ (by omega) (by omega) (by omega) (fun m hm => ⟨by omega, fun _ => by omega⟩) c5 (fun g hg => (c6 g hg).trans (OJ_up (fun _ _ _ => ⟨rfl, rfl⟩) (fun z => by have := z.1; omega)).symm) (fun p hp => ?_)
    by_cases z : S 15 p = 0
    · exact Or.inl z
    · rcases c8 p hp with y | y
      · exact absurd y z
      · exact Or.inr ⟨y, fun _ => d3 p hp z⟩
theorem mrk_disk {S : St} {p : Nat} (h : PP S p) : S 2 p ≤ mrk S p := by
  unfold mrk
  cases q : (S 0 6).testBit p
  · rw [if_neg (by decide)]; exact Nat.le_refl _
  · rw [if_pos rfl]; exact (h.2.1 q).1
theorem rdo_iv {sr : Nat → Nat} {b F N L dl : Nat} (hsr : ∀ p, p < 8 → sr p = 0 ∨ (F ≤ sr p ∧ (L ≠ 0 → dl ≤ sr p))) (hb : F + N ≤ b) (hb1 : 256 ≤ b) : ∀ (d n : Nat) (x : St × Nat), x.1 0 0 = F → x.1 0 1 = N → x.1 0 3 = L → x.1 0 4 = dl → WF x.1 → PI x.1 → Sm x.1 → Bd b x.1 → F ≤ n → n + d = F + N →
    PI (rdo sr d n x).1 ∧ Sm (rdo sr d n x).1 ∧ Bd b (rdo sr d n x).1 ∧ (rdo sr d n x).2 ≤ x.2 + d
  | 0, n, x, _, _, _, _, _, hp, hs, hB, _, _ => ⟨hp, hs, hB, Nat.le_refl _⟩
  | d + 1, n, x, e0, e1, e3, e4, hw, hp, hs, hB, h1, h2 => by
    rw [rdo]
    have r := rst_n sr n x
    have key : PI (rst sr n x).1 ∧ Sm (rst sr n x).1 ∧ Bd b (rst sr n x).1 ∧ (rst sr n x).2 ≤ x.2 + 1 ∧ WF (rst sr n x).1 := by
      unfold rst
      by_cases q : (x.1 9 n = 1 ∨ x.1 9 n = 3) ∧ sr (x.1 11 n) ≠ 0 ∧ sr (x.1 11 n) ≤ n ∧ mrk x.1 (x.1 11 n) < n
      · rw [if_pos q]
        obtain ⟨w1, w2, w3⟩ := hw n (by omega) (by omega)
        have pg := w3 q.1
        have md := mrk_disk (hp _ pg)
        have hr := hsr _ pg
        obtain ⟨q1, q2, q3, q4⟩ := q
        refine ⟨fun p hp8 => PP_put hs pg (by omega) (by omega) (by omega) (fun z => ?_) hp8 (hp p hp8), Sm_put hs pg, Bd_put hB hs hb1 pg (hB _ _) (by omega), Nat.le_refl _, WF_put hw⟩
        rcases hr with hr | ⟨hr1, hr2⟩
        · exact absurd hr q2
        · rw [e4]
          exact Nat.le_trans (hr2 (by rw [← e3]; exact z)) q3
      · rw [if_neg q]
        exact ⟨hp, hs, hB, Nat.le_succ _, hw⟩
    obtain ⟨k1, k2, k4, k5, k6⟩ := key
    obtain ⟨a1, a2, a3, a4⟩ := rdo_iv hsr hb hb1 d (n + 1) (rst sr n x) (by rw [r 0 0 (by omega)]; exact e0) (by rw [r 0 1 (by omega)]; exact e1) (by rw [r 0 3 (by omega)]; exact e3) (by rw [r 0 4 (by omega)]; exact e4) k6 k1 k2 k4 (by omega) (by omega)
    exact ⟨a1, a2, a3, by omega⟩
abbrev X4 : Type := St × Nat × (Nat → Bool) × Nat
/-- what the loop over losers keeps; the records from k on are done -/
def TI (S : St) (l0 k : Nat) (x : X4) : Prop :=
  (JI x.1 ∧ PI x.1 ∧ Sm x.1 ∧ S 0 0 ≤ k ∧ k ≤ x.1 0 0 + x.1 0 1) ∧
  (∀ f i, (f = 6 ∨ f = 7 ∨ f = 8 ∨ f = 1 ∨ f = 2 ∨ f = 15 ∨ (f = 0 ∧ i ≠ 1 ∧ i ≠ 6 ∧ i ≠ 7 ∧ i ≠ 8)) → x.1 f i = S f i) ∧
  (∀ m, S 0 0 ≤ m → m < k → (x.2.2.1 m = true ↔ ∃ n, k ≤ n ∧ n < x.1 0 0 + x.1 0 1 ∧ x.1 9 n = 3 ∧ x.1 14 n = m)) ∧
  x.2.1 < 16 ∧
  (∀ g, g < 4 → x.2.1.testBit g = true → l0.testBit g = true ∧ ∃ n, n < k ∧ LB x.1 g (S 0 0) (x.1 0 0 + x.1 0 1) n ∧ x.1 9 n = 0) ∧
  (∀ g, g < 4 → l0.testBit g = true → OJ x.1 g (S 0 0) (x.1 0 0 + x.1 0 1) → x.2.1.testBit g = true) ∧
  (∀ g, g < 4 → l0.testBit g = false → (GC S g → GC x.1 g) ∧ (OJ x.1 g (S 0 0) (x.1 0 0 + x.1 0 1) ↔ OJ S g (S 0 0) (S 0 0 + S 0 1))) ∧
  (∀ g, g < 4 → ((x.1 0 8).testBit g = true ↔ ((S 0 8).testBit g = true ∧ (l0.testBit g = false ∨ x.2.1.testBit g = true))))
theorem endg_o {S : St} {g f i : Nat} (h : ¬ (f = 0 ∧ i = 8)) : endg S g f i = app S 4 g 0 0 0 0 f i := lev_o h
theorem TI_skip {S : St} {l0 k : Nat} {x : X4} (h : TI S l0 (k + 1) x) (hF : S 0 0 ≤ k) (h3 : x.1 9 k ≠ 3) (hk : x.1 9 k = 0 → x.2.1.testBit (x.1 10 k) = false) : TI S l0 k x := by
  obtain ⟨⟨hj, hp, hs, a1, a2⟩, so, tk, hl, lb, oj, ot, op⟩ := h
  refine ⟨⟨hj, hp, hs, hF, by omega⟩, so, fun m m1 m2 => (tk m m1 (by omega)).trans ⟨?_, ?_⟩, hl, fun g hg o => ?_, oj, ot, op⟩
  · rintro ⟨n, n1, n2⟩
    exact ⟨n, by omega, n2⟩
  · rintro ⟨n, n1, n2, n3, n4⟩
    refine ⟨n, ?_, n2, n3, n4⟩
    by_cases e : n = k
    · rw [e] at n3; exact absurd n3 h3
    · omega
  · obtain ⟨b1, n, b2, b3, b4⟩ := lb g hg o
    refine ⟨b1, n, ?_, b3, b4⟩
    by_cases e : n = k
    · have z := hk (by rw [← e]; exact b4)
      rw [← e, b3.2.2.1.2, o] at z
      exact nomatch z
    · omega
theorem TI_3 {S : St} {l0 k : Nat} {x : X4} (h : TI S l0 (k + 1) x) (hF : S 0 0 ≤ k) (h3 : x.1 9 k = 3) : TI S l0 k (x.1, x.2.1, (fun m => x.2.2.1 m || decide (m = x.1 14 k)), x.2.2.2) := by
  obtain ⟨⟨hj, hp, hs, a1, a2⟩, so, tk, hl, lb, oj, ot, op⟩ := h
  refine ⟨⟨hj, hp, hs, hF, by show k ≤ x.1 0 0 + x.1 0 1; omega⟩, so, fun m m1 m2 => ?_, hl, fun g hg o => ?_, oj, ot, op⟩
  · show (x.2.2.1 m || decide (m = x.1 14 k)) = true ↔ ∃ n, k ≤ n ∧ n < x.1 0 0 + x.1 0 1 ∧ x.1 9 n = 3 ∧ x.1 14 n = m
    rw [Bool.or_eq_true, tk m m1 (by omega), decide_eq_true_iff]
    constructor
    · rintro (⟨n, n1, n2⟩ | e)
      · exact ⟨n, by omega, n2⟩
      · exact ⟨k, Nat.le_refl _, by omega, h3, e.symm⟩
    · rintro ⟨n, n1, n2, n3, n4⟩
      by_cases e : n = k
      · rw [e] at n4; exact Or.inr n4.symm
      · exact Or.inl ⟨n, by omega, n2, n3, n4⟩
  · obtain ⟨b1, n, b2, b3, b4⟩ := lb g hg o
    refine ⟨b1, n, ?_, b3, b4⟩
    by_cases e : n = k
    · rw [e] at b4
      have b4 : x.1 9 k = 0 := b4
      omega
    · omega
theorem TI_end {S : St} {l0 k : Nat} {x : X4} (h : TI S l0 (k + 1) x) (hF : S 0 0 ≤ k) (h0 : x.1 9 k = 0) (ho : x.2.1.testBit (x.1 10 k) = true) : TI S l0 k (endg x.1 (x.1 10 k), x.2.1 &&& (255 - 2 ^ x.1 10 k), x.2.2.1, x.2.2.2) := by
  obtain ⟨⟨hj, hp, hs, a1, a2⟩, so, tk, hl, lb, oj, ot, op⟩ := h
  have hj0 := hj
  obtain ⟨⟨w, f1, f2', f3⟩, l0', l1, k3, al, ph, dm⟩ := hj0
  have eF0 : x.1 0 0 = S 0 0 := so 0 0 (by omega)
  obtain ⟨w1, w2, w3⟩ := w k (by omega) (by omega)
  obtain ⟨g, eg⟩ : ∃ g, g = x.1 10 k := ⟨_, rfl⟩
  have hg : g < 4 := by rw [eg]; exact w2 (by omega)
  rw [← eg] at ho ⊢
  obtain ⟨b1, n, b2, b3, b4⟩ := lb g hg ho
  have enk : n = k := by
    by_cases e : n = k
    · exact e
    · exact absurd ⟨Or.inl h0, eg.symm⟩ (b3.2.2.2 k (by omega) (by omega))
  rw [enk] at b3
  obtain ⟨T, eT⟩ : ∃ T, T = endg x.1 g := ⟨_, rfl⟩
  rw [← eT]
  have to : ∀ f i, (f < 9 ∨ f = 15) → ¬ (f = 0 ∧ (i = 1 ∨ i = 8)) → T f i = x.1 f i := fun f i a c => by rw [eT, endg_o (by omega), app_o (by omega) (by omega)]
  have E : EX x.1 T 4 g 0 := EX_of EX_app (fun f i a => by rw [eT, endg_o (by omega)])
  obtain ⟨eF, eN, er, e9, e10, e14⟩ := id E
  have t8 : T 0 8 = (x.1 0 8 &&& (255 - 2 ^ g)) := by rw [eT]; simp [endg, lev, app, up]
  have sO := tclr8 (x.1 0 8) (by have := hs.2.2.1; omega) g (by omega)
  have sL := tclr8 x.2.1 (by omega) g (by omega)
  have f2 : T 0 2 = x.1 0 2 := to 0 2 (by omega) (by omega)
  have e' := EX_lt E
  have hL : ∀ y, (x.1 0 3 ≠ 0 → x.1 0 4 ≤ y) → T 0 3 ≠ 0 → T 0 4 ≤ y := fun y a z => by rw [to 0 3 (by omega) (by omega)] at z; rw [to 0 4 (by omega) (by omega)]; exact a z
  have hj' : JI T := by
    refine JI_ext hj E (SL_of (fun f i a => to f i (by omega) (by omega))) (by omega) hg (fun z => by omega) (by omega) (by omega) (fun p hp => by rw [to 2 p (by omega) (by omega), f2]; exact dm p hp) (fun z => by omega) (fun _ m hm => ?_) (Nat.le_trans (phi_pay (T := T) (S := x.1) (t := k) (fun m hm => ⟨(er m hm).1, (er m hm).2.1, (er m hm).2.2.2.2⟩) (by omega) (by omega) ?_ ?_ ?_) ph)
    · have b3' := b3
      rw [← eF0] at b3'
      rw [LB_uq hm b3']; exact h0
    · refine Or.inr ⟨h0, fun m m1 m2 => ?_⟩
      rw [← eg]
      exact b3.2.2.2 m m1 m2
    · rintro (⟨z, -⟩ | ⟨z1, z2⟩)
      · rw [(er k (by omega)).1] at z; omega
      · refine z2 (x.1 0 0 + x.1 0 1) (by omega) (by omega) ⟨?_, ?_⟩
        · rw [e9]; exact Or.inr (Or.inr rfl)
        · rw [(er k (by omega)).2.1, e10]; exact eg
    · rw [e9]; omega
  have sM : Sm T := by
    refine ⟨by rw [to 0 6 (by omega) (by omega)]; exact hs.1, by rw [to 0 7 (by omega) (by omega)]; exact hs.2.1, by rw [t8]; exact (tset4 _ hs.2.2.1 g hg).2, fun i hi => ?_, by rw [to 0 5 (by omega) (by omega)]; exact hs.2.2.2.2⟩
    rw [to 8 i (by omega) (by omega)]
    exact hs.2.2.2.1 i hi
  have nb : ∀ g', g' ≠ g → ¬ bd4 T g' (x.1 0 0 + x.1 0 1) := fun g' e z => e (by rw [← z.2, e10])
  have eh : T 0 0 + T 0 1 = x.1 0 0 + x.1 0 1 + 1 := by omega
  have e'' : ∀ n, S 0 0 ≤ n → n < x.1 0 0 + x.1 0 1 → T 9 n = x.1 9 n ∧ T 10 n = x.1 10 n := fun n c1 c2 => e' n (by omega) c2
  refine ⟨⟨hj', fun p hp8 => ?_, sM, hF, by show k ≤ T 0 0 + T 0 1; omega⟩, fun f i hf => ?_, fun m m1 m2 => ?_, ?_, fun g' hg' o => ?_, fun g' hg' o1 o2 => ?_, fun g' hg' o => ?_, fun g' hg' => ?_⟩
  · show PP T p
    exact PP_of (hp p hp8) (by rw [to 0 6 (by omega) (by omega)]) (by rw [to 0 7 (by omega) (by omega)]) (to 2 p (by omega) (by omega)) (to 4 p (by omega) (by omega)) (to 5 p (by omega) (by omega)) (by show x.1 0 0 + x.1 0 1 ≤ T 0 0 + T 0 1; omega) (fun z => by show T 0 0 ≤ _; rw [eF]; exact ((hp p hp8).2.2 z).1) (fun z => hL _ ((hp p hp8).2.2 z).2.2)
  · show T f i = S f i
    rw [to f i (by omega) (by omega)]
    exact so f i hf
  · show x.2.2.1 m = true ↔ ∃ n, k ≤ n ∧ n < T 0 0 + T 0 1 ∧ T 9 n = 3 ∧ T 14 n = m
    rw [tk m m1 (by omega)]
    constructor
    · rintro ⟨n, n1, n2, n3, n4⟩
      exact ⟨n, by omega, by omega, by rw [(er n n2).1]; exact n3, by rw [(er n n2).2.2.2.2]; exact n4⟩
    · rintro ⟨n, n1, n2, n3, n4⟩
      have ne : n ≠ x.1 0 0 + x.1 0 1 := fun z => by rw [z, e9] at n3; omega
      rw [(er n (by omega)).1] at n3
      rw [(er n (by omega)).2.2.2.2] at n4
      refine ⟨n, ?_, by omega, n3, n4⟩
      by_cases e : n = k
      · rw [e] at n3; omega
      · omega
  · exact (tset4 _ hl g hg).2
  · have o : (x.2.1 &&& (255 - 2 ^ g)).testBit g' = true := o
    rw [sL.2 g' (by omega)] at o
    by_cases e : g' = g
    · rw [decide_eq_true e] at o; simp at o
    · rw [decide_eq_false e, Bool.not_false, Bool.and_true] at o
      obtain ⟨d1, m, d2, d3, d4⟩ := lb g' hg' o
      refine ⟨d1, m, ?_, ?_, ?_⟩
      · by_cases z : m = k
        · have := d3.2.2.1.2
          rw [z, ← eg] at this
          exact absurd this.symm e
        · omega
      · show LB T g' (S 0 0) (T 0 0 + T 0 1) m
        rw [eh]
        exact LB_up e'' (nb g' e) d3
      · show T 9 m = 0
        rw [(e'' m d3.1 d3.2.1).1]; exact d4
  · have o2 : OJ T g' (S 0 0) (T 0 0 + T 0 1) := o2
    rw [eh] at o2
    show (x.2.1 &&& (255 - 2 ^ g)).testBit g' = true
    rw [sL.2 g' (by omega)]
    by_cases e : g' = g
    · obtain ⟨m, z1, z2⟩ := o2
      rw [e] at z1
      have e1 := LB_uq z1 (LB_new (lo := S 0 0) (hi := x.1 0 0 + x.1 0 1) (by omega) ⟨by rw [e9]; omega, e10⟩)
      rw [e1, e9] at z2
      omega
    · rw [decide_eq_false e, Bool.not_false, Bool.and_true]
      exact oj g' hg' o1 ((OJ_up e'' (nb g' e)).mp o2)
  · have e : g' ≠ g := fun e => by rw [e, b1] at o; exact nomatch o
    obtain ⟨y1, y2⟩ := ot g' hg' o
    refine ⟨fun z => GC_ext (y1 z) f3 E (Or.inl e) (hL _ (y1 z).2.2.1) (to 6 g' (by omega) (by omega)) (to 7 g' (by omega) (by omega)), ?_⟩
    show OJ T g' (S 0 0) (T 0 0 + T 0 1) ↔ _
    rw [eh]
    exact (OJ_up e'' (nb g' e)).trans y2
  · show (T 0 8).testBit g' = true ↔ (_ ∧ (_ ∨ (x.2.1 &&& (255 - 2 ^ g)).testBit g' = true))
    rw [t8, sO.2 g' (by omega), sL.2 g' (by omega), Bool.and_eq_true, op g' hg', Bool.and_eq_true]
    by_cases e : g' = g
    · rw [decide_eq_true e, e, b1]
      simp
    · rw [decide_eq_false e]
      simp
theorem TI_twb {S : St} {l0 k : Nat} {x : X4} (h : TI S l0 (k + 1) x) (hF : S 0 0 ≤ k) (h1 : x.1 9 k = 1) (ho : x.2.1.testBit (x.1 10 k) = true) (ht : x.2.2.1 k = false) : TI S l0 k (twb x.1 k, x.2.1, x.2.2.1, x.2.2.2 + 1) := by
  obtain ⟨⟨hj, hp, hs, a1, a2⟩, so, tk, hl, lb, oj, ot, op⟩ := h
  have hj0 := hj
  obtain ⟨⟨w, f1, f2', f3⟩, l0', l1, k3, al, ph, dm⟩ := hj0
  have eF0 : x.1 0 0 = S 0 0 := so 0 0 (by omega)
  obtain ⟨w1, w2, w3⟩ := w k (by omega) (by omega)
  have w3 := w3 (Or.inl h1)
  obtain ⟨g, eg⟩ : ∃ g, g = x.1 10 k := ⟨_, rfl⟩
  have hg : g < 4 := by rw [eg]; exact w2 (by omega)
  rw [← eg] at ho
  have b1 := (lb g hg ho).1
  obtain ⟨X, eX⟩ : ∃ X, X = app x.1 3 (x.1 10 k) (x.1 11 k) (val x.1 (x.1 11 k)) (x.1 12 k) k := ⟨_, rfl⟩
  obtain ⟨T, eT⟩ : ∃ T, T = put X (x.1 11 k) (x.1 12 k) (x.1 0 0 + x.1 0 1) := ⟨_, rfl⟩
  have eTw : twb x.1 k = T := by rw [eT, eX]; rfl
  rw [eTw]
  have xo : ∀ f i, (f < 9 ∨ f = 15) → ¬ (f = 0 ∧ i = 1) → X f i = x.1 f i := fun f i a c => by rw [eX, app_o (by omega) (by omega)]
  have to : ∀ f i, (f = 0 ∧ i ≠ 1 ∧ i ≠ 6 ∧ i ≠ 7) ∨ f = 1 ∨ f = 2 ∨ f = 6 ∨ f = 7 ∨ f = 8 ∨ f = 15 → T f i = x.1 f i := fun f i a => by rw [eT, put_o (by omega), xo _ _ (by omega) (by omega)]
  have EXx : EX x.1 X 3 g k := by rw [eX, eg]; exact EX_app
  have E : EX x.1 T 3 g k := EX_of EXx (fun f i a => by rw [eT, put_o (by omega)])
  obtain ⟨eF, eN, er, e9, e10, e14⟩ := id E
  have e' := EX_lt E
  have x11 : T 11 (x.1 0 0 + x.1 0 1) = x.1 11 k := by rw [eT, put_o (by omega), eX, app_r.2.2.1, if_pos rfl]
  have sX : Sm X := by rw [eX]; exact Sm_app hs
  have dlL := JI_dl hj
  have f2 : T 0 2 = x.1 0 2 := to 0 2 (by omega)
  have hL : ∀ y, (x.1 0 3 ≠ 0 → x.1 0 4 ≤ y) → T 0 3 ≠ 0 → T 0 4 ≤ y := fun y a z => by rw [to 0 3 (by omega)] at z; rw [to 0 4 (by omega)]; exact a z
  have hj' : JI T := by
    refine JI_ext hj E (SL_of (fun f i a => to f i (by omega))) (by omega) hg (fun _ => by rw [x11]; exact w3) (by omega) (by omega) (fun p hp => by rw [to 2 p (by omega), f2]; exact dm p hp) (fun _ => ⟨by omega, fun _ => ⟨h1, eg.symm⟩⟩) (fun z => by omega) (Nat.le_trans (phi_pay (T := T) (S := x.1) (t := k) (fun m hm => ⟨(er m hm).1, (er m hm).2.1, (er m hm).2.2.2.2⟩) (by omega) (by omega) ?_ ?_ ?_) ph)
    · refine Or.inl ⟨h1, fun m m1 m2 z => ?_⟩
      have := (tk k hF (by omega)).mpr ⟨m, by omega, by omega, z.1, z.2⟩
      rw [ht] at this
      exact nomatch this
    · rintro (⟨z1, z2⟩ | ⟨z, -⟩)
      · exact z2 (x.1 0 0 + x.1 0 1) (by omega) (by omega) ⟨e9, e14⟩
      · rw [(er k (by omega)).1] at z; omega
    · rw [e9]; omega
  have nb : ∀ g', ¬ bd4 T g' (x.1 0 0 + x.1 0 1) := fun g' z => by have := z.1; rw [e9] at this; omega
  have eh : T 0 0 + T 0 1 = x.1 0 0 + x.1 0 1 + 1 := by omega
  have e'' : ∀ n, S 0 0 ≤ n → n < x.1 0 0 + x.1 0 1 → T 9 n = x.1 9 n ∧ T 10 n = x.1 10 n := fun n c1 c2 => e' n (by omega) c2
  have hdp := dm _ w3
  refine ⟨⟨hj', fun q hq => ?_, by rw [eT]; exact Sm_put sX w3, hF, by show k ≤ T 0 0 + T 0 1; omega⟩, fun f i hf => ?_, fun m m1 m2 => ?_, hl, fun g' hg' o => ?_, fun g' hg' o1 o2 => ?_, fun g' hg' o => ?_, fun g' hg' => ?_⟩
  · have hX : PP X q := PP_of (hp q hq) (by rw [xo _ _ (by omega) (by omega)]) (by rw [xo _ _ (by omega) (by omega)]) (xo _ _ (by omega) (by omega)) (xo _ _ (by omega) (by omega)) (xo _ _ (by omega) (by omega)) (by have := EXx.1; have := EXx.2.1; omega) (fun z => by rw [EXx.1]; exact ((hp q hq).2.2 z).1) (fun z => by rw [xo _ _ (by omega) (by omega), xo _ _ (by omega) (by omega)]; exact ((hp q hq).2.2 z).2.2)
    show PP T q
    rw [eT]
    exact PP_put sX w3 (by rw [EXx.1]; omega) (by rw [EXx.1, EXx.2.1]; omega) (by rw [xo _ _ (by omega) (by omega)]; omega) (fun z => by rw [xo _ _ (by omega) (by omega)] at z ⊢; have := dlL z; omega) hq hX
  · show T f i = S f i
    rw [to f i (by omega)]
    exact so f i hf
  · show x.2.2.1 m = true ↔ ∃ n, k ≤ n ∧ n < T 0 0 + T 0 1 ∧ T 9 n = 3 ∧ T 14 n = m
    rw [tk m m1 (by omega)]
    constructor
    · rintro ⟨n, n1, n2, n3, n4⟩
      exact ⟨n, by omega, by omega, by rw [(er n n2).1]; exact n3, by rw [(er n n2).2.2.2.2]; exact n4⟩
    · rintro ⟨n, n1, n2, n3, n4⟩
      have ne : n ≠ x.1 0 0 + x.1 0 1 := fun z => by rw [z, e14] at n4; omega
      rw [(er n (by omega)).1] at n3
      rw [(er n (by omega)).2.2.2.2] at n4
      refine ⟨n, ?_, by omega, n3, n4⟩
      by_cases e : n = k
      · rw [e] at n3; omega
      · omega
  · obtain ⟨d1, m, d2, d3, d4⟩ := lb g' hg' o
    refine ⟨d1, m, ?_, ?_, ?_⟩
    · by_cases z : m = k
      · rw [z] at d4; omega
      · omega
    · show LB T g' (S 0 0) (T 0 0 + T 0 1) m
      rw [eh]
      exact LB_up e'' (nb g') d3
    · show T 9 m = 0
      rw [(e'' m d3.1 d3.2.1).1]; exact d4
  · have o2 : OJ T g' (S 0 0) (T 0 0 + T 0 1) := o2
    rw [eh] at o2
    exact oj g' hg' o1 ((OJ_up e'' (nb g')).mp o2)
  · have e : g' ≠ g := fun e => by rw [e, b1] at o; exact nomatch o
    obtain ⟨y1, y2⟩ := ot g' hg' o
    refine ⟨fun z => GC_ext (y1 z) f3 E (Or.inl e) (hL _ (y1 z).2.2.1) (to 6 g' (by omega)) (to 7 g' (by omega)), ?_⟩
    show OJ T g' (S 0 0) (T 0 0 + T 0 1) ↔ _
    rw [eh]
    exact (OJ_up e'' (nb g')).trans y2
  · show (T 0 8).testBit g' = true ↔ _
    rw [to 0 8 (by omega)]
    exact op g' hg'
theorem TI_step {S : St} {l0 k : Nat} {x : X4} (h : TI S l0 (k + 1) x) (hF : S 0 0 ≤ k) : TI S l0 k (tst k x) := by
  unfold tst
  by_cases h3 : x.1 9 k = 3
  · rw [if_pos h3]; exact TI_3 h hF h3
  rw [if_neg h3]
  by_cases h5 : x.1 9 k = 5
  · rw [if_pos h5]; exact TI_skip h hF h3 (fun z => by omega)
  rw [if_neg h5]
  by_cases ho : x.2.1.testBit (x.1 10 k) = true
  · rw [if_pos ho]
    by_cases h0 : x.1 9 k = 0
    · rw [if_pos h0]; exact TI_end h hF h0 ho
    rw [if_neg h0]
    by_cases h1 : x.1 9 k = 1 ∧ x.2.2.1 k = false
    · rw [if_pos h1]; exact TI_twb h hF h1.1 ho h1.2
    · rw [if_neg h1]; exact TI_skip h hF h3 (fun z => absurd z h0)
  · rw [if_neg ho]; exact TI_skip h hF h3 (fun _ => by simpa using ho)
theorem bits16 : ∀ m, m < 16 → m.testBit 0 = false → m.testBit 1 = false → m.testBit 2 = false → m.testBit 3 = false → m = 0 := by decide +kernel
theorem TI_tlb {S : St} {l0 : Nat} (hF : 1 ≤ S 0 0) : ∀ (d : Nat) (x : X4), TI S l0 (S 0 0 + d) x → ∃ k, TI S l0 k (tlb (S 0 0 - 1) d x) ∧ (tlb (S 0 0 - 1) d x).2.1 = 0
  | 0, x, h => by
    refine ⟨S 0 0, h, ?_⟩
    obtain ⟨⟨hj, hp, hs, a1, a2⟩, so, tk, hl, lb, oj, ot, op⟩ := h
    have z : ∀ g, g < 4 → x.2.1.testBit g = false := by
      intro g hg
      cases q : x.2.1.testBit g
      · rfl
      · obtain ⟨-, n, n1, n2, -⟩ := lb g hg q
        have := n2.1
        omega
    exact bits16 _ hl (z 0 (by omega)) (z 1 (by omega)) (z 2 (by omega)) (z 3 (by omega))
  | d + 1, x, h => by
    rw [tlb]
    by_cases q : x.2.1 = 0
    · rw [if_pos q]
      exact ⟨_, h, q⟩
    · rw [if_neg q, show S 0 0 - 1 + d + 1 = S 0 0 + d by omega]
      exact TI_tlb hF d _ (TI_step h (by omega))
