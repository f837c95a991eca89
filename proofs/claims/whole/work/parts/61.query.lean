/-! what there is: both answer alike -/
def N2 (S : St) (g k : Nat) : Prop := ∃ n, k ≤ n ∧ n < S 0 0 + S 0 1 ∧ bd4 S g n ∧ (∀ m, k ≤ m → m < n → ¬ bd4 S g m) ∧ S 9 n = 2
def Qw (S : St) (p n : Nat) : Prop := S 9 n = 1 ∧ S 11 n = p ∧ N2 S (S 10 n) (n + 1)
def RES (S : St) (p : Nat) (v : Int32) : Prop := (∃ n, S 0 0 ≤ n ∧ n < S 0 0 + S 0 1 ∧ Qw S p n ∧ v = nI (S 13 n) ∧ ∀ m, n < m → m < S 0 0 + S 0 1 → ¬ Qw S p m) ∨ (v = -1000004 ∧ ∀ n, S 0 0 ≤ n → n < S 0 0 + S 0 1 → ¬ Qw S p n)
theorem ge_nle {x : Int32} {n m : Nat} (h : nI n ≤ x) (hm : m < n) (hn : n < 2 ^ 31) : ¬ x ≤ nI m ∧ nI m < x := by
  rw [Int32.le_iff_toInt_le, nI_toInt hn] at h
  rw [Int32.le_iff_toInt_le, Int32.lt_iff_toInt_lt, nI_toInt (show m < 2 ^ 31 by omega)]
  omega
theorem lt_nle {x : Int32} (h : x < 0) {n : Nat} (hn : n < 2 ^ 31) : ¬ nI n ≤ x ∧ ¬ x = nI n := by
  rw [Int32.lt_iff_toInt_lt, show (0 : Int32).toInt = 0 from rfl] at h
  refine ⟨?_, fun z => ?_⟩
  · rw [Int32.le_iff_toInt_le, nI_toInt hn]; omega
  · rw [z, nI_toInt hn] at h; omega
section QU
variable {M : Mem} {S : St} {b p g n h tl : Nat} {P : Nat → St}
theorem RES_uq {v w : Int32} (h : RES S p v) (h2 : RES S p w) : v = w := by
  rcases h with ⟨n, a1, a2, a3, a4, a5⟩ | ⟨a1, a2⟩
  · rcases h2 with ⟨m, b1, b2, b3, b4, b5⟩ | ⟨b1, b2⟩
    · rcases Nat.lt_trichotomy n m with e | e | e
      · exact absurd b3 (a5 m e b2)
      · rw [a4, b4, e]
      · exact absurd a3 (b5 n e a2)
    · exact absurd a3 (b2 n a1 a2)
  · rcases h2 with ⟨m, b1, b2, b3, b4, b5⟩ | ⟨b1, b2⟩
    · exact absurd b3 (a2 m b1 b2)
    · rw [a1, b1]
theorem N2_skip {k : Nat} (h : ¬ bd4 S g k) : N2 S g k ↔ N2 S g (k + 1) := by
  constructor
  · rintro ⟨n, a1, a2, a3, a4, a5⟩
    have e : n ≠ k := fun e => h (by rw [← e]; exact a3)
    exact ⟨n, by omega, a2, a3, fun m c1 c2 => a4 m (by omega) c2, a5⟩
  · rintro ⟨n, a1, a2, a3, a4, a5⟩
    refine ⟨n, by omega, a2, a3, fun m c1 c2 => ?_, a5⟩
    by_cases e : m = k
    · rw [e]; exact h
    · exact a4 m (by omega) c2
theorem N2_at {k : Nat} (hk : k < S 0 0 + S 0 1) (h : bd4 S g k) : N2 S g k ↔ S 9 k = 2 := by
  constructor
  · rintro ⟨n, a1, a2, a3, a4, a5⟩
    by_cases e : k = n
    · rw [e]; exact a5
    · exact absurd h (a4 k (Nat.le_refl _) (by omega))
  · intro e
    exact ⟨k, Nat.le_refl _, hk, h, fun m c1 c2 => by omega, e⟩
theorem N2_end (k : Nat) (hk : S 0 0 + S 0 1 ≤ k) : ¬ N2 S g k := fun ⟨n, a1, a2, _⟩ => by omega
theorem band16 : ∀ m, m < 16 → ∀ g, g < 4 → ((nI m &&& nI (2 ^ g)) = 0) = (m.testBit g = false) := fun m hm g hg => band8 m (by omega) g (by omega)
theorem c_sv (hc : RC (M 0) S) (hv : Inv b S) (hp : p < 8) : ∃ v, f_X2_settledValueOf 0 M (nI p) = some v ∧ RES S p v := by
  obtain ⟨⟨n1, ⟨n2, n2'⟩, n3, n4, n5, n6, n7, n8, n9⟩, hj, hpi, hr, hst⟩ := id hv
  have y1 := n1 0 1
  obtain ⟨⟨w, f1, f2', f3⟩, l0, l1, k3, al, ph, dm⟩ := hj
  have lp : ∀ d fu m, d ≤ S 0 1 → d < fu → m < 16 → (∀ g, g < 4 → (m.testBit g = true ↔ N2 S g (S 0 0 + d))) → (∀ n, S 0 0 + d ≤ n → n < S 0 0 + S 0 1 → ¬ Qw S p n) → ∃ v, itr (f_X2_settledValueOf_L15 0 M) (fun _ _ _ => none) fu (nI p) (nI m) (nI d - 1) = some v ∧ RES S p v := by
    intro d
    induction d with
    | zero =>
      intro fu m hd hf hm hb hq
      obtain ⟨f, rfl⟩ : ∃ f, fu = f + 1 := ⟨fu - 1, by omega⟩
      refine ⟨-1000004, ?_, Or.inr ⟨rfl, fun n a c => hq n (by omega) c⟩⟩
      rw [itr_s, f_X2_settledValueOf_L15, if_pos (by decide)]
    | succ d ih =>
      intro fu m hd hf hm hbt hq
      obtain ⟨f, rfl⟩ : ∃ f, fu = f + 1 := ⟨fu - 1, by omega⟩
      obtain ⟨w1, w2, w3⟩ := w (S 0 0 + d) (by omega) (by omega)
      obtain ⟨r1, r2, r3, r4, r5, r6⟩ := hc.2.2.2 d (by omega)
      have y9 := n1 9 (S 0 0 + d)
      have z31 : nI d + (-1 : Int32) = nI d - 1 := by rw [Int32.sub_eq_add_neg]
      have cont : ∀ m', m' < 16 → (∀ g, g < 4 → (m'.testBit g = true ↔ N2 S g (S 0 0 + d))) → ¬ Qw S p (S 0 0 + d) → ∃ v, f_X2_settledValueOf_L126 0 M (itr (f_X2_settledValueOf_L15 0 M) (fun _ _ _ => none) f) (nI p) (nI m') (nI d) = some v ∧ RES S p v := fun m' c1 c2 c3 => by
        obtain ⟨v, e1, e2⟩ := ih f m' (by omega) (by omega) c1 c2 (fun n a c => by
          by_cases e : n = S 0 0 + d
          · rw [e]; exact c3
          · exact hq n (by omega) c)
        refine ⟨v, ?_, e2⟩
        rw [f_X2_settledValueOf_L126, bd, z31]
        exact e1
      rw [itr_s, f_X2_settledValueOf_L15, show nI (d + 1) - (1 : Int32) = nI d from by rw [nl1, nL_sub (by omega)]; rfl, if_neg (by rw [nL_neg (by omega)]; exact id), gd_in (by omega) (by omega), nL_cl (by omega), r2]
      by_cases q5 : S 9 (S 0 0 + d) = 5
      · rw [if_pos (show eo (S 9 (S 0 0 + d)) (S 10 (S 0 0 + d)) < 0 by rw [q5]; show (-1000004 : Int32) < 0; decide), f_X2_settledValueOf_L49, f_X2_settledValueOf_L50, gd_in (by omega) (by omega), nL_cl (by omega), r1, q5, if_neg (by decide), if_neg (by decide), if_neg (by decide)]
        refine cont m hm (fun g hg => (hbt g hg).trans ?_) (fun z => by have := z.1; omega)
        exact (N2_skip (k := S 0 0 + d) (fun z => by have := z.1; omega)).symm
      · have ow := w2 q5
        have eo' : eo (S 9 (S 0 0 + d)) (S 10 (S 0 0 + d)) = nI (S 10 (S 0 0 + d)) := by unfold eo; rw [if_neg q5]
        rw [eo', if_neg (by rw [nL_neg (by omega)]; exact id), gd_in (by omega) (by omega), if_neg (by rw [nl4, nL_le (by omega) (by omega)]; omega), gd_in (by omega) (by omega), bone8 _ (by omega), f_X2_settledValueOf_L50, gd_in (by omega) (by omega), nL_cl (by omega), r1]
        have same : ¬ (S 9 (S 0 0 + d) = 0 ∨ S 9 (S 0 0 + d) = 2 ∨ S 9 (S 0 0 + d) = 4) → ∀ g, g < 4 → (m.testBit g = true ↔ N2 S g (S 0 0 + d)) := fun z g hg => (hbt g hg).trans (N2_skip (k := S 0 0 + d) (fun y => z y.1)).symm
        by_cases q0 : S 9 (S 0 0 + d) = 0
        · have sO := tclr8 m (by omega) (S 10 (S 0 0 + d)) (by omega)
          have eb := bclr8 m (by omega) (S 10 (S 0 0 + d)) (by omega)
          rw [bone8 _ (by omega)] at eb
          rw [if_pos (by rw [q0]; rfl), eb, bd]
          refine cont _ (tset4 _ hm _ ow).2 (fun g hg => ?_) (fun z => by have := z.1; omega)
          rw [sO.2 g (by omega)]
          by_cases e : g = S 10 (S 0 0 + d)
          · rw [decide_eq_true e, N2_at (by omega) ⟨Or.inl q0, e.symm⟩, q0]; simp
          · rw [decide_eq_false e, Bool.not_false, Bool.and_true]
            exact (hbt g hg).trans (N2_skip (k := S 0 0 + d) (fun y => e y.2.symm)).symm
        · rw [if_neg (by rw [nl0, nL_eq (by omega) (by omega)]; exact q0)]
          by_cases q1 : S 9 (S 0 0 + d) = 1
          · have w3 := w3 (Or.inl q1)
            have ep2 : ep (S 9 (S 0 0 + d)) (S 11 (S 0 0 + d)) = nI (S 11 (S 0 0 + d)) := by unfold ep; rw [if_pos (Or.inl q1)]
            rw [if_pos (by rw [q1]; rfl), gd_in (by omega) (by omega), r3, ep2]
            have sm := same (by omega)
            by_cases qp : S 11 (S 0 0 + d) = p
            · have hb16 := band16 m hm _ ow
              rw [if_pos (by rw [qp])]
              cases qb : m.testBit (S 10 (S 0 0 + d))
              · rw [if_pos (by rw [hb16]; exact qb)]
                refine cont m hm sm (fun z => ?_)
                have := (hbt _ ow).mpr (by rw [show S 0 0 + (d + 1) = S 0 0 + d + 1 by omega]; exact z.2.2)
                rw [qb] at this
                exact nomatch this
              · rw [if_neg (by rw [hb16, qb]; decide), gd_in (by omega) (by omega)]
                refine ⟨_, rfl, Or.inl ⟨S 0 0 + d, by omega, by omega, ⟨q1, qp, ?_⟩, r5, fun m' c1 c2 => hq m' (by omega) c2⟩⟩
                have := (hbt _ ow).mp qb
                rw [show S 0 0 + (d + 1) = S 0 0 + d + 1 by omega] at this
                exact this
            · rw [if_neg (by rw [nL_eq (by omega) (by omega)]; exact qp)]
              exact cont m hm sm (fun z => qp z.2.1)
          · rw [if_neg (by rw [nl1, nL_eq (by omega) (by omega)]; exact q1)]
            by_cases q2 : S 9 (S 0 0 + d) = 2
            · have sO := tset8 m (by omega) (S 10 (S 0 0 + d)) (by omega)
              have eb := bset8 m (by omega) (S 10 (S 0 0 + d)) (by omega)
              rw [bone8 _ (by omega)] at eb
              rw [if_pos (by rw [q2]; rfl), eb, bd]
              refine cont _ (tset4 _ hm _ ow).1 (fun g hg => ?_) (fun z => by have := z.1; omega)
              rw [sO.2 g (by omega)]
              by_cases e : g = S 10 (S 0 0 + d)
              · rw [decide_eq_true e, N2_at (by omega) ⟨Or.inr (Or.inl q2), e.symm⟩, q2]; simp
              · rw [decide_eq_false e, Bool.or_false]
                exact (hbt g hg).trans (N2_skip (k := S 0 0 + d) (fun y => e y.2.symm)).symm
            · rw [if_neg (by rw [nl2, nL_eq (by omega) (by omega)]; exact q2)]
              refine cont m hm (fun g hg => ?_) (fun z => by have := z.1; omega)
              by_cases e : bd4 S g (S 0 0 + d)
              · have k4 : S 9 (S 0 0 + d) = 4 := by have := e.1; omega
                rw [hbt g hg, N2_at (by omega) e, k4]
                refine ⟨fun z => ?_, fun z => by omega⟩
                obtain ⟨n', c1, c2, c3, c4, c5⟩ := z
                have := al n' (by omega) c2 (Or.inl c5) (S 0 0 + d) (by
                  rw [c3.2]
                  exact ⟨by omega, by omega, e, fun m' d1 d2 => c4 m' (by omega) d2⟩)
                omega
              · exact (hbt g hg).trans (N2_skip (k := S 0 0 + d) e).symm
  obtain ⟨v, e1, e2⟩ := lp (S 0 1) FU 0 (Nat.le_refl _) (by show _ < 10000; omega) (by decide) (fun g hg => by
    rw [Nat.zero_testBit]
    exact ⟨fun z => (nomatch z), fun z => absurd z (N2_end _ (Nat.le_refl _))⟩) (fun n a c => by omega)
  refine ⟨v, ?_, e2⟩
  rw [f_X2_settledValueOf, hc.1.2.1, if_neg (by rw [show (128 : Int32) = nI 128 from rfl, nL_lt (by omega) (by omega)]; omega), bd]
  exact e1
theorem m_nk (h : RN (M 11 29) S) (hR : RR (M 11 29) S) (hB : Bd b S) (hb : b < 2 ^ 28) (hN : S 0 1 ≤ 120) (hF : 1 ≤ S 0 0) (hw : WF S) (hg : g < 4) (hn : S 0 0 ≤ n) (hn2 : n < S 0 0 + S 0 1) : ∃ v, f_X8_nextKind M (nI n) (nI g) = some v ∧ (v = 2 ↔ N2 S g (n + 1)) := by
  have y0 := hB 0 0
  have lp : ∀ d k fu, k + d = S 0 0 + S 0 1 → S 0 0 ≤ k → d < fu → ∃ v, itr (f_X8_nextKind_L4 M) (fun _ _ => none) fu (nI g) (nI k) = some v ∧ (v = 2 ↔ N2 S g k) := by
    intro d
    induction d with
    | zero =>
      intro k fu hk h1 hf
      obtain ⟨f, rfl⟩ : ∃ f, fu = f + 1 := ⟨fu - 1, by omega⟩
      refine ⟨-1000004, ?_, ⟨fun z => absurd z (by decide), fun z => absurd z (N2_end k (by omega))⟩⟩
      rw [itr_s, f_X8_nextKind_L4, m_last h hF, bO_some, if_pos (by rw [nL_lt (by omega) (by omega)]; omega)]
    | succ d ih =>
      intro k fu hk h1 hf
      obtain ⟨f, rfl⟩ : ∃ f, fu = f + 1 := ⟨fu - 1, by omega⟩
      obtain ⟨w1, w2, w3⟩ := hw k h1 (by omega)
      obtain ⟨o0, o1, -⟩ := m_rec h hR (by omega) h1 (show k < S 0 0 + S 0 1 by omega)
      have y9 := hB 9 k
      have no : ¬ bd4 S g k → ∃ v, f_X8_nextKind_L50 M (itr (f_X8_nextKind_L4 M) (fun _ _ => none) f) (nI g) (nI k) = some v ∧ (v = 2 ↔ N2 S g k) := fun z => by
        obtain ⟨v, e1, e2⟩ := ih (k + 1) f (by omega) (by omega) (by omega)
        refine ⟨v, ?_, e2.trans (N2_skip z).symm⟩
        rw [f_X8_nextKind_L50, bd, nI_1]
        exact e1
      rw [itr_s, f_X8_nextKind_L4, m_last h hF, bO_some, if_neg (by rw [nL_lt (by omega) (by omega)]; omega), o0, bO_some, o1, bO_some]
      by_cases q5 : S 9 k = 5
      · have : ¬ eo (S 9 k) (S 10 k) = nI g := by rw [q5]; show ¬ ((-1000004 : Int32) = nI g); rw [nL_NF2 (by omega)]; exact id
        rw [if_neg this]
        exact no (fun z => by have := z.1; omega)
      · have ow := w2 q5
        have eo' : eo (S 9 k) (S 10 k) = nI (S 10 k) := by unfold eo; rw [if_neg q5]
        rw [eo']
        by_cases qg : S 10 k = g
        · rw [if_pos (by rw [qg])]
          have at' : (S 9 k = 0 ∨ S 9 k = 2 ∨ S 9 k = 4) → ∃ v, some (nI (S 9 k)) = some v ∧ (v = 2 ↔ N2 S g k) := fun z => ⟨_, rfl, by
            rw [nl2, nL_eq (by omega) (by omega), N2_at (by omega) ⟨z, qg⟩]⟩
          by_cases q0 : S 9 k = 0
          · rw [if_pos (by rw [q0]; rfl)]
            exact at' (Or.inl q0)
          · rw [if_neg (by rw [nl0, nL_eq (by omega) (by omega)]; exact q0)]
            by_cases q2 : S 9 k = 2
            · rw [if_pos (by rw [q2]; rfl)]
              exact at' (Or.inr (Or.inl q2))
            · rw [if_neg (by rw [nl2, nL_eq (by omega) (by omega)]; exact q2)]
              by_cases q4 : S 9 k = 4
              · rw [if_pos (by rw [q4]; rfl)]
                exact at' (Or.inr (Or.inr q4))
              · rw [if_neg (by rw [nl4, nL_eq (by omega) (by omega)]; exact q4)]
                exact no (fun z => by have := z.1; omega)
        · rw [if_neg (by rw [nL_eq (by omega) (by omega)]; exact qg)]
          exact no (fun z => qg z.2)
  obtain ⟨v, e1, e2⟩ := lp (S 0 0 + S 0 1 - (n + 1)) (n + 1) FU (by omega) (by omega) (by show _ < 10000; omega)
  refine ⟨v, ?_, e2⟩
  rw [f_X8_nextKind, nI_1, bd]
  exact e1
theorem m_sv (hc : RQ (M 11 29) S) (hv : Inv b S) (hp : p < 8) : ∃ v, f_X8_settledValue M (nI p) = some v ∧ RES S p v := by
  obtain ⟨⟨n1, ⟨n2, n2'⟩, n3, n4, n5, n6, n7, n8, n9⟩, hj, hpi, hr, hst⟩ := id hv
  obtain ⟨⟨w, f1, f2', f3⟩, l0, l1, k3, al, ph, dm⟩ := hj
  obtain ⟨k1, k2, k3', k4⟩ := hc
  have y0 := n1 0 0
  have lp : ∀ d k fu y, k + d = S 0 0 + S 0 1 → S 0 0 ≤ k → d < fu → ((∃ n, S 0 0 ≤ n ∧ n < k ∧ Qw S p n ∧ y = nI (S 13 n) ∧ ∀ m, n < m → m < k → ¬ Qw S p m) ∨ (y = -1000004 ∧ ∀ n, S 0 0 ≤ n → n < k → ¬ Qw S p n)) → ∃ v, itr (f_X8_settledValue_L10 M) (fun _ _ _ => none) fu (nI p) y (nI k) = some v ∧ RES S p v := by
    intro d
    induction d with
    | zero =>
      intro k fu y hk h1 hf hy
      obtain ⟨f, rfl⟩ : ∃ f, fu = f + 1 := ⟨fu - 1, by omega⟩
      have ek : k = S 0 0 + S 0 1 := by omega
      refine ⟨y, ?_, ?_⟩
      · rw [itr_s, f_X8_settledValue_L10, m_last k1 f1, bO_some, if_pos (by rw [nL_lt (by omega) (by omega)]; omega)]
      · rw [ek] at hy
        exact hy
    | succ d ih =>
      intro k fu y hk h1 hf hy
      obtain ⟨f, rfl⟩ : ∃ f, fu = f + 1 := ⟨fu - 1, by omega⟩
      obtain ⟨w1, w2, w3⟩ := w k h1 (by omega)
      obtain ⟨o0, o1, o2, o3, o4, o5⟩ := m_rec k1 k4 (by omega) h1 (show k < S 0 0 + S 0 1 by omega)
      have y9 := n1 9 k
      have no : ¬ Qw S p k → ∃ v, f_X8_settledValue_L62 M (itr (f_X8_settledValue_L10 M) (fun _ _ _ => none) f) (nI p) y (nI k) = some v ∧ RES S p v := fun z => by
        rw [f_X8_settledValue_L62, f_X8_settledValue_L63, bd, nI_1]
        refine ih (k + 1) f y (by omega) (by omega) (by omega) ?_
        rcases hy with ⟨n, a1, a2, a3, a4, a5⟩ | ⟨a1, a2⟩
        · refine Or.inl ⟨n, a1, by omega, a3, a4, fun m c1 c2 => ?_⟩
          by_cases e : m = k
          · rw [e]; exact z
          · exact a5 m c1 (by omega)
        · refine Or.inr ⟨a1, fun m c1 c2 => ?_⟩
          by_cases e : m = k
          · rw [e]; exact z
          · exact a2 m c1 (by omega)
      rw [itr_s, f_X8_settledValue_L10, m_last k1 f1, bO_some, if_neg (by rw [nL_lt (by omega) (by omega)]; omega), o0, bO_some]
      by_cases q1 : S 9 k = 1
      · have pg := w3 (Or.inl q1)
        have ow := w2 (by omega)
        have ep2 : ep (S 9 k) (S 11 k) = nI (S 11 k) := by unfold ep; rw [if_pos (Or.inl q1)]
        have ep4 : ep (S 9 k) (S 13 k) = nI (S 13 k) := by unfold ep; rw [if_pos (Or.inl q1)]
        have eo' : eo (S 9 k) (S 10 k) = nI (S 10 k) := by unfold eo; rw [if_neg (by omega)]
        rw [if_pos (by rw [q1]; rfl), o2, bO_some, ep2]
        by_cases qp : S 11 k = p
        · obtain ⟨v, e1, e2⟩ := m_nk k1 k4 n1 (by omega) n4 f1 w ow h1 (show k < S 0 0 + S 0 1 by omega)
          rw [if_pos (by rw [qp]), o1, bO_some, eo', e1, bO_some]
          by_cases q2 : v = 2
          · rw [if_pos q2, o4, bO_some, ep4, f_X8_settledValue_L63, bd, nI_1]
            exact ih (k + 1) f _ (by omega) (by omega) (by omega) (Or.inl ⟨k, h1, by omega, ⟨q1, qp, e2.mp q2⟩, rfl, fun m c1 c2 => by omega⟩)
          · rw [if_neg q2]
            exact no (fun z => q2 (e2.mpr z.2.2))
        · rw [if_neg (by rw [nL_eq (by omega) (by omega)]; exact qp)]
          exact no (fun z => qp z.2.1)
      · rw [if_neg (by rw [nl1, nL_eq (by omega) (by omega)]; exact q1)]
        exact no (fun z => q1 z.1)
  obtain ⟨v, e1, e2⟩ := lp (S 0 1) (S 0 0) FU (-1000004) rfl (Nat.le_refl _) (by show _ < 10000; omega) (Or.inr ⟨rfl, fun n a c => by omega⟩)
  refine ⟨v, ?_, e2⟩
  rw [f_X8_settledValue, k1.1, bd]
  exact e1

theorem q_page (hc : RC (M 0) S) (hm : RQ (M 11 29) S) (hv : Inv b S) (a c : Int32) : ∃ v, f_X7_pageOf M a c = some v ∧ f_X8_pageOf M a c = some v := by
  obtain ⟨⟨n1, ⟨n2, n2'⟩, n3, n4, n5, n6, n7, n8, n9⟩, hj, hpi, hr, hst⟩ := id hv
  rcases pk_ix a (n := 8) (by omega) with ha | ha | ⟨p, hp, rfl⟩
  · exact ⟨_, by rw [f_X7_pageOf, if_pos ha], by rw [f_X8_pageOf, m_no M (Or.inl ha), bO_some, if_pos rfl]⟩
  · refine ⟨-1000001, ?_, by rw [f_X8_pageOf, show f_X8_in M a 0 7 = some 0 from m_no M (Or.inr (ge_nle ha (m := 7) (by omega) (by omega)).2), bO_some, if_pos rfl]⟩
    rw [f_X7_pageOf]
    by_cases z : a < 0
    · rw [if_pos z]
    · rw [if_neg z, if_pos (show (8 : Int32) ≤ a from ha)]
  rcases pk_ix c (n := 9) (by omega) with hc' | hc' | ⟨w, hw, rfl⟩
  · exact ⟨_, by rw [f_X7_pageOf, if_neg (by rw [nL_neg (by omega)]; exact id), if_neg (by rw [nl8, nL_le (by omega) (by omega)]; omega), if_pos hc'], by rw [f_X8_pageOf, m_yes7 M (by omega), bO_some, if_neg (show ¬ ((1 : Int32) = 0) by decide), m_no M (Or.inl hc'), bO_some, if_pos rfl]⟩
  · refine ⟨-1000001, ?_, by rw [f_X8_pageOf, m_yes7 M (by omega), bO_some, if_neg (show ¬ ((1 : Int32) = 0) by decide), show f_X8_in M c 0 8 = some 0 from m_no M (Or.inr (ge_nle hc' (m := 8) (by omega) (by omega)).2), bO_some, if_pos rfl]⟩
    rw [f_X7_pageOf, if_neg (by rw [nL_neg (by omega)]; exact id), if_neg (by rw [nl8, nL_le (by omega) (by omega)]; omega)]
    by_cases z : c < 0
    · rw [if_pos z]
    · rw [if_neg z, if_neg (show ¬ c ≤ (8 : Int32) from (ge_nle hc' (m := 8) (by omega) (by omega)).1)]
  obtain ⟨c1, c2, c3, c4, c5, c6⟩ := hc.2.1 p hp
  obtain ⟨d0, d1, d2, d3, d4⟩ := hm.2.1 p hp
  have hcY := hc.1.2.2.2.2.2.2.2.1
  have hcC := hc.1.2.2.2.2.2.2.1
  have tl : ∀ {w : Nat}, f_X4_tell 0 M (nI p) (nI w) = (if nI w = (0 : Int32) then bO (f_X4_valueOf 0 M (nI p)) (fun v4 => some v4) else if nI w = (1 : Int32) then bO (f_X4_markOf 0 M (nI p)) (fun v6 => some v6) else if nI w = (2 : Int32) then gd (inb (nI p) 8) (some (M 0 2 (nI p).toNatClampNeg)) else if nI w = (3 : Int32) then gd (inb (nI p) 8) (some (M 0 3 (nI p).toNatClampNeg)) else if nI w = (4 : Int32) then some (((M 0 1 5) >>> (nI p &&& 31)) &&& (1 : Int32)) else if nI w = (5 : Int32) then some (((M 0 1 6) >>> (nI p &&& 31)) &&& (1 : Int32)) else bO (f_X4_startOf 0 M (nI p)) (fun v13 => some v13)) := fun {w} => by
    rw [f_X4_tell, if_neg (by rw [nL_neg (by omega)]; exact id), if_pos (by rw [nl8, nL_lt (by omega) (by omega)]; exact hp)]
  rcases (show w = 0 ∨ w = 1 ∨ w = 2 ∨ w = 3 ∨ w = 4 ∨ w = 5 ∨ w = 6 ∨ w = 7 ∨ w = 8 by omega) with rfl | rfl | rfl | rfl | rfl | rfl | rfl | rfl | rfl
  · exact ⟨_, by rw [f_X7_pageOf, if_neg (by rw [nL_neg (by omega)]; exact id), if_neg (by rw [nl8, nL_le (by omega) (by omega)]; omega), if_neg (by rw [nL_neg (by omega)]; exact id), if_pos (by rw [nl8, nL_le (by omega) (by omega)]; omega), if_neg (by decide), if_neg (by decide), tl, if_pos (by decide), cl_valueOf hc n9 hp, bO_some, bO_some], by rw [f_X8_pageOf, m_yes7 M (by omega), bO_some, if_neg (show ¬ ((1 : Int32) = 0) by decide), m_yes8 M (by omega), bO_some, if_neg (show ¬ ((1 : Int32) = 0) by decide), if_pos (by decide), m_value hm.2.1 hp, bO_some]⟩
  · exact ⟨_, by rw [f_X7_pageOf, if_neg (by rw [nL_neg (by omega)]; exact id), if_neg (by rw [nl8, nL_le (by omega) (by omega)]; omega), if_neg (by rw [nL_neg (by omega)]; exact id), if_pos (by rw [nl8, nL_le (by omega) (by omega)]; omega), if_neg (by decide), if_neg (by decide), tl, if_neg (by decide), if_pos (by decide), cl_markOf hc n9 hp, bO_some, bO_some], by rw [f_X8_pageOf, m_yes7 M (by omega), bO_some, if_neg (show ¬ ((1 : Int32) = 0) by decide), m_yes8 M (by omega), bO_some, if_neg (show ¬ ((1 : Int32) = 0) by decide), if_neg (by decide), if_pos (by decide), m_mark hm.2.1 hp, bO_some]⟩
  · exact ⟨_, by rw [f_X7_pageOf, if_neg (by rw [nL_neg (by omega)]; exact id), if_neg (by rw [nl8, nL_le (by omega) (by omega)]; omega), if_neg (by rw [nL_neg (by omega)]; exact id), if_pos (by rw [nl8, nL_le (by omega) (by omega)]; omega), if_neg (by decide), if_neg (by decide), tl, if_neg (by decide), if_neg (by decide), if_pos (by decide), gd_in hp (by omega), nL_cl (by omega), bO_some, c1], by rw [f_X8_pageOf, m_yes7 M (by omega), bO_some, if_neg (show ¬ ((1 : Int32) = 0) by decide), m_yes8 M (by omega), bO_some, if_neg (show ¬ ((1 : Int32) = 0) by decide), if_neg (by decide), if_neg (by decide), if_pos (by decide), f_X8_pageOf_L84, show nI 2 - (2 : Int32) = 0 by decide, m_pg0 M hp, bO_some, d0]⟩
  · exact ⟨_, by rw [f_X7_pageOf, if_neg (by rw [nL_neg (by omega)]; exact id), if_neg (by rw [nl8, nL_le (by omega) (by omega)]; omega), if_neg (by rw [nL_neg (by omega)]; exact id), if_pos (by rw [nl8, nL_le (by omega) (by omega)]; omega), if_neg (by decide), if_neg (by decide), tl, if_neg (by decide), if_neg (by decide), if_neg (by decide), if_pos (by decide), gd_in hp (by omega), nL_cl (by omega), bO_some, c2], by rw [f_X8_pageOf, m_yes7 M (by omega), bO_some, if_neg (show ¬ ((1 : Int32) = 0) by decide), m_yes8 M (by omega), bO_some, if_neg (show ¬ ((1 : Int32) = 0) by decide), if_neg (by decide), if_neg (by decide), if_neg (by decide), if_pos (by decide), f_X8_pageOf_L84, show nI 3 - (2 : Int32) = 1 by decide, m_pg1 M hp, bO_some, d1]⟩
  · exact ⟨_, by rw [f_X7_pageOf, if_neg (by rw [nL_neg (by omega)]; exact id), if_neg (by rw [nl8, nL_le (by omega) (by omega)]; omega), if_neg (by rw [nL_neg (by omega)]; exact id), if_pos (by rw [nl8, nL_le (by omega) (by omega)]; omega), if_neg (by decide), if_neg (by decide), tl, if_neg (by decide), if_neg (by decide), if_neg (by decide), if_neg (by decide), if_pos (by decide), bO_some, hcC, bit8 _ n9.1 p hp], by rw [f_X8_pageOf, m_yes7 M (by omega), bO_some, if_neg (show ¬ ((1 : Int32) = 0) by decide), m_yes8 M (by omega), bO_some, if_neg (show ¬ ((1 : Int32) = 0) by decide), if_neg (by decide), if_neg (by decide), if_neg (by decide), if_neg (by decide), if_pos (by decide), m_pg2 M hp, bO_some, d2]⟩
  · refine ⟨_, by rw [f_X7_pageOf, if_neg (by rw [nL_neg (by omega)]; exact id), if_neg (by rw [nl8, nL_le (by omega) (by omega)]; omega), if_neg (by rw [nL_neg (by omega)]; exact id), if_pos (by rw [nl8, nL_le (by omega) (by omega)]; omega), if_neg (by decide), if_neg (by decide), tl, if_neg (by decide), if_neg (by decide), if_neg (by decide), if_neg (by decide), if_neg (by decide), if_pos (by decide), bO_some, hcY, bit8 _ n9.2.1 p hp], ?_⟩
    rw [f_X8_pageOf, m_yes7 M (by omega), bO_some, if_neg (show ¬ ((1 : Int32) = 0) by decide), m_yes8 M (by omega), bO_some, if_neg (show ¬ ((1 : Int32) = 0) by decide), if_neg (by decide), if_neg (by decide), if_neg (by decide), if_neg (by decide), if_neg (by decide), if_pos (by decide), m_dirty hm.2.1 n1 (by omega) hp (hpi p hp), bO_some]
    cases (S 0 7).testBit p <;> rfl
  · refine ⟨_, by rw [f_X7_pageOf, if_neg (by rw [nL_neg (by omega)]; exact id), if_neg (by rw [nl8, nL_le (by omega) (by omega)]; omega), if_neg (by rw [nL_neg (by omega)]; exact id), if_pos (by rw [nl8, nL_le (by omega) (by omega)]; omega), if_neg (by decide), if_neg (by decide), tl, if_neg (by decide), if_neg (by decide), if_neg (by decide), if_neg (by decide), if_neg (by decide), if_neg (by decide), cl_startOf hc n9 hp, bO_some, bO_some], ?_⟩
    rw [f_X8_pageOf, m_yes7 M (by omega), bO_some, if_neg (show ¬ ((1 : Int32) = 0) by decide), m_yes8 M (by omega), bO_some, if_neg (show ¬ ((1 : Int32) = 0) by decide), if_neg (by decide), if_neg (by decide), if_neg (by decide), if_neg (by decide), if_neg (by decide), if_neg (by decide), if_pos (by decide), m_dirty hm.2.1 n1 (by omega) hp (hpi p hp), bO_some]
    cases q : (S 0 7).testBit p
    · rfl
    · rw [if_neg (show ¬ b01 true = 0 by decide), m_pg5 M hp, bO_some, d4 q, if_pos rfl]
  · exact ⟨_, by rw [f_X7_pageOf, if_neg (by rw [nL_neg (by omega)]; exact id), if_neg (by rw [nl8, nL_le (by omega) (by omega)]; omega), if_neg (by rw [nL_neg (by omega)]; exact id), if_pos (by rw [nl8, nL_le (by omega) (by omega)]; omega), if_pos (by decide), cl_holder hc n9 hp, bO_some], by rw [f_X8_pageOf, m_yes7 M (by omega), bO_some, if_neg (show ¬ ((1 : Int32) = 0) by decide), m_yes8 M (by omega), bO_some, if_neg (show ¬ ((1 : Int32) = 0) by decide), if_neg (by decide), if_neg (by decide), if_neg (by decide), if_neg (by decide), if_neg (by decide), if_neg (by decide), if_neg (by decide), if_pos (by decide), m_holder hm.2.2.1 n9 hp (Inv_dj hv hp), bO_some]⟩
  · obtain ⟨v1, e1, e2⟩ := c_sv hc hv hp
    obtain ⟨v2, e3, e4⟩ := m_sv hm hv hp
    refine ⟨v1, by rw [f_X7_pageOf, if_neg (by rw [nL_neg (by omega)]; exact id), if_neg (by rw [nl8, nL_le (by omega) (by omega)]; omega), if_neg (by rw [nL_neg (by omega)]; exact id), if_pos (by rw [nl8, nL_le (by omega) (by omega)]; omega), if_neg (by decide), if_pos (by decide), e1, bO_some], ?_⟩
    rw [f_X8_pageOf, m_yes7 M (by omega), bO_some, if_neg (show ¬ ((1 : Int32) = 0) by decide), m_yes8 M (by omega), bO_some, if_neg (show ¬ ((1 : Int32) = 0) by decide), if_neg (by decide), if_neg (by decide), if_neg (by decide), if_neg (by decide), if_neg (by decide), if_neg (by decide), if_neg (by decide), if_neg (by decide), e3, bO_some, RES_uq e4 e2]
theorem q_group (hc : RC (M 0) S) (hm : RQ (M 11 29) S) (hv : Inv b S) (a c : Int32) : ∃ v, f_X7_groupOf M a c = some v ∧ f_X8_groupOf M a c = some v := by
  obtain ⟨⟨n1, ⟨n2, n2'⟩, n3, n4, n5, n6, n7, n8, n9⟩, hj, hpi, hr, hst⟩ := id hv
  rcases pk_ix a (n := 4) (by omega) with ha | ha | ⟨p, hp, rfl⟩
  · exact ⟨_, by rw [f_X7_groupOf, if_pos ha], by rw [f_X8_groupOf, m_no M (Or.inl ha), bO_some, if_pos rfl]⟩
  · refine ⟨-1000001, ?_, by rw [f_X8_groupOf, show f_X8_in M a 0 3 = some 0 from m_no M (Or.inr (ge_nle ha (m := 3) (by omega) (by omega)).2), bO_some, if_pos rfl]⟩
    rw [f_X7_groupOf]
    by_cases z : a < 0
    · rw [if_pos z]
    · rw [if_neg z, if_pos (show (4 : Int32) ≤ a from ha)]
  rcases pk_ix c (n := 4) (by omega) with hc' | hc' | ⟨w, hw, rfl⟩
  · exact ⟨_, by rw [f_X7_groupOf, if_neg (by rw [nL_neg (by omega)]; exact id), if_neg (by rw [nl4, nL_le (by omega) (by omega)]; omega), if_pos hc'], by rw [f_X8_groupOf, m_yes3 M (by omega), bO_some, if_neg (show ¬ ((1 : Int32) = 0) by decide), m_no M (Or.inl hc'), bO_some, if_pos rfl]⟩
  · refine ⟨-1000001, ?_, by rw [f_X8_groupOf, m_yes3 M (by omega), bO_some, if_neg (show ¬ ((1 : Int32) = 0) by decide), show f_X8_in M c 0 3 = some 0 from m_no M (Or.inr (ge_nle hc' (m := 3) (by omega) (by omega)).2), bO_some, if_pos rfl]⟩
    rw [f_X7_groupOf, if_neg (by rw [nL_neg (by omega)]; exact id), if_neg (by rw [nl4, nL_le (by omega) (by omega)]; omega)]
    by_cases z : c < 0
    · rw [if_pos z]
    · rw [if_neg z, if_neg (show ¬ c ≤ (3 : Int32) from (ge_nle hc' (m := 3) (by omega) (by omega)).1)]
  obtain ⟨d0, d1⟩ := hm.2.2.1 p hp
  obtain ⟨b1, b2, b3⟩ := cl_beginOf hc hp
  have io := cl_isOpen hc n9 hp
  have mo := m_open hm.2.2.1 hp
  have ofg : ∀ {k : Nat}, k < 4 → f_X8_groupOf_L38 M (nI p) (nI k) = some (M 11 29 (5 + 4 * p + k)) := fun {k} hk => by
    rw [f_X8_groupOf_L38, m_gr M hp hk, bO_some]
  rcases (show w = 0 ∨ w = 1 ∨ w = 2 ∨ w = 3 by omega) with rfl | rfl | rfl | rfl
  · refine ⟨b01 ((S 0 8).testBit p), ?_, ?_⟩
    · rw [f_X7_groupOf, if_neg (by rw [nL_neg (by omega)]; exact id), if_neg (by rw [nl4, nL_le (by omega) (by omega)]; omega), if_neg (by rw [nL_neg (by omega)]; exact id), if_pos (by rw [nl3, nL_le (by omega) (by omega)]; omega), f_X0_tell, if_pos (by decide), io, bO_some]
      cases (S 0 8).testBit p <;> rfl
    · rw [f_X8_groupOf, m_yes3 M (v := p) (by omega), bO_some, if_neg (show ¬ ((1 : Int32) = 0) by decide), m_yes3 M (by omega), bO_some, if_neg (show ¬ ((1 : Int32) = 0) by decide), if_pos (by decide), ofg (by omega)]
      exact congrArg some d0
  · cases q : (S 0 8).testBit p
    · exact ⟨_, by rw [f_X7_groupOf, if_neg (by rw [nL_neg (by omega)]; exact id), if_neg (by rw [nl4, nL_le (by omega) (by omega)]; omega), if_neg (by rw [nL_neg (by omega)]; exact id), if_pos (by rw [nl3, nL_le (by omega) (by omega)]; omega), f_X0_tell, if_neg (by decide), io, q, bO_some, if_pos (by decide), bO_some], by rw [f_X8_groupOf, m_yes3 M (v := p) (by omega), bO_some, if_neg (show ¬ ((1 : Int32) = 0) by decide), m_yes3 M (by omega), bO_some, if_neg (show ¬ ((1 : Int32) = 0) by decide), if_neg (by decide), mo, q, bO_some, if_pos (by decide)]⟩
    · refine ⟨_, by rw [f_X7_groupOf, if_neg (by rw [nL_neg (by omega)]; exact id), if_neg (by rw [nl4, nL_le (by omega) (by omega)]; omega), if_neg (by rw [nL_neg (by omega)]; exact id), if_pos (by rw [nl3, nL_le (by omega) (by omega)]; omega), f_X0_tell, if_neg (by decide), io, q, bO_some, if_neg (by decide), if_pos (by decide), b1, bO_some, bO_some], ?_⟩
      rw [f_X8_groupOf, m_yes3 M (v := p) (by omega), bO_some, if_neg (show ¬ ((1 : Int32) = 0) by decide), m_yes3 M (by omega), bO_some, if_neg (show ¬ ((1 : Int32) = 0) by decide), if_neg (by decide), mo, q, bO_some, if_neg (by decide), ofg (by omega)]
      exact congrArg some (d1 q).1
  · cases q : (S 0 8).testBit p
    · exact ⟨_, by rw [f_X7_groupOf, if_neg (by rw [nL_neg (by omega)]; exact id), if_neg (by rw [nl4, nL_le (by omega) (by omega)]; omega), if_neg (by rw [nL_neg (by omega)]; exact id), if_pos (by rw [nl3, nL_le (by omega) (by omega)]; omega), f_X0_tell, if_neg (by decide), io, q, bO_some, if_pos (by decide), bO_some], by rw [f_X8_groupOf, m_yes3 M (v := p) (by omega), bO_some, if_neg (show ¬ ((1 : Int32) = 0) by decide), m_yes3 M (by omega), bO_some, if_neg (show ¬ ((1 : Int32) = 0) by decide), if_neg (by decide), mo, q, bO_some, if_pos (by decide)]⟩
    · refine ⟨_, by rw [f_X7_groupOf, if_neg (by rw [nL_neg (by omega)]; exact id), if_neg (by rw [nl4, nL_le (by omega) (by omega)]; omega), if_neg (by rw [nL_neg (by omega)]; exact id), if_pos (by rw [nl3, nL_le (by omega) (by omega)]; omega), f_X0_tell, if_neg (by decide), io, q, bO_some, if_neg (by decide), if_neg (by decide), if_pos (by decide), b2, bO_some, bO_some], ?_⟩
      rw [f_X8_groupOf, m_yes3 M (v := p) (by omega), bO_some, if_neg (show ¬ ((1 : Int32) = 0) by decide), m_yes3 M (by omega), bO_some, if_neg (show ¬ ((1 : Int32) = 0) by decide), if_neg (by decide), mo, q, bO_some, if_neg (by decide), ofg (by omega)]
      exact congrArg some (d1 q).2.1
  · cases q : (S 0 8).testBit p
    · exact ⟨_, by rw [f_X7_groupOf, if_neg (by rw [nL_neg (by omega)]; exact id), if_neg (by rw [nl4, nL_le (by omega) (by omega)]; omega), if_neg (by rw [nL_neg (by omega)]; exact id), if_pos (by rw [nl3, nL_le (by omega) (by omega)]; omega), f_X0_tell, if_neg (by decide), io, q, bO_some, if_pos (by decide), bO_some], by rw [f_X8_groupOf, m_yes3 M (v := p) (by omega), bO_some, if_neg (show ¬ ((1 : Int32) = 0) by decide), m_yes3 M (by omega), bO_some, if_neg (show ¬ ((1 : Int32) = 0) by decide), if_neg (by decide), mo, q, bO_some, if_pos (by decide)]⟩
    · refine ⟨_, by rw [f_X7_groupOf, if_neg (by rw [nL_neg (by omega)]; exact id), if_neg (by rw [nl4, nL_le (by omega) (by omega)]; omega), if_neg (by rw [nL_neg (by omega)]; exact id), if_pos (by rw [nl3, nL_le (by omega) (by omega)]; omega), f_X0_tell, if_neg (by decide), io, q, bO_some, if_neg (by decide), if_neg (by decide), if_neg (by decide), b3, bO_some, bO_some], ?_⟩
      rw [f_X8_groupOf, m_yes3 M (v := p) (by omega), bO_some, if_neg (show ¬ ((1 : Int32) = 0) by decide), m_yes3 M (by omega), bO_some, if_neg (show ¬ ((1 : Int32) = 0) by decide), if_neg (by decide), mo, q, bO_some, if_neg (by decide), ofg (by omega)]
      exact congrArg some (d1 q).2.2
theorem cl_hasbig (hc : RC (M 0) S) (hB : Bd b S) (hb : b < 2 ^ 29) (hN : S 0 1 ≤ 128) {n : Nat} (h1 : 2 ^ 30 ≤ n) (h2 : n < 2 ^ 31) : f_X2_has 0 M (nI n) = some 0 := by
  have y0 := hB 0 0
  rw [f_X2_has, hc.1.1, hc.1.2.1, if_neg (by rw [nL_lt (by omega) (by omega)]; omega), nL_sub (by omega), if_pos (by rw [nL_le (by omega) (by omega)]; omega)]
theorem q_rec (hc : RC (M 0) S) (hm : RQ (M 11 29) S) (hv : Inv b S) (a c : Int32) : ∃ v, f_X7_recordOf M a c = some v ∧ f_X8_recordOf M a c = some v := by
  obtain ⟨⟨n1, ⟨n2, n2'⟩, n3, n4, n5, n6, n7, n8, n9⟩, hj, hpi, hr, hst⟩ := id hv
  have y0 := n1 0 0
  have y2 := n1 0 2
  by_cases ha : a < 1
  · exact ⟨_, by rw [f_X7_recordOf, if_pos ha], by rw [f_X8_recordOf, if_pos ha]⟩
  rcases pk_ix c (n := 9) (by omega) with hc' | hc' | ⟨w, hw, rfl⟩
  · exact ⟨_, by rw [f_X7_recordOf, if_neg ha, if_pos hc'], by rw [f_X8_recordOf, if_neg ha, m_no M (Or.inl hc'), bO_some, if_pos rfl]⟩
  · refine ⟨-1000001, ?_, by rw [f_X8_recordOf, if_neg ha, show f_X8_in M c 0 8 = some 0 from m_no M (Or.inr (ge_nle hc' (m := 8) (by omega) (by omega)).2), bO_some, if_pos rfl]⟩
    rw [f_X7_recordOf, if_neg ha]
    by_cases z : c < 0
    · rw [if_pos z]
    · rw [if_neg z, if_neg (show ¬ c ≤ (8 : Int32) from (ge_nle hc' (m := 8) (by omega) (by omega)).1)]
  obtain ⟨n, hn, rfl⟩ := nI_of (x := a) (fun z => ha (by
    rw [Int32.lt_iff_toInt_lt] at z ⊢
    rw [show (0 : Int32).toInt = 0 from rfl] at z
    rw [show (1 : Int32).toInt = 1 from rfl]
    omega))
  have E7 : f_X7_recordOf M (nI n) (nI w) = bO (f_X2_tell 0 M (nI n) (nI w)) (fun v => some v) := by
    rw [f_X7_recordOf, if_neg ha, if_neg (by rw [nL_neg (by omega)]; exact id), if_pos (by rw [nl8, nL_le (by omega) (by omega)]; omega)]
  by_cases q : S 0 0 ≤ n ∧ n < S 0 0 + S 0 1
  · obtain ⟨q1, q2⟩ := id q
    have at' := fun (rw : Nat) => cl_atI (rw := rw) hc n1 (by omega) (by omega) (show n < 2 ^ 30 by omega) q1 q2
    obtain ⟨r1, r2, r3, r4, r5, r6⟩ := hc.2.2.2 (n - S 0 0) (by omega)
    obtain ⟨o0, o1, o2, o3, o4, o5⟩ := m_rec hm.1 hm.2.2.2 (by omega) q1 q2
    obtain ⟨-, -, -, -, -, -, o6, -⟩ := hm.2.2.2 (n - S 0 0) (by omega)
    rw [show S 0 0 + (n - S 0 0) = n by omega] at r1 r2 r3 r4 r5 r6 o6
    obtain ⟨w1, -, -⟩ := hj.1.1 n q1 q2
    have E8 : f_X8_recordOf M (nI n) (nI w) = (if nI w = (5 : Int32) then (if (M 11 29 2) < nI n then some (0 : Int32) else some (1 : Int32)) else if nI w = (6 : Int32) then f_X8_recordOf_L84 M (nI n) (nI w) (nI (S 9 n)) else if nI w = (7 : Int32) then f_X8_recordOf_L84 M (nI n) (nI w) (nI (S 9 n)) else if nI w = (8 : Int32) then bO (f_X8_of M (nI n) (5 : Int32)) (fun v14 => some v14) else bO (f_X8_of M (nI n) (nI w)) (fun v15 => some v15)) := by
      rw [f_X8_recordOf, if_neg ha, m_yes8 M (by omega), bO_some, if_neg (show ¬ ((1 : Int32) = 0) by decide), m_isRec hm.1 n1 (by omega) n5 hn, bO_some, decide_eq_true q, if_neg (show ¬ b01 true = 0 by decide), o0, bO_some]
    have key : ∃ v, f_X2_tell_L36 0 M (nI n) (nI w) (nI (S 9 n)) (if S 9 n = 1 ∨ S 9 n = 3 then 1 else 0) = some v ∧ (if nI w = (5 : Int32) then (if (M 11 29 2) < nI n then some (0 : Int32) else some (1 : Int32)) else if nI w = (6 : Int32) then f_X8_recordOf_L84 M (nI n) (nI w) (nI (S 9 n)) else if nI w = (7 : Int32) then f_X8_recordOf_L84 M (nI n) (nI w) (nI (S 9 n)) else if nI w = (8 : Int32) then bO (f_X8_of M (nI n) (5 : Int32)) (fun v14 => some v14) else bO (f_X8_of M (nI n) (nI w)) (fun v15 => some v15)) = some v := by
      rcases (show w = 0 ∨ w = 1 ∨ w = 2 ∨ w = 3 ∨ w = 4 ∨ w = 5 ∨ w = 6 ∨ w = 7 ∨ w = 8 by omega) with rfl | rfl | rfl | rfl | rfl | rfl | rfl | rfl | rfl
      · exact ⟨_, by rw [f_X2_tell_L36, if_pos (by decide)], by rw [if_neg (by decide), if_neg (by decide), if_neg (by decide), if_neg (by decide), show f_X8_of M (nI n) (nI 0) = _ from o0, bO_some]⟩
      · exact ⟨_, by rw [f_X2_tell_L36, if_neg (by decide), if_pos (by decide), at' 13, bO_some, r2], by rw [if_neg (by decide), if_neg (by decide), if_neg (by decide), if_neg (by decide), show f_X8_of M (nI n) (nI 1) = _ from o1, bO_some]⟩
      · exact ⟨_, by rw [f_X2_tell_L36, if_neg (by decide), if_neg (by decide), if_pos (by decide), at' 14, bO_some, r3], by rw [if_neg (by decide), if_neg (by decide), if_neg (by decide), if_neg (by decide), show f_X8_of M (nI n) (nI 2) = _ from o2, bO_some]⟩
      · refine ⟨_, ?_, by rw [if_neg (by decide), if_neg (by decide), if_neg (by decide), if_neg (by decide), show f_X8_of M (nI n) (nI 3) = _ from o3, bO_some]⟩
        rw [f_X2_tell_L36, if_neg (by decide), if_neg (by decide), if_neg (by decide), if_pos (by decide), at' 15, r4, ep]
        by_cases z : S 9 n = 1 ∨ S 9 n = 3
        · rw [if_pos z, if_pos z, if_neg (by decide), bO_some]
        · rw [if_neg z, if_neg z, if_pos rfl]
      · refine ⟨_, ?_, by rw [if_neg (by decide), if_neg (by decide), if_neg (by decide), if_neg (by decide), show f_X8_of M (nI n) (nI 4) = _ from o4, bO_some]⟩
        rw [f_X2_tell_L36, if_neg (by decide), if_neg (by decide), if_neg (by decide), if_neg (by decide), if_pos (by decide), at' 16, r5, ep]
        by_cases z : S 9 n = 1 ∨ S 9 n = 3
        · rw [if_pos z, if_pos z, if_neg (by decide), bO_some]
        · rw [if_neg z, if_neg z, if_pos rfl]
      · refine ⟨_, ?_, by rw [if_pos (by decide), hm.1.2.2.1, ← apply_ite some]⟩
        rw [f_X2_tell_L36, if_neg (by decide), if_neg (by decide), if_neg (by decide), if_neg (by decide), if_neg (by decide), if_pos (by decide), hc.1.2.2.1, ← apply_ite some]
      · by_cases z : S 9 n = 5
        · have e6 : f_X8_of M (nI n) ((6 + nI 6) - 6) = some (nI (S 12 n)) := (m_of hm.1 q1 (by omega) (k := 6) (by omega)).trans (congrArg some (o6 z).1)
          exact ⟨_, by rw [f_X2_tell_L36, if_neg (by decide), if_neg (by decide), if_neg (by decide), if_neg (by decide), if_neg (by decide), if_neg (by decide), if_pos (by decide), if_pos (by rw [z]; rfl), at' 15, bO_some, r4], by rw [if_neg (by decide), if_pos (by decide), f_X8_recordOf_L84, if_pos (by rw [z]; rfl), e6, bO_some]⟩
        · have z' : ¬ nI (S 9 n) = (5 : Int32) := by rw [nl5, nL_eq (by omega) (by omega)]; exact z
          exact ⟨_, by rw [f_X2_tell_L36, if_neg (by decide), if_neg (by decide), if_neg (by decide), if_neg (by decide), if_neg (by decide), if_neg (by decide), if_pos (by decide), if_neg z'], by rw [if_neg (by decide), if_pos (by decide), f_X8_recordOf_L84, if_neg z']⟩
      · by_cases z : S 9 n = 5
        · have e6 : f_X8_of M (nI n) ((6 + nI 7) - 6) = some (nI (S 13 n)) := (m_of hm.1 q1 (by omega) (k := 7) (by omega)).trans (congrArg some (o6 z).2)
          exact ⟨_, by rw [f_X2_tell_L36, if_neg (by decide), if_neg (by decide), if_neg (by decide), if_neg (by decide), if_neg (by decide), if_neg (by decide), if_neg (by decide), if_pos (by decide), if_pos (by rw [z]; rfl), at' 16, bO_some, r5], by rw [if_neg (by decide), if_neg (by decide), if_pos (by decide), f_X8_recordOf_L84, if_pos (by rw [z]; rfl), e6, bO_some]⟩
        · have z' : ¬ nI (S 9 n) = (5 : Int32) := by rw [nl5, nL_eq (by omega) (by omega)]; exact z
          exact ⟨_, by rw [f_X2_tell_L36, if_neg (by decide), if_neg (by decide), if_neg (by decide), if_neg (by decide), if_neg (by decide), if_neg (by decide), if_neg (by decide), if_pos (by decide), if_neg z'], by rw [if_neg (by decide), if_neg (by decide), if_pos (by decide), f_X8_recordOf_L84, if_neg z']⟩
      · by_cases z : S 9 n = 3
        · exact ⟨_, by rw [f_X2_tell_L36, if_neg (by decide), if_neg (by decide), if_neg (by decide), if_neg (by decide), if_neg (by decide), if_neg (by decide), if_neg (by decide), if_neg (by decide), if_pos (by rw [z]; rfl), at' 17, bO_some, r6], by rw [if_neg (by decide), if_neg (by decide), if_neg (by decide), if_pos (by decide), o5, bO_some, if_pos z]⟩
        · have z' : ¬ nI (S 9 n) = (3 : Int32) := by rw [nl3, nL_eq (by omega) (by omega)]; exact z
          exact ⟨_, by rw [f_X2_tell_L36, if_neg (by decide), if_neg (by decide), if_neg (by decide), if_neg (by decide), if_neg (by decide), if_neg (by decide), if_neg (by decide), if_neg (by decide), if_neg z'], by rw [if_neg (by decide), if_neg (by decide), if_neg (by decide), if_pos (by decide), o5, bO_some, if_neg z]⟩
    obtain ⟨v, e1, e2⟩ := key
    refine ⟨v, ?_, E8.trans e2⟩
    rw [E7, f_X2_tell, cl_has hc n1 (by omega) (by omega) (by omega), bO_some, decide_eq_true q, if_neg (show ¬ b01 true = 0 by decide), at' 12, bO_some, r1]
    by_cases k1 : S 9 n = 1
    · rw [if_pos (Or.inl k1)] at e1
      rw [if_pos (by rw [k1]; rfl), f_X2_tell_L31, e1, bO_some]
    · rw [if_neg (by rw [nl1, nL_eq (by omega) (by omega)]; exact k1)]
      by_cases k3 : S 9 n = 3
      · rw [if_pos (Or.inr k3)] at e1
        rw [if_pos (by rw [k3]; rfl), f_X2_tell_L31, e1, bO_some]
      · rw [if_neg (by omega)] at e1
        rw [if_neg (by rw [nl3, nL_eq (by omega) (by omega)]; exact k3), e1, bO_some]
  · refine ⟨-1000004, ?_, ?_⟩
    · rw [E7, f_X2_tell]
      by_cases big : 2 ^ 30 ≤ n
      · rw [cl_hasbig hc n1 (by omega) (by omega) big hn, bO_some, if_pos rfl, bO_some]
      · rw [cl_has hc n1 (by omega) (by omega) (by omega), bO_some, decide_eq_false q, if_pos (show b01 false = 0 from rfl), bO_some]
    · rw [f_X8_recordOf, if_neg ha, m_yes8 M (by omega), bO_some, if_neg (show ¬ ((1 : Int32) = 0) by decide), m_isRec hm.1 n1 (by omega) n5 hn, bO_some, decide_eq_false q, if_pos (show b01 false = 0 from rfl)]
theorem q_count (hw : WC M S h P) (hd : WD M S h P) (hv : Inv b S) (ht : M 9 25 1 = nI tl) (ht2 : M 11 28 7 = nI tl) (a : Int32) : ∃ v, f_X7_count M a = some v ∧ f_X8_count M a = some v := by
  obtain ⟨⟨n1, ⟨n2, n2'⟩, n3, n4, n5, n6, n7, n8, n9⟩, hj, hpi, hr, hst⟩ := id hv
  obtain ⟨hc, h4, o, ho, e1, e2, -⟩ := hw
  obtain ⟨hm, m4, -, -⟩ := hd
  obtain ⟨x1, x2, x3, x4, x5, ⟨x6, x7⟩, x8, x9, x10⟩ := hc.1
  obtain ⟨k0, k1, k2, k3, k4⟩ := hm.1
  have y0 := n1 0 0
  have y2 := n1 0 2
  by_cases a0 : a = nI 0
  · subst a0
    exact ⟨_, by rw [f_X7_count, if_neg (by decide), if_neg (by decide), if_neg (by decide), if_neg (by decide), if_neg (by decide), if_neg (by decide), if_neg (by decide), if_neg (by decide), if_neg (by decide), f_X7_count_L125, f_X2_tellNumber, if_pos (by decide), bO_some, x2], by rw [f_X8_count, if_pos (by decide), k1]⟩
  by_cases a1 : a = nI 1
  · subst a1
    by_cases z : nI (S 0 1) = 0
    · exact ⟨_, by rw [f_X7_count, if_neg (by decide), if_neg (by decide), if_neg (by decide), if_neg (by decide), if_neg (by decide), if_neg (by decide), if_neg (by decide), if_neg (by decide), if_neg (by decide), f_X7_count_L125, f_X2_tellNumber, if_neg (by decide), if_pos (by decide), x2, if_pos z, bO_some], by rw [f_X8_count, if_neg (by decide), if_pos (by decide), k1, if_pos z]⟩
    · exact ⟨_, by rw [f_X7_count, if_neg (by decide), if_neg (by decide), if_neg (by decide), if_neg (by decide), if_neg (by decide), if_neg (by decide), if_neg (by decide), if_neg (by decide), if_neg (by decide), f_X7_count_L125, f_X2_tellNumber, if_neg (by decide), if_pos (by decide), x2, if_neg z, bO_some, x1], by rw [f_X8_count, if_neg (by decide), if_pos (by decide), k1, if_neg z, k0]⟩
  by_cases a2 : a = nI 2
  · subst a2
    refine ⟨_, by rw [f_X7_count, if_neg (by decide), if_neg (by decide), if_neg (by decide), if_neg (by decide), if_neg (by decide), if_neg (by decide), if_neg (by decide), if_neg (by decide), if_neg (by decide), f_X7_count_L125, f_X2_tellNumber, if_neg (by decide), if_neg (by decide), if_pos (by decide), cl_last hc n1 (by omega), bO_some, bO_some], ?_⟩
    rw [f_X8_count, if_neg (by decide), if_neg (by decide), if_pos (by decide), k1, m_last hm.1 n5, bO_some]
    by_cases z : S 0 1 = 0
    · rw [if_pos (by rw [z]; rfl), if_pos z]; rfl
    · rw [if_neg (by rw [nl0, nL_eq (by omega) (by omega)]; exact z), if_neg z]
  by_cases a3 : a = nI 3
  · subst a3
    have e1 : ((nI (S 0 2) - nI (S 0 0)) + (1 : Int32)) = nI (S 0 2 + 1 - S 0 0) := by
      rw [show (nI (S 0 2) - nI (S 0 0)) + (1 : Int32) = (nI (S 0 2) + 1) - nI (S 0 0) by rw [Int32.sub_eq_add_neg, Int32.sub_eq_add_neg, Int32.add_assoc, Int32.add_comm (-nI (S 0 0)) 1, ← Int32.add_assoc], nI_1, nL_sub (by omega)]
    have e2 : (if (0 : Int32) < nI (S 0 2 + 1 - S 0 0) then nI (S 0 2 + 1 - S 0 0) else (0 : Int32)) = nI (S 0 2 + 1 - S 0 0) := by
      by_cases q : S 0 2 + 1 - S 0 0 = 0
      · rw [q]; rfl
      · rw [if_pos (by rw [nl0, nL_lt (by omega) (by omega)]; omega)]
    have mo : (if nI (S 0 2) < nI (S 0 0) then some (0 : Int32) else some (nI (S 0 2 + 1 - S 0 0))) = some (nI (S 0 2 + 1 - S 0 0)) := by
      by_cases q : S 0 2 < S 0 0
      · rw [if_pos (by rw [nL_lt (by omega) (by omega)]; exact q), show S 0 2 + 1 - S 0 0 = 0 by omega]; rfl
      · rw [if_neg (by rw [nL_lt (by omega) (by omega)]; exact q)]
    refine ⟨nI (S 0 2 + 1 - S 0 0), ?_, by rw [f_X8_count, if_neg (by decide), if_neg (by decide), if_neg (by decide), if_pos (by decide), k2, k0, e1]; exact mo⟩
    rw [f_X7_count, if_neg (by decide), if_neg (by decide), if_neg (by decide), if_neg (by decide), if_neg (by decide), if_neg (by decide), if_neg (by decide), if_neg (by decide), if_neg (by decide), f_X7_count_L125, f_X2_tellNumber, if_neg (by decide), if_neg (by decide), if_neg (by decide), if_pos (by decide), x2, x3, x1, e1, e2]
    by_cases z : S 0 1 = 0
    · have := n8 z
      rw [if_pos (by rw [z]; rfl), bO_some, show S 0 2 + 1 - S 0 0 = 0 by omega]; rfl
    · rw [if_neg (by rw [nl0, nL_eq (by omega) (by omega)]; exact z), bO_some]
  by_cases a4 : a = nI 4
  · subst a4
    exact ⟨_, by rw [f_X7_count, if_pos (by decide), x10], by rw [f_X8_count, if_neg (by decide), if_neg (by decide), if_neg (by decide), if_neg (by decide), if_pos (by decide), m_openSet hm.2.2.1 n9.2.2.1, bO_some]⟩
  by_cases a5 : a = nI 5
  · subst a5
    exact ⟨_, by rw [f_X7_count, if_neg (by decide), if_pos (by decide), x8], by rw [f_X8_count, if_neg (by decide), if_neg (by decide), if_neg (by decide), if_neg (by decide), if_neg (by decide), if_pos (by decide), f_X8_count_L153, show nI 5 - (5 : Int32) = 0 by decide, m_pages0 hm.2.1 n9.1, bO_some]⟩
  by_cases a6 : a = nI 6
  · subst a6
    exact ⟨_, by rw [f_X7_count, if_neg (by decide), if_neg (by decide), if_pos (by decide), x9], by rw [f_X8_count, if_neg (by decide), if_neg (by decide), if_neg (by decide), if_neg (by decide), if_neg (by decide), if_neg (by decide), if_pos (by decide), f_X8_count_L153, show nI 6 - (5 : Int32) = 1 by decide, m_pages1 hm.2.1 n9.2.1 n1 (by omega) hpi, bO_some]⟩
  by_cases a7 : a = nI 7
  · subst a7
    refine ⟨nI (S 0 5), ?_, by rw [f_X8_count, if_neg (by decide), if_neg (by decide), if_neg (by decide), if_neg (by decide), if_neg (by decide), if_neg (by decide), if_neg (by decide), if_pos (by decide), k3]⟩
    rw [f_X7_count, if_neg (by decide), if_neg (by decide), if_neg (by decide), if_pos (by decide), x6]
    rcases (show S 0 5 = 0 ∨ S 0 5 = 1 by have := n9.2.2.2.2; omega) with e | e
    · rw [e]; rfl
    · rw [e]; rfl
  by_cases a8 : a = nI 8
  · subst a8
    exact ⟨_, by rw [f_X7_count, if_neg (by decide), if_neg (by decide), if_neg (by decide), if_neg (by decide), if_pos (by decide), f_X7_count_L125, f_X2_tellNumber, if_neg (by decide), if_neg (by decide), if_neg (by decide), if_neg (by decide), if_neg (by decide), if_neg (by decide), if_neg (by decide), if_neg (by decide), if_pos (by decide), bO_some, x4], by rw [f_X8_count, if_neg (by decide), if_neg (by decide), if_neg (by decide), if_neg (by decide), if_neg (by decide), if_neg (by decide), if_neg (by decide), if_neg (by decide), if_pos (by decide), m_latest hm.1 hm.2.2.2 n1 (by omega) n4 hj, bO_some]⟩
  by_cases a9 : a = nI 9
  · subst a9
    exact ⟨_, by rw [f_X7_count, if_neg (by decide), if_neg (by decide), if_neg (by decide), if_neg (by decide), if_neg (by decide), if_pos (by decide), f_X7_count_L125, f_X2_tellNumber, if_neg (by decide), if_neg (by decide), if_neg (by decide), if_neg (by decide), if_neg (by decide), if_neg (by decide), if_neg (by decide), if_neg (by decide), if_neg (by decide), if_pos (by decide), cl_droppable hc n1 (by omega), bO_some, bO_some], by rw [f_X8_count, if_neg (by decide), if_neg (by decide), if_neg (by decide), if_neg (by decide), if_neg (by decide), if_neg (by decide), if_neg (by decide), if_neg (by decide), if_neg (by decide), if_pos (by decide), m_canDrop hm.1 hm.2.2.2 n1 (by omega) n4 hj, bO_some]⟩
  by_cases a10 : a = nI 10
  · subst a10
    exact ⟨_, by rw [f_X7_count, if_neg (by decide), if_neg (by decide), if_neg (by decide), if_neg (by decide), if_neg (by decide), if_neg (by decide), if_pos (by decide), x7], by rw [f_X8_count, if_neg (by decide), if_neg (by decide), if_neg (by decide), if_neg (by decide), if_neg (by decide), if_neg (by decide), if_neg (by decide), if_neg (by decide), if_neg (by decide), if_neg (by decide), if_pos (by decide), k4]⟩
  by_cases a11 : a = nI 11
  · subst a11
    exact ⟨_, by rw [f_X7_count, if_neg (by decide), if_neg (by decide), if_neg (by decide), if_neg (by decide), if_neg (by decide), if_neg (by decide), if_neg (by decide), if_pos (by decide), e2], by rw [f_X8_count, if_neg (by decide), if_neg (by decide), if_neg (by decide), if_neg (by decide), if_neg (by decide), if_neg (by decide), if_neg (by decide), if_neg (by decide), if_neg (by decide), if_neg (by decide), if_neg (by decide), if_pos (by decide), m4]⟩
  by_cases a12 : a = nI 12
  · subst a12
    exact ⟨_, by rw [f_X7_count, if_neg (by decide), if_neg (by decide), if_neg (by decide), if_neg (by decide), if_neg (by decide), if_neg (by decide), if_neg (by decide), if_neg (by decide), if_pos (by decide), ht], by rw [f_X8_count, if_neg (by decide), if_neg (by decide), if_neg (by decide), if_neg (by decide), if_neg (by decide), if_neg (by decide), if_neg (by decide), if_neg (by decide), if_neg (by decide), if_neg (by decide), if_neg (by decide), if_neg (by decide), if_pos (by decide), ht2]⟩
  change ¬ a = (0 : Int32) at a0
  change ¬ a = (1 : Int32) at a1
  change ¬ a = (2 : Int32) at a2
  change ¬ a = (3 : Int32) at a3
  change ¬ a = (4 : Int32) at a4
  change ¬ a = (5 : Int32) at a5
  change ¬ a = (6 : Int32) at a6
  change ¬ a = (7 : Int32) at a7
  change ¬ a = (8 : Int32) at a8
  change ¬ a = (9 : Int32) at a9
  change ¬ a = (10 : Int32) at a10
  change ¬ a = (11 : Int32) at a11
  change ¬ a = (12 : Int32) at a12
  refine ⟨-1000001, ?_, ?_⟩
  · rw [f_X7_count, if_neg a4, if_neg a5, if_neg a6, if_neg a7, if_neg a8, if_neg a9, if_neg a10, if_neg a11, if_neg a12, f_X7_count_L125, f_X2_tellNumber, if_neg a0, if_neg a1, if_neg a2, if_neg a3, if_neg a4, if_neg a5, if_neg a6, if_neg a7, if_neg a8, if_neg a9, bO_some]
  · rw [f_X8_count, if_neg a0, if_neg a1, if_neg a2, if_neg a3, if_neg a4, if_neg a5, if_neg a6, if_neg a7, if_neg a8, if_neg a9, if_neg a10, if_neg a11, if_neg a12]
end QU
