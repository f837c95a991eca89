/-! taking back -/
section PH
variable {S T : St}
theorem phi_ext2 {F N : Nat} (e : ∀ n, n < F + N → T 9 n = S 9 n ∧ T 10 n = S 10 n ∧ T 14 n = S 14 n) : phi T F (N + 1) ≤ phi S F N + 2 := by
  have h := cnt_mono (P := alv T (F + N + 1)) (Q := alv S (F + N)) (lo := F) N (fun n a b q => by
    refine alv_cg (fun m c => ⟨(e m c).1.symm, (e m c).2.1.symm, (e m c).2.2.symm⟩) b ?_
    rcases q with ⟨q1, q2⟩ | ⟨q1, q2⟩
    · exact Or.inl ⟨q1, fun m c1 c2 => q2 m c1 (by omega)⟩
    · exact Or.inr ⟨q1, fun m c1 c2 => q2 m c1 (by omega)⟩)
  have h3 := cI_le (alv T (F + N + 1) (F + N))
  unfold phi
  rw [show F + (N + 1) = F + N + 1 by omega, cnt]
  omega
theorem phi_drop2 (S : St) (F e d : Nat) : phi S (F + e) d + e ≤ phi S F (e + d) := by
  unfold phi
  rw [show F + e + d = F + (e + d) by omega, cnt_add]
  omega
theorem phi_n (S : St) (F N : Nat) : N ≤ phi S F N := by
  unfold phi
  omega
theorem tst_phi {l0 k : Nat} {x : X4} (h : TI S l0 (k + 1) x) (hF : S 0 0 ≤ k) : phi (tst k x).1 ((tst k x).1 0 0) ((tst k x).1 0 1) ≤ phi x.1 (x.1 0 0) (x.1 0 1) := by
  obtain ⟨⟨hj, hp, hs, a1, a2⟩, so, tk, hl, lb, oj, ot, op⟩ := h
  have eF0 : x.1 0 0 = S 0 0 := so 0 0 (by omega)
  obtain ⟨w1, w2, w3⟩ := hj.1.1 k (by omega) (by omega)
  unfold tst
  by_cases h3 : x.1 9 k = 3
  · rw [if_pos h3]; exact Nat.le_refl _
  rw [if_neg h3]
  by_cases h5 : x.1 9 k = 5
  · rw [if_pos h5]; exact Nat.le_refl _
  rw [if_neg h5]
  by_cases ho : x.2.1.testBit (x.1 10 k) = true
  · rw [if_pos ho]
    have hg := w2 h5
    by_cases h0 : x.1 9 k = 0
    · rw [if_pos h0]
      obtain ⟨T, eT⟩ : ∃ T, T = endg x.1 (x.1 10 k) := ⟨_, rfl⟩
      have E : EX x.1 T 4 (x.1 10 k) 0 := EX_of EX_app (fun f i a => by rw [eT, endg_o (by omega)])
      obtain ⟨eF, eN, er, e9, e10, e14⟩ := id E
      show phi (endg x.1 (x.1 10 k)) (endg x.1 (x.1 10 k) 0 0) (endg x.1 (x.1 10 k) 0 1) ≤ _
      rw [← eT, eF, eN]
      obtain ⟨b1, n, b2, b3, b4⟩ := lb _ hg ho
      have enk : n = k := by
        by_cases e : n = k
        · exact e
        · exact absurd ⟨Or.inl h0, rfl⟩ (b3.2.2.2 k (by omega) (by omega))
      rw [enk] at b3
      refine phi_pay (T := T) (S := x.1) (t := k) (fun m hm => ⟨(er m hm).1, (er m hm).2.1, (er m hm).2.2.2.2⟩) (by omega) (by omega) ?_ ?_ ?_
      · exact Or.inr ⟨h0, fun m m1 m2 => b3.2.2.2 m m1 m2⟩
      · rintro (⟨z, -⟩ | ⟨z1, z2⟩)
        · rw [(er k (by omega)).1] at z; omega
        · refine z2 (x.1 0 0 + x.1 0 1) (by omega) (by omega) ⟨?_, ?_⟩
          · rw [e9]; exact Or.inr (Or.inr rfl)
          · rw [(er k (by omega)).2.1, e10]
      · rw [e9]; omega
    · rw [if_neg h0]
      by_cases h1 : x.1 9 k = 1 ∧ x.2.2.1 k = false
      · rw [if_pos h1]
        obtain ⟨T, eT⟩ : ∃ T, T = twb x.1 k := ⟨_, rfl⟩
        have E : EX x.1 T 3 (x.1 10 k) k := EX_of EX_app (fun f i a => by rw [eT, twb, put_o (by omega)])
        obtain ⟨eF, eN, er, e9, e10, e14⟩ := id E
        show phi (twb x.1 k) (twb x.1 k 0 0) (twb x.1 k 0 1) ≤ _
        rw [← eT, eF, eN]
        refine phi_pay (T := T) (S := x.1) (t := k) (fun m hm => ⟨(er m hm).1, (er m hm).2.1, (er m hm).2.2.2.2⟩) (by omega) (by omega) ?_ ?_ ?_
        · refine Or.inl ⟨h1.1, fun m m1 m2 z => ?_⟩
          have := (tk k hF (by omega)).mpr ⟨m, by omega, by omega, z.1, z.2⟩
          rw [h1.2] at this
          exact nomatch this
        · rintro (⟨z1, z2⟩ | ⟨z, -⟩)
          · exact z2 (x.1 0 0 + x.1 0 1) (by omega) (by omega) ⟨e9, e14⟩
          · rw [(er k (by omega)).1] at z; omega
        · rw [e9]; omega
      · rw [if_neg h1]; exact Nat.le_refl _
  · rw [if_neg ho]; exact Nat.le_refl _
theorem tlb_phi (hF : 1 ≤ S 0 0) {l0 : Nat} : ∀ (d : Nat) (x : X4), TI S l0 (S 0 0 + d) x → phi (tlb (S 0 0 - 1) d x).1 ((tlb (S 0 0 - 1) d x).1 0 0) ((tlb (S 0 0 - 1) d x).1 0 1) ≤ phi x.1 (x.1 0 0) (x.1 0 1)
  | 0, x, h => Nat.le_refl _
  | d + 1, x, h => by
    rw [tlb]
    by_cases q : x.2.1 = 0
    · rw [if_pos q]; exact Nat.le_refl _
    · rw [if_neg q]
      have e : S 0 0 - 1 + d + 1 = S 0 0 + d := by omega
      have h' : TI S l0 (S 0 0 + d + 1) x := h
      have h1 := tst_phi h' (by omega)
      have h2 := tlb_phi hF d (tst (S 0 0 - 1 + d + 1) x) (by rw [e]; exact TI_step h' (by omega))
      rw [e] at h2 ⊢
      exact Nat.le_trans h2 h1
end PH
/-- the end of the search for a record that took back -/
noncomputable def wfin (K12 : Mem → Int32 → Int32 → Int32 → Option (Int32 × Mem)) (M : Mem) (y4 y5 y6 y7 y8 y9 : Int32) : Option (Int32 × Mem) :=
  if y7 = (1 : Int32) then
    (if ((y5 >>> (y8 &&& 31)) &&& (1 : Int32)) = (1 : Int32) then
      (if y9 = 0 then
        bO (f_L_of M y6 (2 : Int32)) (fun v13 =>
        bO (f_L_of M y6 (3 : Int32)) (fun v14 =>
        bO (f_L_value M v13) (fun v15 =>
        bO (f_L_of M y6 (3 : Int32)) (fun v16 =>
        bP (f_L_add M (3 : Int32) y8 v13 v15 v16 y6) (fun v17 M18 =>
        bO (f_L_come M18 v13 v14 v17) (fun M20 =>
        bd (y4 + (1 : Int32)) (fun x21 =>
        f_L_back_L214 K12 M20 x21 y5 y6)))))))
      else f_L_back_L214 K12 M y4 y5 y6)
    else f_L_back_L214 K12 M y4 y5 y6)
  else f_L_back_L214 K12 M y4 y5 y6
section LB1
variable {M : Mem} {S T : St} {O : Nat → Bool} {b p g n t : Nat}
theorem LO_o (to : ∀ f i, ¬ (f = 0 ∧ i = 8) → T f i = S f i) (h : LO O M S) : LO O M T := by
  obtain ⟨k1, k2, k3, k4, k5⟩ := h
  exact ⟨LG_cg k1 (to _ _ (by omega)) (to _ _ (by omega)) (to _ _ (by omega)) (to _ _ (by omega)) (to _ _ (by omega)), LQ_cg k2 (fun f i _ hf => to _ _ (by omega)), LPg_cg k3 (fun f i _ hf => to _ _ (by omega)), LR_cg k4 (to _ _ (by omega)) (to _ _ (by omega)) (fun f i a c => to _ _ (by omega)), LN_cg k5 (to _ _ (by omega)) (fun p _ => to _ _ (by omega))⟩
theorem val_lt {s : Nat → Int32} (h : LPg s S) (hp : p < 8) : val S p < 128 := by
  obtain ⟨⟨-, h0⟩, -, -, h3, -⟩ := h p hp
  unfold val
  split
  · exact (h3 ‹_›).1.2
  · exact h0
theorem l_was (K12 : Mem → Int32 → Int32 → Int32 → Option (Int32 × Mem)) (hG : LG (M 11 28) S) (hR : LR (wd M) S) (hB : Bd b S) (hb : b < 2 ^ 28) (hN : S 0 1 ≤ 64) (hF : 1 ≤ S 0 0) (y4 y5 y7 y8 : Int32) {k : Nat} (hk : k < 2 ^ 29) : ∀ d n fu (c : Bool), n + d = S 0 0 + S 0 1 → S 0 0 ≤ n → d < fu → ∃ r : Bool, itr (f_L_back_L87 K12) (fun _ _ _ _ _ _ _ _ => none) fu M y4 y5 (nI k) y7 y8 (b01 c) (nI n) = wfin K12 M y4 y5 (nI k) y7 y8 (b01 r) ∧ (r = true ↔ (c = true ∨ ∃ m, n ≤ m ∧ m < S 0 0 + S 0 1 ∧ S 9 m = 3 ∧ S 14 m = k)) := by
  have y0 := hB 0 0
  intro d
  induction d with
  | zero =>
    intro n fu c hn h1 hf
    obtain ⟨f, rfl⟩ : ∃ f, fu = f + 1 := ⟨fu - 1, by omega⟩
    refine ⟨c, ?_, ⟨fun z => Or.inl z, fun z => z.elim id (fun ⟨m, a1, a2, _⟩ => by omega)⟩⟩
    rw [itr_s, f_L_back_L87, l_last hG hF, bO_some, if_pos (by rw [nL_lt (by omega) (by omega)]; omega)]
    rfl
  | succ d ih =>
    intro n fu c hn h1 hf
    obtain ⟨f, rfl⟩ : ∃ f, fu = f + 1 := ⟨fu - 1, by omega⟩
    rw [itr_s, f_L_back_L87, l_last hG hF, bO_some, if_neg (by rw [nL_lt (by omega) (by omega)]; omega)]
    cases c
    · rw [if_pos (show b01 false = 0 from rfl)]
      obtain ⟨o0, -, -, -, o5, -⟩ := l_rec hG hR hN h1 (by omega)
      have y9 := hB 9 n
      have y14 := hB 14 n
      have no : ¬ (S 9 n = 3 ∧ S 14 n = k) → ∃ r : Bool, f_L_back_L130 K12 (itr (f_L_back_L87 K12) (fun _ _ _ _ _ _ _ _ => none) f) M y4 y5 (nI k) y7 y8 (nI n) = wfin K12 M y4 y5 (nI k) y7 y8 (b01 r) ∧ (r = true ↔ (false = true ∨ ∃ m, n ≤ m ∧ m < S 0 0 + S 0 1 ∧ S 9 m = 3 ∧ S 14 m = k)) := fun z => by
        obtain ⟨r, e1, e2⟩ := ih (n + 1) f false (by omega) (by omega) (by omega)
        refine ⟨r, ?_, e2.trans ⟨fun y => ?_, fun y => ?_⟩⟩
        · rw [f_L_back_L130, f_L_back_L131, bd, nI_1]
          exact e1
        · rcases y with y | ⟨m, a1, a2⟩
          · exact Or.inl y
          · exact Or.inr ⟨m, by omega, a2⟩
        · rcases y with y | ⟨m, a1, a2, a3, a4⟩
          · exact Or.inl y
          · refine Or.inr ⟨m, ?_, a2, a3, a4⟩
            by_cases e : m = n
            · rw [e] at a3 a4; exact absurd ⟨a3, a4⟩ z
            · omega
      rw [o0, bO_some]
      by_cases k3' : S 9 n = 3
      · rw [if_pos (by rw [k3']; rfl), (o5 k3').1, bO_some]
        by_cases ek : S 14 n = k
        · rw [if_pos (by rw [ek])]
          obtain ⟨r, e1, e2⟩ := ih (n + 1) f true (by omega) (by omega) (by omega)
          refine ⟨r, ?_, ⟨fun _ => Or.inr ⟨n, Nat.le_refl _, by omega, k3', ek⟩, fun _ => e2.mpr (Or.inl rfl)⟩⟩
          rw [f_L_back_L126, f_L_back_L131, bd, nI_1]
          exact e1
        · rw [if_neg (by rw [nL_eq (by omega) (by omega)]; exact ek)]
          exact no (fun z => ek z.2)
      · rw [if_neg (by rw [nl3, nL_eq (by omega) (by omega)]; exact k3')]
        exact no (fun z => k3' z.1)
    · rw [if_neg (show ¬ b01 true = 0 by decide)]
      obtain ⟨r, e1, e2⟩ := ih (n + 1) f true (by omega) (by omega) (by omega)
      refine ⟨r, ?_, ⟨fun _ => Or.inl rfl, fun _ => e2.mpr (Or.inl rfl)⟩⟩
      rw [f_L_back_L126, f_L_back_L131, bd, nI_1]
      exact e1
theorem l_was78 (K12 : Mem → Int32 → Int32 → Int32 → Option (Int32 × Mem)) (hG : LG (M 11 28) S) (hR : LR (wd M) S) (hB : Bd b S) (hb : b < 2 ^ 28) (hN : S 0 1 ≤ 64) (hF : 1 ≤ S 0 0) (y4 y5 y7 y8 : Int32) {k : Nat} (hk1 : S 0 0 ≤ k) (hk2 : k < S 0 0 + S 0 1) : ∃ r : Bool, f_L_back_L78 K12 M y4 y5 (nI k) y7 y8 = wfin K12 M y4 y5 (nI k) y7 y8 (b01 r) ∧ (r = true ↔ ∃ m, k + 1 ≤ m ∧ m < S 0 0 + S 0 1 ∧ S 9 m = 3 ∧ S 14 m = k) := by
  have y0 := hB 0 0
  obtain ⟨r, e1, e2⟩ := l_was K12 hG hR hB hb hN hF y4 y5 y7 y8 (k := k) (by omega) (S 0 0 + S 0 1 - (k + 1)) (k + 1) FU false (by omega) (by omega) (by show _ < 10000; omega)
  refine ⟨r, ?_, e2.trans ⟨fun z => z.elim (fun y => nomatch y) id, Or.inr⟩⟩
  rw [f_L_back_L78, bd, nI_1]
  exact e1
theorem wfin_no (K12 : Mem → Int32 → Int32 → Int32 → Option (Int32 × Mem)) {y4 y5 y6 y7 y8 y9 : Int32} (h : ¬ (y7 = 1 ∧ ((y5 >>> (y8 &&& 31)) &&& (1 : Int32)) = (1 : Int32) ∧ y9 = 0)) : wfin K12 M y4 y5 y6 y7 y8 y9 = f_L_back_L214 K12 M y4 y5 y6 := by
  unfold wfin
  by_cases a : y7 = 1
  · rw [if_pos a]
    by_cases c : ((y5 >>> (y8 &&& 31)) &&& (1 : Int32)) = (1 : Int32)
    · rw [if_pos c]
      by_cases e : y9 = 0
      · exact absurd ⟨a, c, e⟩ h
      · rw [if_neg e]
    · rw [if_neg c]
  · rw [if_neg a]
/-- with no group left nothing more is taken back -/
theorem l_back_z (hG : LG (M 11 28) S) (hR : LR (wd M) S) (hB : Bd b S) (hb : b < 2 ^ 28) (hN : S 0 1 ≤ 64) {lo : Nat} (hlo : S 0 0 = lo + 1) (y4 : Int32) : ∀ d fu, d ≤ S 0 1 → d < fu → itr (f_L_back_L12) (fun _ _ _ _ => none) fu M y4 (nI 0) (nI (lo + d)) = some (y4, M) := by
  have y0 := hB 0 0
  intro d
  induction d with
  | zero =>
    intro fu hd hf
    obtain ⟨f, rfl⟩ : ∃ f, fu = f + 1 := ⟨fu - 1, by omega⟩
    rw [itr_s, f_L_back_L12, if_pos (by rw [hG.1, nL_lt (by omega) (by omega)]; omega)]
  | succ d ih =>
    intro fu hd hf
    obtain ⟨f, rfl⟩ : ∃ f, fu = f + 1 := ⟨fu - 1, by omega⟩
    obtain ⟨o0, ⟨g1, hg1, o1, -⟩, -⟩ := l_rec hG hR hN (n := lo + (d + 1)) (by omega) (by omega)
    have y9 := hB 9 (lo + (d + 1))
    have bz : ((nI 0 >>> (nI g1 &&& 31)) &&& (1 : Int32)) = b01 false := by
      rw [bit8 0 (by omega) g1 hg1, Nat.zero_testBit]
    have fin : f_L_back_L78 (itr (f_L_back_L12) (fun _ _ _ _ => none) f) M y4 (nI 0) (nI (lo + (d + 1))) (nI (S 9 (lo + (d + 1)))) (nI g1) = some (y4, M) := by
      obtain ⟨r, e1, -⟩ := l_was78 (itr (f_L_back_L12) (fun _ _ _ _ => none) f) hG hR hB hb hN (by omega) y4 (nI 0) (nI (S 9 (lo + (d + 1)))) (nI g1) (k := lo + (d + 1)) (by omega) (by omega)
      rw [e1, wfin_no _ (by rw [bz]; exact fun z => absurd z.2.1 (by decide)), f_L_back_L214, bd, show nI (lo + (d + 1)) + (-1 : Int32) = nI (lo + d) from pk_m1 _]
      exact ih f (by omega) (by omega)
    rw [itr_s, f_L_back_L12, if_neg (by rw [hG.1, nL_lt (by omega) (by omega)]; omega), o0, bO_some, o1, bO_some, bz, if_neg (show ¬ b01 false = 1 by decide), ite_self]
    exact fin
theorem l_back0 {l0 lo : Nat} (hlo : S 0 0 = lo + 1) (h256 : S 0 0 + S 0 1 ≤ 256) : ∀ (d fu b : Nat) (x : X4) (M : Mem), TI S l0 (lo + d + 1) x → LO O M x.1 → Lp b x.1 → b + d < 2 ^ 28 → d < fu → d ≤ S 0 1 → phi x.1 (x.1 0 0) (x.1 0 1) ≤ 64 →
    ∃ M', itr (f_L_back_L12) (fun _ _ _ _ => none) fu M (nI x.2.2.2) (nI x.2.1) (nI (lo + d)) = some (nI (tlb lo d x).2.2.2, M') ∧ LO O M' (tlb lo d x).1 ∧ FQ RB M M' := by
  intro d
  induction d with
  | zero =>
    intro fu b x M ti h hl hb hf hd ph
    obtain ⟨f, rfl⟩ : ∃ f, fu = f + 1 := ⟨fu - 1, by omega⟩
    have e0 : x.1 0 0 = S 0 0 := ti.2.1 0 0 (by omega)
    have y0 := hl.1 0 0
    have hb2 := hl.2.2.1
    refine ⟨M, ?_, h, FQ.rf⟩
    rw [itr_s, f_L_back_L12, if_pos (by rw [h.1.1, nL_lt (by omega) (by omega)]; omega)]
    rfl
  | succ d ih =>
    intro fu b x M ti h hl hb hf hd ph
    have e0 : x.1 0 0 = S 0 0 := ti.2.1 0 0 (by omega)
    have y0 := hl.1 0 0
    have hb2 := hl.2.2.1
    obtain ⟨⟨hj, hp, hs, a1, a2⟩, so, tk, hlt, lb, oj, ot, op⟩ := id ti
    have hN : x.1 0 1 ≤ 64 := Nat.le_trans (phi_n _ _ _) ph
    rw [tlb]
    by_cases qz : x.2.1 = 0
    · rw [if_pos qz, qz]
      exact ⟨M, l_back_z h.1 h.2.2.2.1 hl.1 hb2 hN (lo := lo) (by omega) _ (d + 1) fu (by omega) hf, h, FQ.rf⟩
    · obtain ⟨f, rfl⟩ : ∃ f, fu = f + 1 := ⟨fu - 1, by omega⟩
      rw [itr_s, f_L_back_L12, if_neg (by rw [h.1.1, nL_lt (by omega) (by omega)]; omega), show lo + (d + 1) = lo + d + 1 by omega, if_neg qz]
      have n1 : x.1 0 0 ≤ lo + d + 1 := by omega
      have n2 : lo + d + 1 < x.1 0 0 + x.1 0 1 := by omega
      obtain ⟨w1, w2, w3⟩ := hl.2.2.2.2.2 _ n1 n2
      obtain ⟨o0, ⟨g1, hg1, o1, o1e⟩, ⟨p1, hp1, o2, o2e⟩, o34, -, -⟩ := l_rec h.1 h.2.2.2.1 hN n1 n2
      have ti' := TI_step (S := S) (l0 := l0) (k := lo + d + 1) (x := x) (by rw [show lo + (d + 1) + 1 = lo + d + 1 + 1 by omega] at ti; exact ti) (by omega)
      have ph' : phi (tst (lo + d + 1) x).1 ((tst (lo + d + 1) x).1 0 0) ((tst (lo + d + 1) x).1 0 1) ≤ 64 := Nat.le_trans (tst_phi (S := S) (l0 := l0) (k := lo + d + 1) (x := x) (by rw [show lo + (d + 1) + 1 = lo + d + 1 + 1 by omega] at ti; exact ti) (by omega)) ph
      have hN' : (tst (lo + d + 1) x).1 0 1 ≤ 64 := Nat.le_trans (phi_n _ _ _) ph'
      have hl' := Lp_tst hl n1 n2 (by omega)
      have cont : ∀ M1, LO O M1 (tst (lo + d + 1) x).1 → FQ RB M M1 → ∃ M', f_L_back_L214 (itr (f_L_back_L12) (fun _ _ _ _ => none) f) M1 (nI (tst (lo + d + 1) x).2.2.2) (nI (tst (lo + d + 1) x).2.1) (nI (lo + d + 1)) = some (nI (tlb lo d (tst (lo + d + 1) x)).2.2.2, M') ∧ LO O M' (tlb lo d (tst (lo + d + 1) x)).1 ∧ FQ RB M M' := fun M1 r1 f1 => by
        obtain ⟨M', e1, r2, f2⟩ := ih f (b + 1) (tst (lo + d + 1) x) M1 ti' r1 hl' (by omega) (by omega) (by omega) ph'
        refine ⟨M', ?_, r2, f1.tr f2⟩
        rw [f_L_back_L214, bd, show nI (lo + d + 1) + (-1 : Int32) = nI (lo + d) from pk_m1 _]
        exact e1
      have skip : (tst (lo + d + 1) x).1 = x.1 → (tst (lo + d + 1) x).2.1 = x.2.1 → (tst (lo + d + 1) x).2.2.2 = x.2.2.2 → ∃ M', f_L_back_L214 (itr (f_L_back_L12) (fun _ _ _ _ => none) f) M (nI x.2.2.2) (nI x.2.1) (nI (lo + d + 1)) = some (nI (tlb lo d (tst (lo + d + 1) x)).2.2.2, M') ∧ LO O M' (tlb lo d (tst (lo + d + 1) x)).1 ∧ FQ RB M M' := fun z1 z2 z3 => by
        have := cont M (by rw [z1]; exact h) FQ.rf
        rw [z2, z3] at this
        exact this
      obtain ⟨r, e78, er0⟩ := l_was78 (itr (f_L_back_L12) (fun _ _ _ _ => none) f) h.1 h.2.2.2.1 hl.1 hb2 hN (by omega) (nI x.2.2.2) (nI x.2.1) (nI (x.1 9 (lo + d + 1))) (nI g1) (k := lo + d + 1) n1 n2
      have er : r = true ↔ x.2.2.1 (lo + d + 1) = true := by
        rw [tk (lo + d + 1) (by omega) (by omega), er0]
        exact ⟨fun ⟨m, z1, z2, z3, z4⟩ => ⟨m, by omega, z2, z3, z4⟩, fun ⟨m, z1, z2, z3, z4⟩ => ⟨m, by omega, z2, z3, z4⟩⟩
      have hLx : x.1 0 3 < x.1 0 0 + x.1 0 1 := by
        by_cases z : x.1 0 3 = 0
        · omega
        · have := (JI_dl hj z).2
          have := hj.1.2.2.2
          omega
      have skw : ¬ (x.1 9 (lo + d + 1) = 1 ∧ x.2.1.testBit g1 = true ∧ r = false) → (tst (lo + d + 1) x).1 = x.1 → (tst (lo + d + 1) x).2.1 = x.2.1 → (tst (lo + d + 1) x).2.2.2 = x.2.2.2 → ∃ M', f_L_back_L78 (itr (f_L_back_L12) (fun _ _ _ _ => none) f) M (nI x.2.2.2) (nI x.2.1) (nI (lo + d + 1)) (nI (x.1 9 (lo + d + 1))) (nI g1) = some (nI (tlb lo d (tst (lo + d + 1) x)).2.2.2, M') ∧ LO O M' (tlb lo d (tst (lo + d + 1) x)).1 ∧ FQ RB M M' := fun z z1 z2 z3 => by
        rw [e78, wfin_no]
        · exact skip z1 z2 z3
        · rintro ⟨c1, c2, c3⟩
          rw [nl1, nL_eq (by omega) (by omega)] at c1
          rw [bit8 _ (by omega) _ hg1, b01_1] at c2
          rw [b01_0] at c3
          exact z ⟨c1, c2, c3⟩
      rw [o0, bO_some, o1, bO_some]
      by_cases k0 : x.1 9 (lo + d + 1) = 0
      · have eg := o1e (by omega)
        have ow := w2 (by omega)
        rw [if_pos (by rw [k0]; rfl), bit8 _ (by omega) _ hg1]
        cases qb : x.2.1.testBit g1
        · rw [if_neg (show ¬ b01 false = 1 by decide)]
          have et : tst (lo + d + 1) x = x := by
            unfold tst
            rw [if_neg (by omega), if_neg (by omega), ← eg, if_neg (by rw [qb]; decide)]
          exact skw (fun z => by omega) (by rw [et]) (by rw [et]) (by rw [et])
        · have et : tst (lo + d + 1) x = (endg x.1 (x.1 10 (lo + d + 1)), x.2.1 &&& (255 - 2 ^ x.1 10 (lo + d + 1)), x.2.2.1, x.2.2.2) := by
            unfold tst
            rw [if_neg (by omega), if_neg (by omega), ← eg, if_pos qb, if_pos k0]
          have hN1 : x.1 0 1 < 64 := by
            rw [et] at hN'
            have := (endg_n (S := x.1) (g := x.1 10 (lo + d + 1))).2
            have hN' : endg x.1 (x.1 10 (lo + d + 1)) 0 1 ≤ 64 := hN'
            omega
          rw [eg] at qb
          obtain ⟨M1, e1, r1, f1⟩ := l_app h (by omega) hN1 hLx (kd := 4) (gg := x.1 10 (lo + d + 1)) (pg := 0) (a := 0) (v := 0) (t := 0) (by omega) ow (by omega) (by omega) (by omega) (by omega)
          have s4 := sub4 _ hlt _ ow qb
          have r1' : LO O M1 (tst (lo + d + 1) x).1 := by
            rw [et]
            exact LO_o (fun f i a => lev_o a) r1
          have f1' : FQ RB M M1 := f1.wk (fun r z => by unfold RB RA at *; omega)
          obtain ⟨r', e78', -⟩ := l_was78 (itr (f_L_back_L12) (fun _ _ _ _ => none) f) r1'.1 r1'.2.2.2.1 hl'.1 hl'.2.2.1 hN' (by rw [et]; show 1 ≤ endg x.1 (x.1 10 (lo + d + 1)) 0 0; rw [endg_n.1]; omega) (nI x.2.2.2) (nI (x.2.1 &&& (255 - 2 ^ x.1 10 (lo + d + 1)))) (nI (x.1 9 (lo + d + 1))) (nI g1) (k := lo + d + 1) (by rw [et]; show endg x.1 (x.1 10 (lo + d + 1)) 0 0 ≤ _; rw [endg_n.1]; omega) (by rw [et]; show _ < endg x.1 (x.1 10 (lo + d + 1)) 0 0 + endg x.1 (x.1 10 (lo + d + 1)) 0 1; rw [endg_n.1, endg_n.2]; omega)
          have := cont M1 r1' f1'
          rw [et] at this ⊢
          rw [if_pos (show b01 true = 1 from rfl), eg, show f_L_add M (4 : Int32) (nI (x.1 10 (lo + d + 1))) 0 0 0 0 = some (nI (x.1 0 0 + x.1 0 1), M1) from e1, bP_some, bone8 _ (by omega), nL_sub s4.1, s4.2, bd, ← eg, eg]
          rw [eg] at e78'
          rw [e78', wfin_no _ (by rw [k0]; exact fun z => absurd z.1 (by decide))]
          exact this
      · rw [if_neg (by rw [nl0, nL_eq (by omega) (by omega)]; exact k0)]
        by_cases k1 : x.1 9 (lo + d + 1) = 1
        · have eg := o1e (by omega)
          have ow := w2 (by omega)
          have w3 := w3 (Or.inl k1)
          have ep := o2e (Or.inl k1)
          obtain ⟨⟨o3, o3l⟩, o4, o4l⟩ := o34 (Or.inl k1)
          cases qb : x.2.1.testBit g1
          · have et : tst (lo + d + 1) x = x := by
              unfold tst
              rw [if_neg (by omega), if_neg (by omega), ← eg, if_neg (by rw [qb]; decide)]
            exact skw (fun z => by rw [qb] at z; exact nomatch z.2.1) (by rw [et]) (by rw [et]) (by rw [et])
          · cases qt : x.2.2.1 (lo + d + 1)
            · have er' : r = false := by
                cases r
                · rfl
                · rw [qt] at er; exact absurd (er.mp rfl) (by decide)
              have et : tst (lo + d + 1) x = (twb x.1 (lo + d + 1), x.2.1, x.2.2.1, x.2.2.2 + 1) := by
                unfold tst
                rw [if_neg (by omega), if_neg (by omega), ← eg, if_pos qb, if_neg k0, if_pos ⟨k1, qt⟩]
              have hN1 : x.1 0 1 < 64 := by
                rw [et] at hN'
                have := (twb_n (S := x.1) (n := lo + d + 1)).2
                have hN' : twb x.1 (lo + d + 1) 0 1 ≤ 64 := hN'
                omega
              have yl := val_lt h.2.2.1 w3
              obtain ⟨M1, e3, r1, f1⟩ := l_app h (by omega) hN1 hLx (kd := 3) (gg := x.1 10 (lo + d + 1)) (pg := x.1 11 (lo + d + 1)) (a := val x.1 (x.1 11 (lo + d + 1))) (v := x.1 12 (lo + d + 1)) (t := lo + d + 1) (by omega) ow w3 yl o3l (by omega)
              obtain ⟨hB, hb1, -, hb3, -, -⟩ := hl
              have o12 := hB 12 (lo + d + 1)
              have yv := val_le hB (p := x.1 11 (lo + d + 1))
              have B1 : Bd (b + 1) (app x.1 3 (x.1 10 (lo + d + 1)) (x.1 11 (lo + d + 1)) (val x.1 (x.1 11 (lo + d + 1))) (x.1 12 (lo + d + 1)) (lo + d + 1)) := Bd_app hB (by omega) (by omega) (by omega) (by omega) (by omega) (by omega) (by omega)
              have hpp := hp _ w3
              have hX : PP (app x.1 3 (x.1 10 (lo + d + 1)) (x.1 11 (lo + d + 1)) (val x.1 (x.1 11 (lo + d + 1))) (x.1 12 (lo + d + 1)) (lo + d + 1)) (x.1 11 (lo + d + 1)) := PP_of hpp (by rw [app_o (by omega) (by omega)]) (by rw [app_o (by omega) (by omega)]) (app_o (by omega) (by omega)) (app_o (by omega) (by omega)) (app_o (by omega) (by omega)) (by rw [app_F, app_N]; omega) (fun z => by rw [app_F]; exact (hpp.2.2 z).1) (fun z => by rw [app_o (by omega) (by omega), app_o (by omega) (by omega)]; exact (hpp.2.2 z).2.2)
              obtain ⟨M2, e4, r2, f2⟩ := l_come r1 B1 (by omega) (Sm_app hs) w3 hX (v := x.1 12 (lo + d + 1)) (n := x.1 0 0 + x.1 0 1) o3l (by omega)
              have r2' : LO O M2 (tst (lo + d + 1) x).1 := by
                rw [et]
                exact r2
              have := cont M2 r2' ((f1.wk (fun r z => by unfold RB RA at *; omega)).tr (f2.wk (fun r z => by unfold RB R30 at *; omega)))
              rw [et] at this ⊢
              rw [e78, er', wfin, if_pos (by rw [k1]; rfl), bit8 _ (by omega) _ hg1, qb, if_pos (show b01 true = 1 from rfl), if_pos (show b01 false = 0 from rfl), o2, bO_some, o3, bO_some, ep, l_value h.2.2.1 w3, bO_some, bO_some, eg, show f_L_add M (3 : Int32) (nI (x.1 10 (lo + d + 1))) (nI (x.1 11 (lo + d + 1))) (nI (val x.1 (x.1 11 (lo + d + 1)))) (nI (x.1 12 (lo + d + 1))) (nI (lo + d + 1)) = some (nI (x.1 0 0 + x.1 0 1), M1) from e3, bP_some, e4, bO_some, bd, nI_1]
              exact this
            · have er' : r = true := er.mpr qt
              have et : tst (lo + d + 1) x = x := by
                unfold tst
                rw [if_neg (by omega), if_neg (by omega), ← eg, if_pos qb, if_neg k0, if_neg (by rw [qt]; exact fun z => nomatch z.2)]
              exact skw (fun z => by rw [er'] at z; exact nomatch z.2.2) (by rw [et]) (by rw [et]) (by rw [et])
        · have et : (tst (lo + d + 1) x).1 = x.1 ∧ (tst (lo + d + 1) x).2.1 = x.2.1 ∧ (tst (lo + d + 1) x).2.2.2 = x.2.2.2 := by
            unfold tst
            by_cases c3 : x.1 9 (lo + d + 1) = 3
            · rw [if_pos c3]; exact ⟨rfl, rfl, rfl⟩
            · rw [if_neg c3]
              by_cases c5 : x.1 9 (lo + d + 1) = 5
              · rw [if_pos c5]; exact ⟨rfl, rfl, rfl⟩
              · rw [if_neg c5, if_neg k0, if_neg (show ¬ (x.1 9 (lo + d + 1) = 1 ∧ x.2.2.1 (lo + d + 1) = false) from fun z => k1 z.1), ite_self]
                exact ⟨rfl, rfl, rfl⟩
          exact skw (fun z => k1 z.1) et.1 et.2.1 et.2.2
theorem l_back {l0 : Nat} (h : LO O M S) (hl : Lp b S) (hb : b + S 0 1 < 2 ^ 28) (hF : 1 ≤ S 0 0) (h256 : S 0 0 + S 0 1 ≤ 256) (ph : phi S (S 0 0) (S 0 1) ≤ 64) (ti : TI S l0 (S 0 0 + S 0 1) (S, l0, (fun _ => false), 0)) : ∃ M', f_L_back M (nI l0) = some (nI (tlb (S 0 0 - 1) (S 0 1) (S, l0, (fun _ => false), 0)).2.2.2, M') ∧ LO O M' (tlb (S 0 0 - 1) (S 0 1) (S, l0, (fun _ => false), 0)).1 ∧ FQ RB M M' := by
  have hN : S 0 1 ≤ 64 := Nat.le_trans (phi_n _ _ _) ph
  obtain ⟨M', e1, r1, f1⟩ := l_back0 (O := O) (S := S) (l0 := l0) (lo := S 0 0 - 1) (by omega) h256 (S 0 1) FU b (S, l0, (fun _ => false), 0) M (by rw [show S 0 0 - 1 + S 0 1 + 1 = S 0 0 + S 0 1 by omega]; exact ti) h hl hb (by show _ < 10000; omega) (Nat.le_refl _) ph
  refine ⟨M', ?_, r1, f1⟩
  rw [f_L_back, l_last h.1 hF, bO_some]
  rw [show S 0 0 - 1 + S 0 1 = S 0 0 + S 0 1 - 1 by omega] at e1
  exact e1
end LB1
