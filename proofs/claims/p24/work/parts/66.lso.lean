/-! the law's comparisons -/
theorem bsh : ∀ c : Bool, ∀ p, p < 8 → (b01 c <<< (nI p &&& 31)) = bs c p := by decide +kernel
section SO
variable {M : Mem} {S : St} {b t g p n h : Nat} {P : Nat → St}
theorem l_isRec (hL : LSt M S) (hw : WC M S h P) (hv : Inv b S) (hN : S 0 1 ≤ 64) (q1 : S 0 0 ≤ n) (q2 : n < S 0 0 + S 0 1) : f_L_isRecord M (nI n) = some 1 := by
  have n1 := hv.1.1
  have n3 := hv.1.2.2.1
  have y9 := (hv.2.1.1.1 n q1 q2).1
  have y2 := n1 0 2
  have y0 := n1 0 0
  obtain ⟨r0, r1, r2, r3, r4, r5, r6, r7, r8, r9⟩ := k_rec hw.1 hv q1 q2
  obtain ⟨o0, ⟨g1, hg1, o1, o1e⟩, ⟨p1, hp1, o2, o2e⟩, o34, o5, o67⟩ := l_rec hL.1 hL.2.2.2.1 hN q1 q2
  have k5 : (nI (S 9 n) = (5 : Int32)) = (S 9 n = 5) := by rw [nl5]; exact nL_eq (by omega) (by omega)
  have k3 : (nI (S 9 n) = (3 : Int32)) = (S 9 n = 3) := by rw [nl3]; exact nL_eq (by omega) (by omega)
  have k1 : (nI (S 9 n) = (1 : Int32)) = (S 9 n = 1) := by rw [nl1]; exact nL_eq (by omega) (by omega)
  have t252 : ∀ v, f_L_isRecord_L252 M (nI n) v v = some 1 := fun v => by
    rw [f_L_isRecord_L252, if_pos rfl, r9, bO_some, if_pos rfl]
  have t224 : ∀ v, f_L_isRecord_L224 M (nI n) (-1000004) (nI (S 9 n)) v v = some 1 := fun v => by
    rw [f_L_isRecord_L224, if_pos rfl, r8, bO_some]
    by_cases z : S 9 n = 3
    · rw [if_pos (by rw [k3]; exact z), (o5 z).1, bO_some, if_pos z]; exact t252 _
    · rw [if_neg (by rw [k3]; exact z), if_neg z]; exact t252 _
  have t195 : ∀ v, f_L_isRecord_L195 M (nI n) (-1000004) (nI (S 9 n)) v v = some 1 := fun v => by
    rw [f_L_isRecord_L195, if_pos rfl, r7, bO_some]
    by_cases z : S 9 n = 5
    · rw [if_pos (by rw [k5]; exact z), (o67 z).2, bO_some, if_pos z]; exact t224 _
    · rw [if_neg (by rw [k5]; exact z), if_neg z]; exact t224 _
  have t166 : ∀ v, f_L_isRecord_L166 M (nI n) (-1000004) (nI (S 9 n)) v v = some 1 := fun v => by
    rw [f_L_isRecord_L166, if_pos rfl, r6, bO_some]
    by_cases z : S 9 n = 5
    · rw [if_pos (by rw [k5]; exact z), (o67 z).1, bO_some, if_pos z]; exact t195 _
    · rw [if_neg (by rw [k5]; exact z), if_neg z]; exact t195 _
  have t145 : ∀ v, f_L_isRecord_L145 M (nI n) (-1000004) (nI (S 9 n)) v v = some 1 := fun v => by
    rw [f_L_isRecord_L145, if_pos rfl, r5, bO_some, hL.1.2.2.1]
    by_cases z : S 0 2 < n
    · rw [if_pos (by rw [nL_lt (by omega) (by omega)]; exact z), if_pos z]; exact t166 _
    · rw [if_neg (by rw [nL_lt (by omega) (by omega)]; exact z), if_neg z]; exact t166 _
  have tail : ∀ c : Bool, (c = true ↔ (S 9 n = 1 ∨ S 9 n = 3)) → ∀ v, f_L_isRecord_L67 M (nI n) (-1000004) (nI (S 9 n)) (b01 c) v v = some 1 := fun c hc => by
    have t119 : ∀ v, f_L_isRecord_L119 M (nI n) (-1000004) (nI (S 9 n)) (b01 c) v v = some 1 := fun v => by
      rw [f_L_isRecord_L119, if_pos rfl, r4, bO_some]
      cases c
      · rw [if_pos (show b01 false = 0 from rfl), ep, if_neg (fun z => nomatch hc.mpr z)]; exact t145 _
      · have z := hc.mp rfl
        rw [if_neg (show ¬ b01 true = 0 by decide), (o34 z).2.1, bO_some, ep, if_pos z]; exact t145 _
    have t93 : ∀ v, f_L_isRecord_L93 M (nI n) (-1000004) (nI (S 9 n)) (b01 c) v v = some 1 := fun v => by
      rw [f_L_isRecord_L93, if_pos rfl, r3, bO_some]
      cases c
      · rw [if_pos (show b01 false = 0 from rfl), ep, if_neg (fun z => nomatch hc.mpr z)]; exact t119 _
      · have z := hc.mp rfl
        rw [if_neg (show ¬ b01 true = 0 by decide), (o34 z).1.1, bO_some, ep, if_pos z]; exact t119 _
    intro v
    rw [f_L_isRecord_L67, if_pos rfl, r2, bO_some]
    cases c
    · rw [if_pos (show b01 false = 0 from rfl), ep, if_neg (fun z => nomatch hc.mpr z)]; exact t93 _
    · have z := hc.mp rfl
      rw [if_neg (show ¬ b01 true = 0 by decide), o2, o2e z, bO_some, ep, if_pos z]; exact t93 _
  have t30 : ∀ c : Bool, (c = true ↔ (S 9 n = 1 ∨ S 9 n = 3)) → f_L_isRecord_L30 M (nI n) (-1000004) (nI (S 9 n)) (b01 c) = some 1 := fun c hc => by
    rw [f_L_isRecord_L30, r0, bO_some, if_pos rfl, r1, bO_some]
    by_cases z : S 9 n = 5
    · rw [if_pos (by rw [k5]; exact z), eo, if_pos z]; exact tail c hc _
    · rw [if_neg (by rw [k5]; exact z), o1, o1e z, bO_some, eo, if_neg z]; exact tail c hc _
  rw [f_L_isRecord, o0, bO_some]
  by_cases z1 : S 9 n = 1
  · rw [if_pos (by rw [k1]; exact z1), f_L_isRecord_L25]
    exact t30 true ⟨fun _ => Or.inl z1, fun _ => rfl⟩
  · rw [if_neg (by rw [k1]; exact z1)]
    by_cases z3 : S 9 n = 3
    · rw [if_pos (by rw [k3]; exact z3), f_L_isRecord_L25]
      exact t30 true ⟨fun _ => Or.inr z3, fun _ => rfl⟩
    · rw [if_neg (by rw [k3]; exact z3)]
      exact t30 false ⟨fun z => (nomatch z), fun z => absurd z (by omega)⟩
theorem l_arePages (hL : LSt M S) (hw : WC M S h P) (hv : Inv b S) : f_L_arePages M = some 1 := by
  have n1 := hv.1.1
  have n3 := hv.1.2.2.1
  have n9 := hv.1.2.2.2.2.2.2.2.2
  -- a page
  have pg : ∀ (K : Int32 → Int32 → Option Int32) p, p < 8 → f_L_arePages_L5 M K 1 (nI p) = K 1 (nI (p + 1)) := fun K p hp => by
    obtain ⟨v0, v1, v2, v3, v4, v5, v6, v7, v9⟩ := k_page hw.1 hv hp
    obtain ⟨⟨c0, c00⟩, c1, c2, c3, c4⟩ := hL.2.2.1 p hp
    obtain ⟨m1, m2⟩ := l_mark1 hL.2.2.1 n1 (by omega) hp (hv.2.2.1 p hp)
    have t206 : ∀ v, f_L_arePages_L206 M K (nI p) v v = K 1 (nI (p + 1)) := fun v => by
      rw [f_L_arePages_L206, if_pos rfl, v9, bO_some, if_pos rfl, f_L_arePages_L227, bd, nI_1]
    have t183 : ∀ v, f_L_arePages_L183 M K (nI p) (hof S p) v v = K 1 (nI (p + 1)) := fun v => by
      rw [f_L_arePages_L183, if_pos rfl, v7, bO_some]
      unfold hof hol
      by_cases d0 : hb S 0 p
      · rw [if_pos d0, if_pos d0, if_pos (by decide)]; exact t206 _
      · rw [if_neg d0, if_neg d0]
        by_cases d1 : hb S 1 p
        · rw [if_pos d1, if_pos d1, if_pos (by decide)]; exact t206 _
        · rw [if_neg d1, if_neg d1]
          by_cases d2 : hb S 2 p
          · rw [if_pos d2, if_pos d2, if_pos (by decide)]; exact t206 _
          · rw [if_neg d2, if_neg d2]
            by_cases d3 : hb S 3 p
            · rw [if_pos d3, if_pos d3, if_pos (by decide)]; exact t206 _
            · rw [if_neg d3, if_neg d3, if_neg (by decide)]; exact t206 _
    have t153 : ∀ v, f_L_arePages_L153 M K (nI p) (b01 ((S 0 7).testBit p)) (hof S p) v v = K 1 (nI (p + 1)) := fun v => by
      rw [f_L_arePages_L153, if_pos rfl, v6, bO_some]
      cases q : (S 0 7).testBit p
      · rw [if_pos (show b01 false = 0 from rfl), if_neg (by decide)]; exact t183 _
      · rw [if_neg (show ¬ b01 true = 0 by decide), if_pos rfl, nl5, g6c p 5 hp (by omega), c6 p 5 hp (by omega), c4 q]; exact t183 _
    have t39 : f_L_arePages_L39 M K (nI p) (b01 ((S 0 7).testBit p)) = K 1 (nI (p + 1)) := by
      rw [f_L_arePages_L39, l_holder hL.2.1 n9 hp (Inv_dj hv hp), bO_some, v0, bO_some, l_value hL.2.2.1 hp, bO_some, if_pos rfl, v1, bO_some, l_mark hL.2.2.1 hp, bO_some, if_pos rfl, v2, bO_some, g60 p hp, c60 p hp, c0, if_pos rfl, v3, bO_some, show (6 : Int32) * nI p + (1 : Int32) = (6 : Int32) * nI p + nI 1 from rfl, g6c p 1 hp (by omega), c6 p 1 hp (by omega), c1, if_pos rfl, v4, bO_some, show (6 : Int32) * nI p + (2 : Int32) = (6 : Int32) * nI p + nI 2 from rfl, g6c p 2 hp (by omega), c6 p 2 hp (by omega), c2, if_pos rfl, v5, bO_some]
      have := t153
      cases q : (S 0 7).testBit p
      · rw [q] at this
        rw [if_pos (show b01 false = 0 from rfl)]; exact this _
      · rw [q] at this
        rw [if_neg (show ¬ b01 true = 0 by decide)]; exact this _
    rw [f_L_arePages_L5, if_neg (by rw [nl8, nL_le (by omega) (by omega)]; omega), if_neg (by decide), l_mark hL.2.2.1 hp, bO_some, show (6 : Int32) * nI p + (1 : Int32) = (6 : Int32) * nI p + nI 1 from rfl, g6c p 1 hp (by omega), c6 p 1 hp (by omega), m1]
    have := t39
    cases q : (S 0 7).testBit p
    · rw [q] at this
      rw [if_pos (by rw [m2]; exact q)]; exact this
    · rw [q] at this
      rw [if_neg (by rw [m2, q]; decide)]; exact this
  -- a group
  have gp : ∀ (K : Int32 → Int32 → Option Int32) g, g < 4 → f_L_arePages_L237 M K 1 (nI g) = K 1 (nI (g + 1)) := fun K g hg => by
    obtain ⟨v0, v1, v2, v3, v4⟩ := k_group hw.1 hv hg
    obtain ⟨c0, c1⟩ := hL.2.1 g hg
    have c0 : M 11 29 (4 * g) = b01 ((S 0 8).testBit g) := c0
    have c1 : (S 0 8).testBit g = true → M 11 29 (4 * g + 1) = nI (S 6 g) ∧ M 11 29 (4 * g + 2) = nI (S 7 g) ∧ M 11 29 (4 * g + 3) = nI (S 8 g) := c1
    have vi : ∀ i, 1 ≤ i → i < 4 → f_X7_groupOf M (nI g) (nI i) = some (if (S 0 8).testBit g then M 11 29 (4 * g + i) else -1000004) := fun i h1 h2 => by
      cases q : (S 0 8).testBit g
      · rw [q] at v1 v2 v3
        rcases (show i = 1 ∨ i = 2 ∨ i = 3 by omega) with rfl | rfl | rfl
        · exact v1
        · exact v2
        · exact v3
      · rw [q, if_pos rfl] at v1 v2 v3
        obtain ⟨x1, x2, x3⟩ := c1 q
        rcases (show i = 1 ∨ i = 2 ∨ i = 3 by omega) with rfl | rfl | rfl
        · rw [x1]; exact v1
        · rw [x2]; exact v2
        · rw [x3]; exact v3
    have lp : ∀ d i fu, i + d = 4 → 1 ≤ i → d < fu → itr (f_L_arePages_L301 M K) (fun _ _ _ _ => none) fu 1 (nI g) (b01 ((S 0 8).testBit g)) (nI i) = K 1 (nI (g + 1)) := by
      intro d
      induction d with
      | zero =>
        intro i fu hi h1 hf
        obtain ⟨f, rfl⟩ : ∃ f, fu = f + 1 := ⟨fu - 1, by omega⟩
        have hi : i = 4 := by omega
        subst hi
        rw [itr_s, f_L_arePages_L301, if_pos (by decide), f_L_arePages_L353, bd, nI_1]
      | succ d ih =>
        intro i fu hi h1 hf
        obtain ⟨f, rfl⟩ : ∃ f, fu = f + 1 := ⟨fu - 1, by omega⟩
        have r := ih (i + 1) f (by omega) (by omega) (by omega)
        rw [itr_s, f_L_arePages_L301, if_neg (by rw [nl4, nL_le (by omega) (by omega)]; omega), if_neg (by decide), vi i h1 (by omega), bO_some]
        cases q : (S 0 8).testBit g
        · rw [q] at r
          rw [if_pos (show b01 false = 0 from rfl), f_L_arePages_L338, if_pos (if_neg (by decide)), f_L_arePages_L346, bd, nI_1]
          exact r
        · rw [q] at r
          rw [if_neg (show ¬ b01 true = 0 by decide), g4, gd_in (by omega) (by omega), nL_cl (by omega), f_L_arePages_L338, if_pos (if_pos rfl), f_L_arePages_L346, bd, nI_1]
          exact r
    have t262 : f_L_arePages_L262 M K (nI g) (b01 ((S 0 8).testBit g)) = K 1 (nI (g + 1)) := by
      rw [f_L_arePages_L262, v0, bO_some, g40, gd_in (by omega) (by omega), nL_cl (by omega), c0, if_pos rfl, v4, bO_some, if_pos rfl, f_L_arePages_L297]
      exact lp 3 1 FU rfl (Nat.le_refl _) (by decide)
    rw [f_L_arePages_L237, if_neg (by rw [nl4, nL_le (by omega) (by omega)]; omega), if_neg (by decide), g40, gd_in (by omega) (by omega), nL_cl (by omega), c0]
    have := t262
    cases q : (S 0 8).testBit g
    · rw [q] at this
      rw [if_neg (show ¬ b01 false = 1 by decide)]; exact this
    · rw [q] at this
      rw [if_pos (show b01 true = 1 from rfl)]; exact this
  have stp : ∀ p m, p < 8 → itr (f_L_arePages_L5 M) (fun _ _ => none) (m + 1) 1 (nI p) = itr (f_L_arePages_L5 M) (fun _ _ => none) m 1 (nI (p + 1)) := fun p m hp => by
    rw [itr_s]; exact pg _ p hp
  have stg : ∀ g m, g < 4 → itr (f_L_arePages_L237 M) (fun _ _ => none) (m + 1) 1 (nI g) = itr (f_L_arePages_L237 M) (fun _ _ => none) m 1 (nI (g + 1)) := fun g m hg => by
    rw [itr_s]; exact gp _ g hg
  rw [f_L_arePages, show FU = 9991 + 1 + 1 + 1 + 1 + 1 + 1 + 1 + 1 + 1 from rfl, show itr (f_L_arePages_L5 M) (fun _ _ => none) (9991 + 1 + 1 + 1 + 1 + 1 + 1 + 1 + 1 + 1) 1 0 = itr (f_L_arePages_L5 M) (fun _ _ => none) (9991 + 1 + 1 + 1 + 1 + 1 + 1 + 1 + 1 + 1) 1 (nI 0) from rfl, stp 0 _ (by omega), stp 1 _ (by omega), stp 2 _ (by omega), stp 3 _ (by omega), stp 4 _ (by omega), stp 5 _ (by omega), stp 6 _ (by omega), stp 7 _ (by omega), itr_s, f_L_arePages_L5, if_pos (by decide), f_L_arePages_L234, show FU = 9995 + 1 + 1 + 1 + 1 + 1 from rfl, show itr (f_L_arePages_L237 M) (fun _ _ => none) (9995 + 1 + 1 + 1 + 1 + 1) 1 0 = itr (f_L_arePages_L237 M) (fun _ _ => none) (9995 + 1 + 1 + 1 + 1 + 1) 1 (nI 0) from rfl, stg 0 _ (by omega), stg 1 _ (by omega), stg 2 _ (by omega), stg 3 _ (by omega), itr_s, f_L_arePages_L237, if_pos (by decide), gd, if_pos (by decide)]
theorem l_isSo (hL : LSt M S) (hw : WC M S h P) (hv : Inv b S) (hN : S 0 1 ≤ 64) (h9 : M 9 25 1 = 0) (a : Int32) : f_L_isSo M a = some 1 := by
  obtain ⟨⟨n1, ⟨n2, n2'⟩, n3, n4, n5, n6, n7, n8, n9⟩, hj, hpi, hr, hst⟩ := id hv
  have y0 := n1 0 0
  have y2 := n1 0 2
  obtain ⟨⟨g0, g1, g2, g3, g4'⟩, k2, k3, k4, k5⟩ := id hL
  obtain ⟨c0, c1, c2, c3, c4, c5, c6', c7, c8, c9, c10, c12, -, -⟩ := k_count hw hv h9
  have t307 : f_L_isSo_L307 M 1 = some 1 := by
    have t373 : f_L_isSo_L373 M = some 1 := by rw [f_L_isSo_L373, k_rec_0 M, bO_some, if_pos rfl]
    rw [f_L_isSo_L307, if_neg (by decide), c10, bO_some, g4', if_pos rfl, c12, bO_some, if_pos rfl, l_last hL.1 n5, bO_some, nI_1, show S 0 0 + S 0 1 - 1 + 1 = S 0 0 + S 0 1 by omega, k_rec_no hw.1 hv (n := S 0 0 + S 0 1) (by omega) (by omega) (fun z => by omega), bO_some, if_pos rfl, g0]
    by_cases z : S 0 0 = 1
    · rw [if_pos (by rw [z]; rfl)]; exact t373
    · rw [if_neg (by rw [nl1, nL_eq (by omega) (by omega)]; exact z), nl1, nL_sub (by omega), k_rec_no hw.1 hv (n := S 0 0 - 1) (by omega) (by omega) (fun z => by omega), bO_some, if_pos rfl]; exact t373
  have t203 : ∀ v, f_L_isSo_L203 M (nI (S 0 6)) v v = some 1 := fun v => by
    have e1 : ((nI (S 0 2) - nI (S 0 0)) + (1 : Int32)) = nI (S 0 2 + 1 - S 0 0) := by
      rw [show (nI (S 0 2) - nI (S 0 0)) + (1 : Int32) = (nI (S 0 2) + 1) - nI (S 0 0) by rw [Int32.sub_eq_add_neg, Int32.sub_eq_add_neg, Int32.add_assoc, Int32.add_comm (-nI (S 0 0)) 1, ← Int32.add_assoc], nI_1, nL_sub (by omega)]
    rw [f_L_isSo_L203, if_pos rfl, c3, bO_some, g2, g0, e1, if_pos rfl, c4, bO_some, l_open k2 n9.2.2.1, bO_some, if_pos rfl, c5, bO_some, if_pos rfl, c6', bO_some, l_dirty k3 n9.2.1 n1 (by omega) hpi, bO_some, if_pos rfl, c7, bO_some, g3, if_pos rfl, c8, bO_some, l_latest hL.1 k4 n1 (by omega) hN hj, bO_some, if_pos rfl, c9, bO_some, l_drop hL.1 k4 k5 n1 (by omega) hN hj, bO_some, if_pos rfl]
    exact t307
  have t147 : f_L_isSo_L147 M 1 (nI (S 0 6)) (b01 (decide (S 0 1 = 0))) = some 1 := by
    rw [f_L_isSo_L147, if_neg (by decide), c0, bO_some, g1, if_pos rfl, c1, bO_some]
    by_cases z : S 0 1 = 0
    · rw [if_pos z] at c2
      rw [decide_eq_true z, if_neg (show ¬ b01 true = 0 by decide), if_pos z, f_L_isSo_L182, if_pos rfl, c2, bO_some, if_neg (show ¬ b01 true = 0 by decide)]
      exact t203 _
    · rw [if_neg z] at c2
      rw [decide_eq_false z, if_pos (show b01 false = 0 from rfl), if_neg z, f_L_isSo_L182, g0, if_pos rfl, c2, bO_some, if_pos (show b01 false = 0 from rfl), l_last hL.1 n5, bO_some]
      exact t203 _
  have t73 : f_L_isSo_L73 M 1 = some 1 := by
    have stp : ∀ p m z, p < 8 → itr (f_L_isSo_L79 M) (fun _ _ _ => none) (m + 1) 1 z (nI p) = itr (f_L_isSo_L79 M) (fun _ _ _ => none) m 1 (z + bs ((S 0 6).testBit p) p) (nI (p + 1)) := fun p m z hp => by
      obtain ⟨-, d1, d2, -⟩ := k3 p hp
      have y2p := n1 2 p
      have dm := hj.2.2.2.2.2.2 p hp
      rw [itr_s, f_L_isSo_L79, if_neg (by rw [nl8, nL_le (by omega) (by omega)]; omega), show (6 : Int32) * nI p + (2 : Int32) = (6 : Int32) * nI p + nI 2 from rfl, g6c p 2 hp (by omega), c6 p 2 hp (by omega), d2, bsh _ p hp, bd, if_neg (by decide), show (6 : Int32) * nI p + (1 : Int32) = (6 : Int32) * nI p + nI 1 from rfl, g6c p 1 hp (by omega), c6 p 1 hp (by omega), d1, g2, if_neg (by rw [nL_lt (by omega) (by omega)]; omega), f_L_isSo_L128, bd, nI_1]
    rw [f_L_isSo_L73, show FU = 9991 + 1 + 1 + 1 + 1 + 1 + 1 + 1 + 1 + 1 from rfl, show itr (f_L_isSo_L79 M) (fun _ _ _ => none) (9991 + 1 + 1 + 1 + 1 + 1 + 1 + 1 + 1 + 1) 1 0 0 = itr (f_L_isSo_L79 M) (fun _ _ _ => none) (9991 + 1 + 1 + 1 + 1 + 1 + 1 + 1 + 1 + 1) 1 0 (nI 0) from rfl, stp 0 _ _ (by omega), stp 1 _ _ (by omega), stp 2 _ _ (by omega), stp 3 _ _ (by omega), stp 4 _ _ (by omega), stp 5 _ _ (by omega), stp 6 _ _ (by omega), stp 7 _ _ (by omega), sum8 _ n9.1, itr_s, f_L_isSo_L79, if_pos (by decide), g1]
    have := t147
    by_cases z : S 0 1 = 0
    · rw [decide_eq_true z] at this
      rw [if_pos (by rw [z]; rfl)]; exact this
    · rw [decide_eq_false z] at this
      rw [if_neg (by rw [nl0, nL_eq (by omega) (by omega)]; exact z)]; exact this
  have lp : ∀ d n fu, n + d = S 0 0 + S 0 1 → S 0 0 ≤ n → d < fu → itr (f_L_isSo_L13 M) (fun _ _ _ => none) fu a 1 (nI n) = some 1 := by
    intro d
    induction d with
    | zero =>
      intro n fu hn h1 hf
      obtain ⟨f, rfl⟩ : ∃ f, fu = f + 1 := ⟨fu - 1, by omega⟩
      rw [itr_s, f_L_isSo_L13, l_last hL.1 n5, bO_some, if_pos (by rw [nL_lt (by omega) (by omega)]; omega)]
      exact t73
    | succ d ih =>
      intro n fu hn h1 hf
      obtain ⟨f, rfl⟩ : ∃ f, fu = f + 1 := ⟨fu - 1, by omega⟩
      have t60 : f_L_isSo_L60 M (itr (f_L_isSo_L13 M) (fun _ _ _ => none) f) a (nI n) = some 1 := by
        rw [f_L_isSo_L60, f_L_isSo_L65, bd, nI_1]
        exact ih (n + 1) f (by omega) (by omega) (by omega)
      have t48 : f_L_isSo_L48 M (itr (f_L_isSo_L13 M) (fun _ _ _ => none) f) a (nI n) = some 1 := by
        rw [f_L_isSo_L48, l_isRec hL hw hv hN h1 (by omega), bO_some, if_neg (by decide)]
        exact t60
      rw [itr_s, f_L_isSo_L13, l_last hL.1 n5, bO_some, if_neg (by rw [nL_lt (by omega) (by omega)]; omega), if_neg (by decide), gd, if_pos (by decide)]
      split
      · exact t48
      · rw [bO_some]
        split
        · exact t60
        · exact t48
  rw [f_L_isSo, l_arePages hL hw hv, bO_some, bd, g0]
  exact lp (S 0 1) (S 0 0) FU rfl (Nat.le_refl _) (by show _ < 10000; omega)
end SO
