section LSR
variable {M : Mem} {S T : St} {O : Nat → Bool} {b p g n t : Nat}
/-- what was looked for lies in 33 (0) and 34 -/
def LK (M : Mem) (x : Nat × (Nat → Nat)) : Prop := M 11 33 0 = nI x.1 ∧ ∀ p, p < 8 → M 11 34 p = nI (x.2 p)
abbrev RT : Nat → Prop := fun r => r = 33 ∨ r = 34
theorem LK_fr {M M' : Mem} {x : Nat × (Nat → Nat)} (h : LK M x) (e3 : M' 11 33 = M 11 33) (e4 : M' 11 34 = M 11 34) : LK M' x := by
  unfold LK
  rw [e3, e4]
  exact h
theorem LO_t {M' : Mem} (h : LO O M S) (f : FQ RT M M') : LO O M' S := LO_rw h (fun r a c => f 11 r (by omega))
theorem and15 : ∀ m, m < 16 → ∀ g, g < 4 → (nI m &&& ((15 : Int32) - ((1 : Int32) <<< (nI g &&& 31)))) = nI (m &&& (255 - 2 ^ g)) := by decide +kernel
/-- looking at the records behind the checkpoint -/
theorem l_lk (hB : Bd b S) (hb : b < 2 ^ 28) (hN : S 0 1 ≤ 64) (hF : 1 ≤ S 0 0) (hbn : S 0 0 + S 0 1 ≤ b) (hw : WF S) : ∀ (d n fu : Nat) (x : Nat × (Nat → Nat)) (M : Mem), LO O M S → n + d = S 0 0 + S 0 1 → S 0 0 ≤ n → d < fu → Bx b x → LK M x →
    ∃ M', itr (f_L_start_L86) (fun _ _ => none) fu M (nI n) = itr (f_L_start_L220) (fun _ _ _ => none) FU M' 0 (nI (S 0 0)) ∧ LK M' (lkk S d n x) ∧ FQ RT M M' := by
  intro d
  induction d with
  | zero =>
    intro n fu x M h hn h1 hf hx hk
    obtain ⟨f, rfl⟩ : ∃ f, fu = f + 1 := ⟨fu - 1, by omega⟩
    have y0 := hB 0 0
    refine ⟨M, ?_, hk, FQ.rf⟩
    rw [itr_s, f_L_start_L86, l_last h.1 hF, bO_some, if_pos (by rw [nL_lt (by omega) (by omega)]; omega), bd, h.1.1]
  | succ d ih =>
    intro n fu x M h hn h1 hf hx hk
    obtain ⟨f, rfl⟩ : ∃ f, fu = f + 1 := ⟨fu - 1, by omega⟩
    have y0 := hB 0 0
    obtain ⟨w1, w2, w3⟩ := hw n h1 (by omega)
    obtain ⟨o0, ⟨g1, hg1, o1, o1e⟩, -⟩ := l_rec h.1 h.2.2.2.1 hN h1 (show n < S 0 0 + S 0 1 by omega)
    have hx' := Bx_lst hw hbn h1 (show n < S 0 0 + S 0 1 by omega) hx
    have x1 := hx.1
    have cont : ∀ M1, LK M1 (lst S n x) → FQ RT M M1 → ∃ M', f_L_start_L206 (itr (f_L_start_L86) (fun _ _ => none) f) M1 (nI n) = itr (f_L_start_L220) (fun _ _ _ => none) FU M' 0 (nI (S 0 0)) ∧ LK M' (lkk S (d + 1) n x) ∧ FQ RT M M' := fun M1 z2 z3 => by
      obtain ⟨M', e1, e2, e3⟩ := ih (n + 1) f (lst S n x) M1 (LO_t h z3) (by omega) (by omega) (by omega) hx' z2
      refine ⟨M', ?_, e2, z3.tr e3⟩
      rw [f_L_start_L206, bd, nI_1]
      exact e1
    -- the row 33 is set first
    have s9 : ∀ v, LK (st M 11 33 0 (nI v)) (v, x.2) ∧ FQ RT M (st M 11 33 0 (nI v)) := fun v => by
      refine ⟨⟨by rw [sgr_at, if_pos rfl], fun p hp => ?_⟩, FQ.st FQ.rf (Or.inl rfl)⟩
      rw [sgr_ne (by omega)]
      exact hk.2 p hp
    -- what is neither 1 nor 3
    have ev : ∀ v, S 9 n ≠ 1 → S 9 n ≠ 3 → lst S n x = (v, x.2) → ∃ M', f_L_start_L164 (itr (f_L_start_L86) (fun _ _ => none) f) M (nI n) (nI (S 9 n)) (nI v) 0 = itr (f_L_start_L220) (fun _ _ _ => none) FU M' 0 (nI (S 0 0)) ∧ LK M' (lkk S (d + 1) n x) ∧ FQ RT M M' := fun v k1 k3 el => by
      obtain ⟨z1, z2⟩ := s9 v
      have c := cont _ (by rw [el]; exact z1) z2
      rw [f_L_start_L164, nl0, gd_in (by omega) (by omega), nL_cl (by omega), bd, gd, if_pos (by decide), nl2, pk_rem (by omega) (by omega) (by omega)]
      by_cases q : S 9 n % 2 = 1
      · rw [if_pos (by rw [q]; rfl), nl5, if_pos (by rw [nL_le (by omega) (by omega)]; omega)]
        exact c
      · rw [if_neg (by rw [nl1, nL_eq (by omega) (by omega)]; exact q)]
        exact c
    have V : (S 9 n = 2 ∨ S 9 n = 4) → ∃ M', f_L_start_L147 (itr (f_L_start_L86) (fun _ _ => none) f) M (nI n) (nI (S 9 n)) ((1 : Int32) <<< (nI g1 &&& 31)) 0 = itr (f_L_start_L220) (fun _ _ _ => none) FU M' 0 (nI (S 0 0)) ∧ LK M' (lkk S (d + 1) n x) ∧ FQ RT M M' := fun q => by
      have ow := w2 (by omega)
      have el : lst S n x = (x.1 &&& (255 - 2 ^ S 10 n), x.2) := by unfold lst; rw [if_neg (by omega), if_pos q]
      rw [f_L_start_L147, hk.1, o1e (by omega), and15 _ x1 _ ow]
      exact ev _ (by omega) (by omega) el
    rw [itr_s, f_L_start_L86, l_last h.1 hF, bO_some, if_neg (by rw [nL_lt (by omega) (by omega)]; omega), o0, bO_some, o1, bO_some, bd]
    by_cases q0 : S 9 n = 0
    · have ow := w2 (by omega)
      have el : lst S n x = (x.1 ||| 2 ^ S 10 n, x.2) := by unfold lst; rw [if_pos q0]
      rw [if_pos (by rw [q0]; rfl), o1e (by omega), hk.1, bset8 _ (by omega) _ (by omega)]
      exact ev _ (by omega) (by omega) el
    · rw [if_neg (by rw [nl0, nL_eq (by omega) (by omega)]; exact q0)]
      by_cases q2 : S 9 n = 2
      · rw [if_pos (by rw [q2]; rfl)]
        exact V (Or.inl q2)
      · rw [if_neg (by rw [nl2, nL_eq (by omega) (by omega)]; exact q2)]
        by_cases q4 : S 9 n = 4
        · rw [if_pos (by rw [q4]; rfl)]
          exact V (Or.inr q4)
        · rw [if_neg (by rw [nl4, nL_eq (by omega) (by omega)]; exact q4), hk.1]
          by_cases q5 : S 9 n = 5
          · have el : lst S n x = x := by unfold lst; rw [if_neg (by omega), if_neg (by omega), if_pos q5]
            exact ev x.1 (by omega) (by omega) el
          · have kk : S 9 n = 1 ∨ S 9 n = 3 := by omega
            have pg := w3 kk
            have y2 := hx.2 (S 11 n)
            have el : lst S n x = (x.1, if x.2 (S 11 n) = 0 then (fun p => if p = S 11 n then n else x.2 p) else x.2) := by
              unfold lst
              rw [if_neg (by omega), if_neg (by omega), if_neg (by omega)]
            obtain ⟨z1, z2⟩ := s9 x.1
            obtain ⟨-, -, ⟨p1, hp1, o2, o2e⟩, -⟩ := l_rec (LO_t h z2).1 (LO_t h z2).2.2.2.1 hN h1 (show n < S 0 0 + S 0 1 by omega)
            have o2e := o2e kk
            subst o2e
            rw [f_L_start_L164, nl0, gd_in (by omega) (by omega), nL_cl (by omega), bd, gd, if_pos (by decide), nl2, pk_rem (by omega) (by omega) (by omega), if_pos (by rw [nl1, nL_eq (by omega) (by omega)]; omega), if_neg (by rw [nl5, nL_le (by omega) (by omega)]; omega), ← nl2, o2, bO_some, gd_in pg (by omega), nL_cl (by omega), z1.2 _ pg]
            show ∃ M', (if nI (x.2 (S 11 n)) = nI 0 then _ else _) = _ ∧ _
            by_cases z : x.2 (S 11 n) = 0
            · rw [if_pos (by rw [z]), bO_some, gd_in pg (by omega), nL_cl (by omega), bd]
              refine cont _ ?_ (FQ.st z2 (Or.inr rfl))
              rw [el, if_pos z]
              refine ⟨by rw [sgr_ne (by omega)]; exact z1.1, fun p hp => ?_⟩
              rw [sgr_at]
              show _ = nI (if p = S 11 n then n else x.2 p)
              by_cases e : p = S 11 n
              · rw [if_pos e, if_pos e]
              · rw [if_neg e, if_neg e]
                exact z1.2 p hp
            · rw [if_neg (by rw [nL_eq (by omega) (by omega)]; exact z)]
              refine cont _ ?_ z2
              rw [el, if_neg z]
              exact z1
/-- what a restart does when all is done again -/
noncomputable def rtl (M : Mem) (y7 : Int32) : Option (Int32 × Mem) :=
  bP (f_L_back M (M 11 33 0)) (fun v14 M15 => bd (st M15 11 33 1 v14) (fun M16 => bO (f_L_last M16) (fun v17 => bP (f_L_force M16 v17) (fun _ M19 => bd (st M19 11 28 3 (0 : Int32)) (fun M20 => bd (st M20 11 28 4 ((M20 11 28 4) + y7)) (fun M21 => some (y7, M21)))))))
theorem l_redo {sr : Nat → Nat} {F N L dl : Nat} {ls : Nat} (hF : 1 ≤ F) (hN : N ≤ 64) (hsr : ∀ p, p < 8 → sr p = 0 ∨ (F ≤ sr p ∧ (L ≠ 0 → dl ≤ sr p))) (hsb : ∀ p, sr p ≤ b) (hFN : F + N ≤ b) (hb : b < 2 ^ 27) (hb1 : 256 ≤ b) : ∀ (d n fu : Nat) (x : St × Nat) (M : Mem), LO O M x.1 → Bd b x.1 → Sm x.1 → WF x.1 → PI x.1 → x.1 0 0 = F → x.1 0 1 = N → x.1 0 3 = L → x.1 0 4 = dl → n + d = F + N → F ≤ n → d < fu → LK M (ls, sr) →
    ∃ M', itr (f_L_start_L220) (fun _ _ _ => none) fu M (nI x.2) (nI n) = rtl M' (nI (rdo sr d n x).2) ∧ LO O M' (rdo sr d n x).1 ∧ FQ R30 M M' := by
  intro d
  induction d with
  | zero =>
    intro n fu x M h hB hs hw hp e0 e1 e3 e4 hn h1 hf hk
    obtain ⟨f, rfl⟩ : ∃ f, fu = f + 1 := ⟨fu - 1, by omega⟩
    refine ⟨M, ?_, h, FQ.rf⟩
    rw [itr_s, f_L_start_L220, l_last h.1 (by omega), bO_some, if_pos (by rw [nL_lt (by omega) (by omega)]; omega)]
    rfl
  | succ d ih =>
    intro n fu x M h hB hs hw hp e0 e1 e3 e4 hn h1 hf hk
    obtain ⟨f, rfl⟩ : ∃ f, fu = f + 1 := ⟨fu - 1, by omega⟩
    obtain ⟨w1, w2, w3⟩ := hw n (by omega) (by omega)
    obtain ⟨o0, -, ⟨p1, hp1, o2, o2e⟩, o34, -⟩ := l_rec h.1 h.2.2.2.1 (by omega) (show x.1 0 0 ≤ n by omega) (show n < x.1 0 0 + x.1 0 1 by omega)
    have h13 := hB 13 n
    have r := rst_n sr n x
    have cont : ∀ M1, LO O M1 (rst sr n x).1 → Bd b (rst sr n x).1 → Sm (rst sr n x).1 → WF (rst sr n x).1 → PI (rst sr n x).1 → FQ R30 M M1 → ∃ M', f_L_start_L309 (itr (f_L_start_L220) (fun _ _ _ => none) f) M1 (nI (rst sr n x).2) (nI n) = rtl M' (nI (rdo sr (d + 1) n x).2) ∧ LO O M' (rdo sr (d + 1) n x).1 ∧ FQ R30 M M' := fun M1 c1 c2 c3 c4 c5 c6 => by
      obtain ⟨M', a1, a2, a3⟩ := ih (n + 1) f (rst sr n x) M1 c1 c2 c3 c4 c5 (by rw [r 0 0 (by omega)]; exact e0) (by rw [r 0 1 (by omega)]; exact e1) (by rw [r 0 3 (by omega)]; exact e3) (by rw [r 0 4 (by omega)]; exact e4) (by omega) (by omega) (by omega) (LK_fr hk (c6 11 33 (by omega)) (c6 11 34 (by omega)))
      refine ⟨M', ?_, a2, c6.tr a3⟩
      rw [f_L_start_L309, bd, nI_1]
      exact a1
    have idc : rst sr n x = x → ∃ M', f_L_start_L309 (itr (f_L_start_L220) (fun _ _ _ => none) f) M (nI x.2) (nI n) = rtl M' (nI (rdo sr (d + 1) n x).2) ∧ LO O M' (rdo sr (d + 1) n x).1 ∧ FQ R30 M M' := fun e => by
      have := cont M (by rw [e]; exact h) (by rw [e]; exact hB) (by rw [e]; exact hs) (by rw [e]; exact hw) (by rw [e]; exact hp) FQ.rf
      rw [e] at this
      exact this
    rw [itr_s, f_L_start_L220, l_last h.1 (by omega), bO_some, if_neg (by rw [nL_lt (by omega) (by omega)]; omega), o0, bO_some, o2, bO_some]
    by_cases qk : x.1 9 n = 1 ∨ x.1 9 n = 3
    · have pg := w3 qk
      have o2e := o2e qk
      subst o2e
      obtain ⟨⟨o3, o3l⟩, o4, o4l⟩ := o34 qk
      have ys := hsb (x.1 11 n)
      have ym := mrk_le hB (p := x.1 11 n)
      have W : ∃ M', f_L_start_L261 (itr (f_L_start_L220) (fun _ _ _ => none) f) M (nI x.2) (nI n) (nI (x.1 11 n)) = rtl M' (nI (rdo sr (d + 1) n x).2) ∧ LO O M' (rdo sr (d + 1) n x).1 ∧ FQ R30 M M' := by
        rw [f_L_start_L261, gd_in pg (by omega), nL_cl (by omega), show M 11 34 (x.1 11 n) = nI (sr (x.1 11 n)) from hk.2 _ pg]
        by_cases z1 : sr (x.1 11 n) = 0
        · rw [if_pos (by rw [z1]; decide)]
          exact idc (by unfold rst; rw [if_neg (fun y => y.2.1 z1)])
        · rw [if_neg (by rw [nl0, nL_le (by omega) (by omega)]; omega), gd_in pg (by omega)]
          by_cases z2 : sr (x.1 11 n) ≤ n
          · rw [if_neg (by rw [nL_lt (by omega) (by omega)]; omega), l_mark h.2.2.1 pg, bO_some]
            by_cases z3 : mrk x.1 (x.1 11 n) < n
            · rw [if_neg (by rw [nL_le (by omega) (by omega)]; omega), o4, bO_some]
              have et : rst sr n x = (put x.1 (x.1 11 n) (x.1 13 n) n, x.2 + 1) := by
                unfold rst
                rw [if_pos ⟨qk, z1, z2, z3⟩]
              have md := mrk_disk (hp _ pg)
              obtain ⟨M2, e5, r2, f2⟩ := l_come h hB (by omega) hs pg (hp _ pg) (v := x.1 13 n) (n := n) o4l (by omega)
              have := cont M2 (by rw [et]; exact r2) (by rw [et]; exact Bd_put hB hs hb1 pg h13 (by omega)) (by rw [et]; exact Sm_put hs pg) (by rw [et]; exact WF_put hw) (by
                rw [et]
                exact fun p hp8 => PP_put hs pg (by omega) (by omega) (by omega) (fun z => by
                  rcases hsr _ pg with y | ⟨y1, y2⟩
                  · exact absurd y z1
                  · have := y2 (by rw [← e3]; exact z)
                    omega) hp8 (hp p hp8)) f2
              rw [et] at this
              rw [e5, bO_some, bd, nI_1]
              exact this
            · rw [if_pos (by rw [nL_le (by omega) (by omega)]; omega)]
              exact idc (by unfold rst; rw [if_neg (fun y => z3 y.2.2.2)])
          · rw [if_pos (by rw [nL_lt (by omega) (by omega)]; omega)]
            exact idc (by unfold rst; rw [if_neg (fun y => z2 y.2.2.1)])
      rcases qk with qk | qk
      · rw [if_pos (by rw [qk]; rfl)]
        exact W
      · rw [if_neg (by rw [qk]; decide), if_pos (by rw [qk]; rfl)]
        exact W
    · rw [if_neg (by rw [nl1, nL_eq (by omega) (by omega)]; omega), if_neg (by rw [nl3, nL_eq (by omega) (by omega)]; omega)]
      exact idc (by unfold rst; rw [if_neg (fun h => qk h.1)])
theorem l_start (h : LSt M S) (hv : Inv b S) (q5 : S 0 5 ≠ 0) (hbb : b + 500 < 2 ^ 27) (h256 : S 0 0 + S 0 1 ≤ 256) (ph64 : phi S (S 0 0) (S 0 1) ≤ 64) : ∃ M', f_L_start M = some (nI (rs1 S).2, M') ∧ LSt M' (aRest S).2 ∧ ∀ g, g ≠ 11 → M' g = M g := by
  obtain ⟨j1, p1, s1, b1, c1⟩ := rs1_iv hv q5
  obtain ⟨k, ⟨⟨hj, hp, hs, a1, a2⟩, so, tk, hl, lb, oj, ot, op⟩, h0⟩ := rs2_iv hv q5
  obtain ⟨rF, rN, r9, lp⟩ := rs2_F hv q5
  obtain ⟨⟨n1, ⟨n2, n2'⟩, n3, n4, n5, n6, n7, n8, n9⟩, hjS, hpi, hr, hst⟩ := id hv
  have hN64 : S 0 1 ≤ 64 := Nat.le_trans (phi_n _ _ _) ph64
  obtain ⟨k1, k2, k3⟩ := look_iv hjS
  have hck : Ck b S := fun q => by
    have c := hjS.2.2.1 q
    have := c.2.1
    exact ⟨c.1, by omega, c.2.2.1, c.2.2.2.2.1⟩
  have hx := Bx_look n1 n2' hjS.1.1 hck
  have hx0 := Bx_lk0 n1 hck
  obtain ⟨s6, s7, s8, sD⟩ := hst q5
  have y0 := n1 0 0
  have y3 := n1 0 3
  -- the losers and the starts of the checkpoint
  have lp8 : ∀ d i fu (M1 : Mem), i + d = 8 → d < fu → LSt M1 S → M1 11 33 0 = nI (lk0 S).1 → (∀ p, p < i → M1 11 34 p = nI ((lk0 S).2 p)) → (∀ g, g ≠ 11 → M1 g = M g) →
      ∃ M', itr (f_L_start_L38) (fun _ _ _ => none) fu M1 (nI (S 0 3)) (nI i) = itr (f_L_start_L220) (fun _ _ _ => none) FU M' 0 (nI (S 0 0)) ∧ LK M' (look S) ∧ LSt M' S ∧ (∀ g, g ≠ 11 → M' g = M g) := by
    intro d
    induction d with
    | zero =>
      intro i fu M1 hi hf h1 h33 h34 ho
      obtain ⟨f, rfl⟩ : ∃ f, fu = f + 1 := ⟨fu - 1, by omega⟩
      have hi : i = 8 := by omega
      subst hi
      have hk : LK M1 (lk0 S) := ⟨h33, fun p h8 => h34 p h8⟩
      rw [itr_s, f_L_start_L38, if_pos (by decide)]
      have go : ∀ z, z = lkn S → S 0 0 ≤ z → z ≤ S 0 0 + S 0 1 → ∃ M', f_L_start_L84 M1 (nI z) = itr (f_L_start_L220) (fun _ _ _ => none) FU M' 0 (nI (S 0 0)) ∧ LK M' (look S) ∧ LSt M' S ∧ (∀ g, g ≠ 11 → M' g = M g) := fun z ez z1 z2 => by
        obtain ⟨M', e1, e2, e3⟩ := l_lk (O := fun g => (S 0 8).testBit g) n1 (by omega) hN64 n5 n2' hjS.1.1 (S 0 0 + S 0 1 - z) z FU (lk0 S) M1 h1 (by omega) z1 (by show _ < 10000; omega) hx0 hk
        refine ⟨M', ?_, ?_, LO_t h1 e3, fun g hg => (e3.o g hg).trans (ho g hg)⟩
        · rw [f_L_start_L84]; exact e1
        · unfold look
          rw [← ez]
          exact e2
      by_cases q : S 0 3 = 0
      · rw [if_pos (by rw [q]; rfl), h1.1.1]
        exact go _ (by unfold lkn; rw [if_pos q]) (Nat.le_refl _) (by omega)
      · have c := hjS.2.2.1 q
        have c1 := c.1
        have c2 := c.2.1
        rw [if_neg (by rw [nl0, nL_eq (by omega) (by omega)]; exact q), nI_1]
        exact go _ (by unfold lkn; rw [if_neg q]) (by omega) (by omega)
    | succ d ih =>
      intro i fu M1 hi hf h1 h33 h34 ho
      obtain ⟨f, rfl⟩ : ∃ f, fu = f + 1 := ⟨fu - 1, by omega⟩
      have W : ∃ M', f_L_start_L62 (itr (f_L_start_L38) (fun _ _ _ => none) f) M1 (nI (S 0 3)) (nI i) (nI ((lk0 S).2 i)) (nI i) = itr (f_L_start_L220) (fun _ _ _ => none) FU M' 0 (nI (S 0 0)) ∧ LK M' (look S) ∧ LSt M' S ∧ (∀ g, g ≠ 11 → M' g = M g) := by
        have f34 : FQ RT M1 (st M1 11 34 i (nI ((lk0 S).2 i))) := FQ.st FQ.rf (Or.inr rfl)
        obtain ⟨M', e1, e2⟩ := ih (i + 1) f (st M1 11 34 i (nI ((lk0 S).2 i))) (by omega) (by omega) (LO_t h1 f34) (by rw [sgr_ne (by omega)]; exact h33) (fun p hp' => by
          rw [sgr_at]
          by_cases e : p = i
          · rw [if_pos e, e]
          · rw [if_neg e]; exact h34 p (by omega)) (fun g hg => (f34.o g hg).trans (ho g hg))
        refine ⟨M', ?_, e2⟩
        rw [f_L_start_L62, gd_in (by omega) (by omega), bd, bd, nL_cl (by omega), nI_1]
        exact e1
      rw [itr_s, f_L_start_L38, if_neg (by rw [nl8, nL_le (by omega) (by omega)]; omega)]
      by_cases q : S 0 3 = 0
      · have ev : (lk0 S).2 i = 0 := by unfold lk0; rw [if_pos q]
        rw [ev] at W
        rw [if_pos (by rw [q]; rfl)]
        exact W
      · have ev : (lk0 S).2 i = S 15 i := by unfold lk0; rw [if_neg q]
        rw [ev] at W
        rw [if_neg (by rw [nl0, nL_eq (by omega) (by omega)]; exact q), gd_in (by omega) (by omega), nL_cl (by omega), h1.2.2.2.2 q i (by omega)]
        exact W
  obtain ⟨M1, eM1⟩ : ∃ M1, M1 = sr M 11 34 (fun _ => 0) := ⟨_, rfl⟩
  have f1 : FQ RT M M1 := fun k r z => by rw [eM1, sr_ne (fun y => z ⟨y.1, Or.inr y.2⟩)]
  have h1 : LSt M1 S := LO_t h f1
  have L34 : ∀ v, v = (lk0 S).1 → ∃ M', f_L_start_L34 M1 (nI (S 0 3)) (nI v) 0 = itr (f_L_start_L220) (fun _ _ _ => none) FU M' 0 (nI (S 0 0)) ∧ LK M' (look S) ∧ LSt M' S ∧ (∀ g, g ≠ 11 → M' g = M g) := fun v ev => by
    have f33 : FQ RT M1 (st M1 11 33 0 (nI v)) := FQ.st FQ.rf (Or.inl rfl)
    obtain ⟨M', e1, e2⟩ := lp8 8 0 FU (st M1 11 33 0 (nI v)) rfl (by decide) (LO_t h1 f33) (by rw [sgr_at, if_pos rfl, ev]) (fun p hp => by omega) (fun g hg => (f33.o g hg).trans (f1.o g hg))
    refine ⟨M', ?_, e2⟩
    rw [f_L_start_L34, nl0, gd_in (by omega) (by omega), nL_cl (by omega), bd]
    exact e1
  have first : ∃ M', f_L_start M = itr (f_L_start_L220) (fun _ _ _ => none) FU M' 0 (nI (S 0 0)) ∧ LK M' (look S) ∧ LSt M' S ∧ (∀ g, g ≠ 11 → M' g = M g) := by
    rw [f_L_start, bd, ← eM1, l_latest h1.1 h1.2.2.2.1 n1 (by omega) hN64 hjS, bO_some]
    by_cases q : S 0 3 = 0
    · rw [if_pos (by rw [q]; rfl)]
      exact L34 0 (by unfold lk0; rw [if_pos q])
    · have c := hjS.2.2.1 q
      have c1 := c.1
      have c2 := c.2.1
      rw [if_neg (by rw [nl0, nL_eq (by omega) (by omega)]; exact q), ((l_rec h1.1 h1.2.2.2.1 hN64 c1 (by omega)).2.2.2.2.2 c.2.2.1).1, bO_some]
      exact L34 _ (by unfold lk0; rw [if_neg q])
  obtain ⟨Ma, ea, la, ra, oa⟩ := first
  obtain ⟨M2, e2, r2, f2⟩ := l_redo (O := fun g => (S 0 8).testBit g) (sr := (look S).2) (ls := (look S).1) (b := b) (F := S 0 0) (N := S 0 1) (L := S 0 3) (dl := S 0 4) n5 hN64 k3 hx.2 n2' n3 n2 (S 0 1) (S 0 0) FU (S, 0) Ma ra n1 n9 hjS.1.1 hpi rfl rfl rfl rfl rfl (Nat.le_refl _) (by show _ < 10000; omega) la
  change LO _ _ (rs1 S).1 at r2
  change _ = rtl M2 (nI (rs1 S).2) at e2
  have e0 : (rs1 S).1 0 0 = S 0 0 := rs1_e (by omega)
  have e1' : (rs1 S).1 0 1 = S 0 1 := rs1_e (by omega)
  have ti := TI_init (l0 := (look S).1) j1 p1 s1 k1 (fun g hg o => by
    rw [e0, e1']
    exact OJ_cg (fun n _ _ => ⟨rs1_e (by omega), rs1_e (by omega)⟩) ((k2 g hg).mp o)) (fun _ _ _ => Or.inr trivial)
  have ph1 : phi (rs1 S).1 ((rs1 S).1 0 0) ((rs1 S).1 0 1) ≤ 64 := by
    rw [e0, e1', phi_cg (S := S) (fun n _ => ⟨rs1_e (by omega), rs1_e (by omega), rs1_e (by omega)⟩)]
    exact ph64
  obtain ⟨M3, e3, r3, f3⟩ := l_back (b := b) r2 ⟨b1, n2, by omega, by omega, s1, j1.1.1⟩ (by omega) (by omega) (by omega) ph1 ti
  rw [show tlb ((rs1 S).1 0 0 - 1) ((rs1 S).1 0 1) ((rs1 S).1, (look S).1, (fun _ => false), 0) = rs2 S by rw [e0, e1']; rfl] at e3 r3
  have f4 : FQ RT M3 (st M3 11 33 1 (nI (rs2 S).2.2.2)) := FQ.st FQ.rf (Or.inl rfl)
  have r4 := LO_t r3 f4
  have rNn := lp.1 0 1
  have rF0 := lp.1 0 0
  obtain ⟨M5, e5, r5, f5⟩ := l_force (b := b + 120) (n := (rs2 S).1 0 0 + (rs2 S).1 0 1 - 1) r4 lp.1 (by omega) (by omega)
  have l2 := LK_fr la (f2 11 33 (by omega)) (f2 11 34 (by omega))
  refine ⟨st (st M5 11 28 3 0) 11 28 4 ((st M5 11 28 3 0 11 28 4) + nI (rs1 S).2), ?_, ?_, ?_⟩
  · rw [ea]
    show itr (f_L_start_L220) (fun _ _ _ => none) FU Ma (nI 0) (nI (S 0 0)) = _
    rw [e2, rtl, l2.1, e3, bP_some, bd, l_last r4.1 (by omega), bO_some, e5, bP_some, bd, bd]
  · have eX : (aRest S).2 = up (up (frc (rs2 S).1 ((rs2 S).1 0 0 + (rs2 S).1 0 1 - 1)) 0 5 0) 0 9 (S 0 9 + (rs1 S).2) := by unfold aRest; rw [if_neg q5]
    have e8' : (aRest S).2 0 8 = (rs2 S).1 0 8 := by rw [eX, up_ne (by omega), up_ne (by omega), frc_o (by omega)]
    have r80 : (rs2 S).1 0 8 = S 0 8 := by
      have z : ∀ g, g < 4 → ((rs2 S).1 0 8).testBit g = false := fun g hg => by
        cases q : ((rs2 S).1 0 8).testBit g
        · rfl
        · have := ((op g hg).mp q).1
          rw [rs1_e (by omega), s8, Nat.zero_testBit] at this
          exact nomatch this
      rw [s8]
      exact bits16 _ hs.2.2.1 (z 0 (by omega)) (z 1 (by omega)) (z 2 (by omega)) (z 3 (by omega))
    show LO (fun i => ((aRest S).2 0 8).testBit i) _ (aRest S).2
    rw [e8', r80, eX]
    obtain ⟨⟨g0, g1, g2, g3, g4⟩, hq5, hp5, hr5, hl5⟩ := r5
    have lo' : ∀ (v w : Int32) j, st (st M5 11 28 3 v) 11 28 4 w 11 28 j = if j = 4 then w else if j = 3 then v else M5 11 28 j := fun v w j => by rw [sgr_at, sgr_at]
    have lr : ∀ (v w : Int32) r, r ≠ 28 → st (st M5 11 28 3 v) 11 28 4 w 11 r = M5 11 r := fun v w r hr => by rw [sgr_ne (by omega), sgr_ne (by omega)]
    refine ⟨⟨?_, ?_, ?_, ?_, ?_⟩, ?_, ?_, ?_, ?_⟩
    · rw [lo', if_neg (by omega), if_neg (by omega), up_ne (by omega), up_ne (by omega)]; exact g0
    · rw [lo', if_neg (by omega), if_neg (by omega), up_ne (by omega), up_ne (by omega)]; exact g1
    · rw [lo', if_neg (by omega), if_neg (by omega), up_ne (by omega), up_ne (by omega)]; exact g2
    · rw [lo', if_neg (by omega), if_pos rfl, up_ne (by omega), up_at]; rfl
    · rw [lo', if_pos rfl, sgr_at, if_neg (by omega), g4, frc_o (by omega), r9, nI_add, up_at]
    · rw [lr _ _ _ (by omega)]; exact LQ_cg hq5 (fun f i _ hf => by rw [up_ne (by omega), up_ne (by omega)])
    · rw [lr _ _ _ (by omega)]; exact LPg_cg hp5 (fun f i _ hf => by rw [up_ne (by omega), up_ne (by omega)])
    · rw [wd_cg (lr _ _ 31 (by omega))]; exact LR_cg hr5 (by rw [up_ne (by omega), up_ne (by omega)]) (by rw [up_ne (by omega), up_ne (by omega)]) (fun f i a c => by rw [up_ne (by omega), up_ne (by omega)])
    · rw [lr _ _ _ (by omega)]; exact LN_cg hl5 (by rw [up_ne (by omega), up_ne (by omega)]) (fun p _ => by rw [up_ne (by omega), up_ne (by omega)])
  · intro g hg
    rw [st_fr hg, st_fr hg, f5.o g hg, f4.o g hg, f3.o g hg, f2.o g hg]
    exact oa g hg
end LSR
