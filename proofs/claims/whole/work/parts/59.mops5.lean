section MS
variable {M : Mem} {S T : St} {O : Nat → Bool} {b p g n t : Nat}
/-- what was looked for lies in 28 (9) and 34 -/
def LK (M : Mem) (x : Nat × (Nat → Nat)) : Prop := M 11 28 9 = nI x.1 ∧ ∀ p, p < 8 → M 11 34 p = nI (x.2 p)
theorem LK_fm {M M' : Mem} {x : Nat × (Nat → Nat)} (h : LK M x) (f : FM M M') : LK M' x := ⟨(f 11 28 9 (by omega)).trans h.1, fun p hp => (f 11 34 p (by omega)).trans (h.2 p hp)⟩
theorem m_lk (hR : RO O (M 11 29) S) (hB : Bd b S) (hb : b < 2 ^ 28) (hN : S 0 1 ≤ 120) (hF : 1 ≤ S 0 0) (hbn : S 0 0 + S 0 1 ≤ b) (hw : WF S) : ∀ (d n fu : Nat) (x : Nat × (Nat → Nat)) (M' : Mem), M' 11 29 = M 11 29 → n + d = S 0 0 + S 0 1 → S 0 0 ≤ n → d < fu → Bx b x → LK M' x →
    ∃ M'', itr (f_X8_looks_L78) (fun _ _ => none) fu M' (nI n) = some M'' ∧ LK M'' (lkk S d n x) ∧ FW M' M'' ∧ M'' 11 29 = M 11 29 := by
  intro d
  induction d with
  | zero =>
    intro n fu x M' h29 hn h1 hf hx hk
    obtain ⟨f, rfl⟩ : ∃ f, fu = f + 1 := ⟨fu - 1, by omega⟩
    have y0 := hB 0 0
    refine ⟨M', ?_, hk, FW.rf, h29⟩
    rw [itr_s, f_X8_looks_L78, m_last (S := S) (by rw [h29]; exact hR.1) hF, bO_some, if_pos (by rw [nL_lt (by omega) (by omega)]; omega)]
  | succ d ih =>
    intro n fu x M' h29 hn h1 hf hx hk
    obtain ⟨f, rfl⟩ : ∃ f, fu = f + 1 := ⟨fu - 1, by omega⟩
    have y0 := hB 0 0
    have hR' : RO O (M' 11 29) S := by rw [h29]; exact hR
    obtain ⟨w1, w2, w3⟩ := hw n h1 (by omega)
    obtain ⟨o0, o1, o2, o3, o4, o5⟩ := m_rec hR'.1 hR'.2.2.2 (by omega) h1 (show n < S 0 0 + S 0 1 by omega)
    have hx' := Bx_lst hw hbn h1 (show n < S 0 0 + S 0 1 by omega) hx
    have x1 := hx.1
    have cont : ∀ M1, M1 11 29 = M 11 29 → LK M1 (lst S n x) → FW M' M1 → ∃ M'', f_X8_looks_L194 (itr (f_X8_looks_L78) (fun _ _ => none) f) M1 (nI n) = some M'' ∧ LK M'' (lkk S (d + 1) n x) ∧ FW M' M'' ∧ M'' 11 29 = M 11 29 := fun M1 z1 z2 z3 => by
      obtain ⟨M'', e1, e2, e3, e4⟩ := ih (n + 1) f (lst S n x) M1 z1 (by omega) (by omega) (by omega) hx' z2
      refine ⟨M'', ?_, e2, z3.tr e3, e4⟩
      rw [f_X8_looks_L194, bd, nI_1]
      exact e1
    rw [itr_s, f_X8_looks_L78, m_last (S := S) hR'.1 hF, bO_some, if_neg (by rw [nL_lt (by omega) (by omega)]; omega), o0, bO_some]
    have s9 : ∀ v M1, M1 = st M' 11 28 9 (nI v) → M1 11 29 = M 11 29 ∧ FW M' M1 ∧ LK M1 (v, x.2) := fun v M1 e => by
      subst e
      refine ⟨(st29 (by omega)).trans h29, FW.rf.s (by omega), by rw [st_get, if_pos ⟨rfl, rfl, rfl⟩], fun p hp => ?_⟩
      rw [st_get, if_neg (by omega)]
      exact hk.2 p hp
    have own : S 9 n ≠ 5 → eo (S 9 n) (S 10 n) = nI (S 10 n) := fun q => by unfold eo; rw [if_neg q]
    have V : (S 9 n = 2 ∨ S 9 n = 4) → ∃ M'', f_X8_looks_L127 (itr (f_X8_looks_L78) (fun _ _ => none) f) M' (nI n) = some M'' ∧ LK M'' (lkk S (d + 1) n x) ∧ FW M' M'' ∧ M'' 11 29 = M 11 29 := fun q => by
      have ow := w2 (by omega)
      have el : lst S n x = (x.1 &&& (255 - 2 ^ S 10 n), x.2) := by unfold lst; rw [if_neg (by omega), if_pos q]
      rw [f_X8_looks_L127, o1, bO_some, own (by omega), hk.1, bclr8 _ (by omega) _ (by omega), bd]
      obtain ⟨z1, z2, z3⟩ := s9 (x.1 &&& (255 - 2 ^ S 10 n)) _ rfl
      exact cont _ z1 (by rw [el]; exact z3) z2
    by_cases q0 : S 9 n = 0
    · have ow := w2 (by omega)
      have el : lst S n x = (x.1 ||| 2 ^ S 10 n, x.2) := by unfold lst; rw [if_pos q0]
      rw [if_pos (by rw [q0]; rfl), o1, bO_some, own (by omega), hk.1, bset8 _ (by omega) _ (by omega), bd]
      obtain ⟨z1, z2, z3⟩ := s9 (x.1 ||| 2 ^ S 10 n) _ rfl
      exact cont _ z1 (by rw [el]; exact z3) z2
    · rw [if_neg (by rw [nl0, nL_eq (by omega) (by omega)]; exact q0)]
      by_cases q2 : S 9 n = 2
      · rw [if_pos (by rw [q2]; rfl)]
        exact V (Or.inl q2)
      · rw [if_neg (by rw [nl2, nL_eq (by omega) (by omega)]; exact q2)]
        by_cases q4 : S 9 n = 4
        · rw [if_pos (by rw [q4]; rfl)]
          exact V (Or.inr q4)
        · rw [if_neg (by rw [nl4, nL_eq (by omega) (by omega)]; exact q4)]
          by_cases q5 : S 9 n = 5
          · have el : lst S n x = x := by unfold lst; rw [if_neg (by omega), if_neg (by omega), if_pos q5]
            rw [if_pos (by rw [q5]; rfl)]
            exact cont M' h29 (by rw [el]; exact hk) FW.rf
          · have kk : S 9 n = 1 ∨ S 9 n = 3 := by omega
            have pg := w3 kk
            have ep2 : ep (S 9 n) (S 11 n) = nI (S 11 n) := by unfold ep; rw [if_pos kk]
            have y2 := hx.2 (S 11 n)
            have el : lst S n x = (x.1, if x.2 (S 11 n) = 0 then (fun p => if p = S 11 n then n else x.2 p) else x.2) := by
              unfold lst
              rw [if_neg (by omega), if_neg (by omega), if_neg (by omega)]
            rw [if_neg (by rw [nl5, nL_eq (by omega) (by omega)]; exact q5), o2, bO_some, bO_some, ep2, gd_in pg (by omega), nL_cl (by omega), hk.2 _ pg]
            by_cases z : x.2 (S 11 n) = 0
            · rw [if_pos (by rw [z]; rfl), f_X8_looks_L193, gd_in pg (by omega), nL_cl (by omega), bd]
              refine cont _ ((st29 (by omega)).trans h29) ?_ (FW.rf.s (by omega))
              rw [el, if_pos z]
              refine ⟨by rw [st_get, if_neg (by omega)]; exact hk.1, fun p hp => ?_⟩
              rw [st_get]
              show _ = nI (if p = S 11 n then n else x.2 p)
              by_cases e : p = S 11 n
              · rw [if_pos ⟨rfl, rfl, e⟩, if_pos e]
              · rw [if_neg (fun y => e y.2.2), if_neg e]
                exact hk.2 p hp
            · rw [if_neg (by rw [nl0, nL_eq (by omega) (by omega)]; exact z), bO_some, gd_in pg (by omega), f_X8_looks_L193, gd_in pg (by omega), bd, nL_cl (by omega), hk.2 _ pg]
              refine cont _ ((st29 (by omega)).trans h29) ?_ (FW.rf.s (by omega))
              rw [el, if_neg z]
              refine ⟨by rw [st_get, if_neg (by omega)]; exact hk.1, fun p hp => ?_⟩
              rw [st_get]
              by_cases e : p = S 11 n
              · rw [if_pos ⟨rfl, rfl, e⟩, e]
              · rw [if_neg (fun y => e y.2.2)]
                exact hk.2 p hp
theorem m_looks (hR : RO O (M 11 29) S) (hv : Inv b S) : ∃ M', f_X8_looks M = some M' ∧ LK M' (look S) ∧ FW M M' ∧ M' 11 29 = M 11 29 := by
  obtain ⟨⟨n1, ⟨n2, n2'⟩, n3, n4, n5, n6, n7, n8, n9⟩, hj, hpi, hr, hst⟩ := id hv
  have y0 := n1 0 0
  have y3 := n1 0 3
  have hw := hj.1.1
  have lp : ∀ (x1 : Nat), x1 = (lk0 S).1 → ∀ d i fu (M' : Mem), i + d = 8 → d < fu → M' 11 29 = M 11 29 → M' 11 28 9 = nI x1 → (∀ p, p < i → M' 11 34 p = nI ((lk0 S).2 p)) → Bx b (lk0 S) →
      ∃ M'', itr (f_X8_looks_L26) (fun _ _ _ => none) fu M' (nI (S 0 3)) (nI i) = some M'' ∧ LK M'' (look S) ∧ FW M' M'' ∧ M'' 11 29 = M 11 29 := by
    intro x1 ex1 d
    induction d with
    | zero =>
      intro i fu M' hi hf h29 h9 hp hx
      obtain ⟨f, rfl⟩ : ∃ f, fu = f + 1 := ⟨fu - 1, by omega⟩
      have hi : i = 8 := by omega
      subst hi
      have hk : LK M' (lk0 S) := ⟨by rw [h9, ex1], fun p h8 => hp p h8⟩
      rw [itr_s, f_X8_looks_L26, if_pos (by decide)]
      unfold look lkn
      by_cases q : S 0 3 = 0
      · rw [if_pos (by rw [q]; rfl), if_pos q, f_X8_looks_L77, h29, hR.1.1]
        exact m_lk hR n1 (by omega) n4 n5 n2' hw _ _ FU (lk0 S) M' h29 (by omega) (by omega) (by show _ < 10000; omega) hx hk
      · have c := hj.2.2.1 q
        have c1 := c.1
        have c2 := c.2.1
        rw [if_neg (by rw [nl0, nL_eq (by omega) (by omega)]; exact q), if_neg q, f_X8_looks_L77, nI_1]
        exact m_lk hR n1 (by omega) n4 n5 n2' hw _ _ FU (lk0 S) M' h29 (by omega) (by omega) (by show _ < 10000; omega) hx hk
    | succ d ih =>
      intro i fu M' hi hf h29 h9 hp hx
      obtain ⟨f, rfl⟩ : ∃ f, fu = f + 1 := ⟨fu - 1, by omega⟩
      have W : ∃ M'', f_X8_looks_L54 (itr (f_X8_looks_L26) (fun _ _ _ => none) f) M' (nI (S 0 3)) (nI i) (nI ((lk0 S).2 i)) (nI i) = some M'' ∧ LK M'' (look S) ∧ FW M' M'' ∧ M'' 11 29 = M 11 29 := by
        obtain ⟨M'', e1, e2, e3, e4⟩ := ih (i + 1) f (st M' 11 34 i (nI ((lk0 S).2 i))) (by omega) (by omega) ((st29 (by omega)).trans h29) (by rw [st_get, if_neg (by omega)]; exact h9) (fun p hp' => by
          rw [st_get]
          by_cases e : p = i
          · rw [if_pos ⟨rfl, rfl, e⟩, e]
          · rw [if_neg (fun y => e y.2.2)]; exact hp p (by omega)) hx
        refine ⟨M'', ?_, e2, (FW.rf.s (by omega)).tr e3, e4⟩
        rw [f_X8_looks_L54, gd_in (by omega) (by omega), bd, bd, nL_cl (by omega), nI_1]
        exact e1
      rw [itr_s, f_X8_looks_L26, if_neg (by rw [nl8, nL_le (by omega) (by omega)]; omega)]
      by_cases q : S 0 3 = 0
      · have ev : (lk0 S).2 i = 0 := by unfold lk0; rw [if_pos q]
        rw [ev] at W
        rw [if_pos (by rw [q]; rfl)]
        exact W
      · have ev : (lk0 S).2 i = S 15 i := by unfold lk0; rw [if_neg q]
        rw [ev] at W
        have c := hj.2.2.1 q
        have c1 := c.1
        have c2 := c.2.1
        obtain ⟨-, -, -, -, -, -, r7, r8⟩ := hR.2.2.2 (S 0 3 - S 0 0) (by omega)
        rw [show S 0 0 + (S 0 3 - S 0 0) = S 0 3 by omega] at r8
        have o8 : f_X8_of M' (nI (S 0 3)) (8 + nI i) = some (nI (S 15 i)) := by
          rw [nl8, nI_add]
          refine (m_of (S := S) (by rw [h29]; exact hR.1) c1 (by omega) (k := 8 + i) (by omega)).trans (congrArg some ?_)
          rw [h29]
          exact r8 rfl i (by omega)
        rw [if_neg (by rw [nl0, nL_eq (by omega) (by omega)]; exact q), o8, bO_some]
        exact W
  have hck : Ck b S := fun q => by
    have c := hj.2.2.1 q
    have := c.2.1
    exact ⟨c.1, by omega, c.2.2.1, c.2.2.2.2.1⟩
  have hx := Bx_lk0 n1 hck
  rw [f_X8_looks, m_latest hR.1 hR.2.2.2 n1 (by omega) n4 hj, bO_some]
  by_cases q : S 0 3 = 0
  · have e1 : (lk0 S).1 = 0 := by unfold lk0; rw [if_pos q]
    obtain ⟨M'', a1, a2, a3, a4⟩ := lp 0 e1.symm 8 0 FU (st M 11 28 9 0) rfl (by decide) (st29 (by omega)) (by rw [st_get, if_pos ⟨rfl, rfl, rfl⟩]; rfl) (fun p hp => by omega) hx
    refine ⟨M'', ?_, a2, (FW.rf.s (by omega)).tr a3, a4⟩
    rw [if_pos (by rw [q]; rfl), f_X8_looks_L21, bd]
    exact a1
  · have e1 : (lk0 S).1 = S 12 (S 0 3) := by unfold lk0; rw [if_neg q]
    have c := hj.2.2.1 q
    have c1 := c.1
    have c2 := c.2.1
    obtain ⟨-, -, -, -, -, -, r7, r8⟩ := hR.2.2.2 (S 0 3 - S 0 0) (by omega)
    rw [show S 0 0 + (S 0 3 - S 0 0) = S 0 3 by omega] at r7
    have o6 : f_X8_of M (nI (S 0 3)) 6 = some (nI (S 12 (S 0 3))) := (m_of hR.1 c1 (by omega) (k := 6) (by omega)).trans (congrArg some (r7 c.2.2.1).1)
    obtain ⟨M'', a1, a2, a3, a4⟩ := lp (S 12 (S 0 3)) e1.symm 8 0 FU (st M 11 28 9 (nI (S 12 (S 0 3)))) rfl (by decide) (st29 (by omega)) (by rw [st_get, if_pos ⟨rfl, rfl, rfl⟩]) (fun p hp => by omega) hx
    refine ⟨M'', ?_, a2, (FW.rf.s (by omega)).tr a3, a4⟩
    rw [if_neg (by rw [nl0, nL_eq (by omega) (by omega)]; exact q), o6, bO_some, f_X8_looks_L21, bd]
    exact a1
/-- what a restart of the model does when all is done again -/
noncomputable def rtail (M : Mem) (y1 : Int32) : Option (Int32 × Mem) :=
  bd (st M 11 29 4 ((M 11 29 4) + y1)) (fun M6 => bP (f_X8_takes M6 (M6 11 28 9)) (fun v7 M8 => bd (st M8 11 28 10 v7) (fun M9 => bO (f_X8_last M9) (fun v10 => bP (f_X8_forces M9 v10) (fun _ M12 => bd (st M12 11 29 3 (0 : Int32)) (fun M13 => some (y1, M13)))))))
theorem m_redo {sr : Nat → Nat} {F N L dl : Nat} {ls : Nat} (hF : 1 ≤ F) (hN : N ≤ 120) (hsr : ∀ p, p < 8 → sr p = 0 ∨ (F ≤ sr p ∧ (L ≠ 0 → dl ≤ sr p))) (hsb : ∀ p, sr p ≤ b) (hFN : F + N ≤ b) (hb : b < 2 ^ 27) (hb1 : 256 ≤ b) : ∀ (d n fu : Nat) (x : St × Nat) (M : Mem), RO O (M 11 29) x.1 → Bd b x.1 → Sm x.1 → WF x.1 → PI x.1 → x.1 0 0 = F → x.1 0 1 = N → x.1 0 3 = L → x.1 0 4 = dl → n + d = F + N → F ≤ n → d < fu → LK M (ls, sr) →
    ∃ M', itr (f_X8_restarts_L13) (fun _ _ _ => none) fu M (nI x.2) (nI n) = rtail M' (nI (rdo sr d n x).2) ∧ RO O (M' 11 29) (rdo sr d n x).1 ∧ FM M M' := by
  intro d
  induction d with
  | zero =>
    intro n fu x M h hB hs hw hp e0 e1 e3 e4 hn h1 hf hk
    obtain ⟨f, rfl⟩ : ∃ f, fu = f + 1 := ⟨fu - 1, by omega⟩
    refine ⟨M, ?_, h, FM.rf⟩
    rw [itr_s, f_X8_restarts_L13, m_last h.1 (by omega), bO_some, if_pos (by rw [nL_lt (by omega) (by omega)]; omega)]
    rfl
  | succ d ih =>
    intro n fu x M h hB hs hw hp e0 e1 e3 e4 hn h1 hf hk
    obtain ⟨f, rfl⟩ : ∃ f, fu = f + 1 := ⟨fu - 1, by omega⟩
    obtain ⟨w1, w2, w3⟩ := hw n (by omega) (by omega)
    obtain ⟨o0, o1, o2, o3, o4, o5⟩ := m_rec h.1 h.2.2.2 (by omega) (show x.1 0 0 ≤ n by omega) (show n < x.1 0 0 + x.1 0 1 by omega)
    have h13 := hB 13 n
    have r := rst_n sr n x
    have cont : ∀ M1, RO O (M1 11 29) (rst sr n x).1 → Bd b (rst sr n x).1 → Sm (rst sr n x).1 → WF (rst sr n x).1 → PI (rst sr n x).1 → FM M M1 → ∃ M', f_X8_restarts_L114 (itr (f_X8_restarts_L13) (fun _ _ _ => none) f) M1 (nI (rst sr n x).2) (nI n) = rtail M' (nI (rdo sr (d + 1) n x).2) ∧ RO O (M' 11 29) (rdo sr (d + 1) n x).1 ∧ FM M M' := fun M1 c1 c2 c3 c4 c5 c6 => by
      obtain ⟨M', a1, a2, a3⟩ := ih (n + 1) f (rst sr n x) M1 c1 c2 c3 c4 c5 (by rw [r 0 0 (by omega)]; exact e0) (by rw [r 0 1 (by omega)]; exact e1) (by rw [r 0 3 (by omega)]; exact e3) (by rw [r 0 4 (by omega)]; exact e4) (by omega) (by omega) (by omega) (LK_fm hk c6)
      refine ⟨M', ?_, a2, c6.tr a3⟩
      rw [f_X8_restarts_L114, bd, nI_1]
      exact a1
    have idc : rst sr n x = x → ∃ M', f_X8_restarts_L114 (itr (f_X8_restarts_L13) (fun _ _ _ => none) f) M (nI x.2) (nI n) = rtail M' (nI (rdo sr (d + 1) n x).2) ∧ RO O (M' 11 29) (rdo sr (d + 1) n x).1 ∧ FM M M' := fun e => by
      have := cont M (by rw [e]; exact h) (by rw [e]; exact hB) (by rw [e]; exact hs) (by rw [e]; exact hw) (by rw [e]; exact hp) FM.rf
      rw [e] at this
      exact this
    rw [itr_s, f_X8_restarts_L13, m_last h.1 (by omega), bO_some, if_neg (by rw [nL_lt (by omega) (by omega)]; omega), o0, bO_some]
    by_cases qk : x.1 9 n = 1 ∨ x.1 9 n = 3
    · have pg := w3 qk
      have ep2 : ep (x.1 9 n) (x.1 11 n) = nI (x.1 11 n) := by unfold ep; rw [if_pos qk]
      have ep4 : ep (x.1 9 n) (x.1 13 n) = nI (x.1 13 n) := by unfold ep; rw [if_pos qk]
      have ys := hsb (x.1 11 n)
      have ym := mrk_le hB (p := x.1 11 n)
      have W : ∃ M', f_X8_restarts_L41 (itr (f_X8_restarts_L13) (fun _ _ _ => none) f) M (nI x.2) (nI n) = rtail M' (nI (rdo sr (d + 1) n x).2) ∧ RO O (M' 11 29) (rdo sr (d + 1) n x).1 ∧ FM M M' := by
        rw [f_X8_restarts_L41, f_X8_restarts_L46, if_neg (by decide), o2, bO_some, ep2, f_X8_restarts_L61, if_neg (by decide), gd_in pg (by omega), nL_cl (by omega), show M 11 34 (x.1 11 n) = nI (sr (x.1 11 n)) from hk.2 _ pg]
        by_cases z1 : sr (x.1 11 n) = 0
        · rw [if_pos (by rw [z1]; decide)]
          exact idc (by unfold rst; rw [if_neg (fun y => y.2.1 z1)])
        · rw [if_neg (by rw [nl0, nL_le (by omega) (by omega)]; omega), gd_in pg (by omega)]
          by_cases z2 : sr (x.1 11 n) ≤ n
          · rw [if_neg (by rw [nL_lt (by omega) (by omega)]; omega), m_mark h.2.1 pg, bO_some]
            by_cases z3 : mrk x.1 (x.1 11 n) < n
            · rw [if_neg (by rw [nL_le (by omega) (by omega)]; omega), o4, bO_some, ep4]
              have et : rst sr n x = (put x.1 (x.1 11 n) (x.1 13 n) n, x.2 + 1) := by
                unfold rst
                rw [if_pos ⟨qk, z1, z2, z3⟩]
              have md := mrk_disk (hp _ pg)
              obtain ⟨M2, e5, r2, f2⟩ := m_comes h hB (by omega) hs pg (hp _ pg) (x.1 13 n) n
              have := cont M2 (by rw [et]; exact r2) (by rw [et]; exact Bd_put hB hs hb1 pg h13 (by omega)) (by rw [et]; exact Sm_put hs pg) (by rw [et]; exact WF_put hw) (by
                rw [et]
                exact fun p hp8 => PP_put hs pg (by omega) (by omega) (by omega) (fun z => by
                  rcases hsr _ pg with y | ⟨y1, y2⟩
                  · exact absurd y z1
                  · have := y2 (by rw [← e3]; exact z)
                    omega) hp8 (hp p hp8)) f2
              rw [et] at this
              rw [e5, bO_some, bd, nI_1]
              exact this
            · rw [if_pos (by rw [nL_le (by omega) (by omega)]; omega)]
              exact idc (by unfold rst; rw [if_neg (fun y => z3 y.2.2.2)])
          · rw [if_pos (by rw [nL_lt (by omega) (by omega)]; omega)]
            exact idc (by unfold rst; rw [if_neg (fun y => z2 y.2.2.1)])
      rcases qk with qk | qk
      · rw [if_pos (by rw [qk]; rfl)]
        exact W
      · rw [if_neg (by rw [qk]; decide), bO_some, if_pos (by rw [qk]; rfl)]
        exact W
    · rw [if_neg (by rw [nl1, nL_eq (by omega) (by omega)]; omega), bO_some, if_neg (by rw [nl3, nL_eq (by omega) (by omega)]; omega), f_X8_restarts_L46, if_pos rfl, f_X8_restarts_L61, if_pos rfl]
      exact idc (by unfold rst; rw [if_neg (fun h => qk h.1)])
/-- stores that differ in one number alone -/
def E9 (T1 T2 : St) : Prop := ∀ f i, ¬ (f = 0 ∧ i = 9) → T1 f i = T2 f i
theorem E9_up {T1 T2 : St} (h : E9 T1 T2) {f i v w : Nat} (e : v = w) : E9 (up T1 f i v) (up T2 f i w) := fun f' i' hn => by
  unfold up
  split
  · exact e
  · exact h f' i' hn
theorem E9_app {T1 T2 : St} (h : E9 T1 T2) {a1 a2 a3 a4 a5 a6 c1 c2 c3 c4 c5 c6 : Nat} (e1 : a1 = c1) (e2 : a2 = c2) (e3 : a3 = c3) (e4 : a4 = c4) (e5 : a5 = c5) (e6 : a6 = c6) : E9 (app T1 a1 a2 a3 a4 a5 a6) (app T2 c1 c2 c3 c4 c5 c6) := by
  subst e1 e2 e3 e4 e5 e6
  unfold app
  rw [h 0 0 (by omega), h 0 1 (by omega)]
  exact E9_up (E9_up (E9_up (E9_up (E9_up (E9_up (E9_up h rfl) rfl) rfl) rfl) rfl) rfl) rfl
theorem E9_put {T1 T2 : St} (h : E9 T1 T2) {p v n p' v' n' : Nat} (ep : p = p') (ev : v = v') (en : n = n') : E9 (put T1 p v n) (put T2 p' v' n') := by
  subst ep ev en
  unfold put
  rw [h 0 6 (by omega), h 0 7 (by omega)]
  split
  · exact E9_up (E9_up (E9_up (E9_up h rfl) rfl) rfl) rfl
  · exact E9_up (E9_up (E9_up (E9_up (E9_up h rfl) rfl) rfl) rfl) rfl
theorem E9_val {T1 T2 : St} (h : E9 T1 T2) (p : Nat) : val T1 p = val T2 p := by
  unfold val
  rw [h 0 6 (by omega), h 1 p (by omega), h 3 p (by omega)]
theorem E9_tst {x y : X4} (h : E9 x.1 y.1) (h2 : x.2 = y.2) (n : Nat) : E9 (tst n x).1 (tst n y).1 ∧ (tst n x).2 = (tst n y).2 := by
  have e9 := h 9 n (by omega)
  have e10 := h 10 n (by omega)
  have e14 := h 14 n (by omega)
  have e11 := h 11 n (by omega)
  have e12 := h 12 n (by omega)
  unfold tst
  rw [e9, e10, e14, h2]
  split
  · exact ⟨h, rfl⟩
  · split
    · exact ⟨h, h2⟩
    · split
      · split
        · refine ⟨?_, rfl⟩
          show E9 (endg x.1 (y.1 10 n)) (endg y.1 (y.1 10 n))
          unfold endg lev
          have ha : E9 (app x.1 4 (y.1 10 n) 0 0 0 0) (app y.1 4 (y.1 10 n) 0 0 0 0) := E9_app h rfl rfl rfl rfl rfl rfl
          exact E9_up ha (by rw [ha 0 8 (by omega)])
        · split
          · refine ⟨?_, rfl⟩
            show E9 (twb x.1 n) (twb y.1 n)
            unfold twb
            exact E9_put (E9_app h rfl e10 e11 (by rw [e11]; exact E9_val h _) e12 rfl) e11 e12 (by rw [h 0 0 (by omega), h 0 1 (by omega)])
          · exact ⟨h, h2⟩
      · exact ⟨h, h2⟩
theorem E9_tlb (lo : Nat) : ∀ (d : Nat) (x y : X4), E9 x.1 y.1 → x.2 = y.2 → E9 (tlb lo d x).1 (tlb lo d y).1 ∧ (tlb lo d x).2 = (tlb lo d y).2
  | 0, x, y, h, h2 => ⟨h, h2⟩
  | d + 1, x, y, h, h2 => by
    rw [tlb, tlb, h2]
    by_cases q : y.2.1 = 0
    · rw [if_pos q, if_pos q]
      exact ⟨h, h2⟩
    · rw [if_neg q, if_neg q]
      obtain ⟨a, c⟩ := E9_tst h h2 (lo + d + 1)
      exact E9_tlb lo d _ _ a c
theorem m_restarts (h : RQ (M 11 29) S) (hv : Inv b S) (q5 : S 0 5 ≠ 0) (hbb : b + 500 < 2 ^ 27) : ∃ M', f_X8_restarts M = some (nI (rs1 S).2, M') ∧ RQ (M' 11 29) (aRest S).2 ∧ FW M M' ∧ M' 11 28 9 = nI (look S).1 ∧ M' 11 28 10 = nI (rs2 S).2.2.2 := by
  obtain ⟨j1, p1, s1, b1, c1⟩ := rs1_iv hv q5
  obtain ⟨k, ⟨⟨hj, hp, hs, a1, a2⟩, so, tk, hl, lb, oj, ot, op⟩, h0⟩ := rs2_iv hv q5
  obtain ⟨rF, rN, r9, lp⟩ := rs2_F hv q5
  obtain ⟨⟨n1, ⟨n2, n2'⟩, n3, n4, n5, n6, n7, n8, n9⟩, hjS, hpi, hr, hst⟩ := id hv
  obtain ⟨k1, k2, k3⟩ := look_iv hjS
  have hx := Bx_look n1 n2' hjS.1.1 (show Ck b S from fun q => by
    have c := hjS.2.2.1 q
    have := c.2.1
    exact ⟨c.1, by omega, c.2.2.1, c.2.2.2.2.1⟩)
  obtain ⟨s6, s7, s8, sD⟩ := hst q5
  obtain ⟨M1, e1, l1, f1, z1⟩ := m_looks h hv
  obtain ⟨M2, e2, r2, f2⟩ := m_redo (O := fun g => (S 0 8).testBit g) (sr := (look S).2) (ls := (look S).1) (b := b) (F := S 0 0) (N := S 0 1) (L := S 0 3) (dl := S 0 4) n5 n4 k3 hx.2 n2' n3 n2 (S 0 1) (S 0 0) FU (S, 0) M1 (by rw [z1]; exact h) n1 n9 hjS.1.1 hpi rfl rfl rfl rfl rfl (Nat.le_refl _) (by show _ < 10000; omega) l1
  change RO _ _ (rs1 S).1 at r2
  change _ = rtail M2 (nI (rs1 S).2) at e2
  have e0 : (rs1 S).1 0 0 = S 0 0 := rs1_e (by omega)
  have e1' : (rs1 S).1 0 1 = S 0 1 := rs1_e (by omega)
  have e9 : (rs1 S).1 0 9 = S 0 9 := rs1_e (by omega)
  have n19 := n1 0 9
  -- the number of records done again is put ahead of the taking back
  obtain ⟨T, eT⟩ : ∃ T, T = up (rs1 S).1 0 9 (S 0 9 + (rs1 S).2) := ⟨_, rfl⟩
  have to : E9 T (rs1 S).1 := fun f i a => by rw [eT, up_ne a]
  have jT : JI T := by
    obtain ⟨⟨w, f1', f2', f3⟩, l0', l1', k3', al, ph, dm⟩ := id j1
    exact JI_same j1 (to 0 0 (by omega)) (to 0 1 (by omega)) (SL_of (fun f i a => to f i (by omega))) (fun n => ⟨to 9 n (by omega), to 10 n (by omega), to 11 n (by omega), to 12 n (by omega), to 14 n (by omega)⟩) (by rw [to 0 2 (by omega)]; exact Nat.le_refl _) (by rw [to 0 2 (by omega)]; exact f3) (fun p hp8 => by rw [to 2 p (by omega), to 0 2 (by omega)]; exact dm p hp8)
  have pT : PI T := fun p hp8 => PP_of (p1 p hp8) (by rw [to 0 6 (by omega)]) (by rw [to 0 7 (by omega)]) (to 2 p (by omega)) (to 4 p (by omega)) (to 5 p (by omega)) (by rw [to 0 0 (by omega), to 0 1 (by omega)]; exact Nat.le_refl _) (fun z => by rw [to 0 0 (by omega)]; exact ((p1 p hp8).2.2 z).1) (fun z y => by rw [to 0 3 (by omega)] at y; rw [to 0 4 (by omega)]; exact ((p1 p hp8).2.2 z).2.2 y)
  have sT : Sm T := ⟨by rw [to 0 6 (by omega)]; exact s1.1, by rw [to 0 7 (by omega)]; exact s1.2.1, by rw [to 0 8 (by omega)]; exact s1.2.2.1, fun i hi => by rw [to 8 i (by omega)]; exact s1.2.2.2.1 i hi, by rw [to 0 5 (by omega)]; exact s1.2.2.2.2⟩
  have BT : Bd (b + 120) T := by rw [eT]; exact Bd_up (Bd_le b1 (by omega)) (by omega)
  have T0 : T 0 0 = S 0 0 := (to 0 0 (by omega)).trans e0
  have T1 : T 0 1 = S 0 1 := (to 0 1 (by omega)).trans e1'
  have ti := TI_init (l0 := (look S).1) jT pT sT k1 (fun g hg o => by
    rw [T0, T1]
    exact OJ_cg (fun n _ _ => ⟨(to 9 n (by omega)).trans (rs1_e (by omega)), (to 10 n (by omega)).trans (rs1_e (by omega))⟩) ((k2 g hg).mp o)) (fun _ _ _ => Or.inr trivial)
  have R6 : RO (fun g => (S 0 8).testBit g) (st M2 11 29 4 ((M2 11 29 4) + nI (rs1 S).2) 11 29) T := by
    obtain ⟨g1, g2, g3, g4⟩ := r2
    have lo' : ∀ j, j ≠ 4 → st M2 11 29 4 ((M2 11 29 4) + nI (rs1 S).2) 11 29 j = M2 11 29 j := fun j a => by rw [sg, if_neg a]
    refine ⟨⟨by rw [lo' 0 (by omega), to 0 0 (by omega)]; exact g1.1, by rw [lo' 1 (by omega), to 0 1 (by omega)]; exact g1.2.1, by rw [lo' 2 (by omega), to 0 2 (by omega)]; exact g1.2.2.1, by rw [lo' 3 (by omega), to 0 5 (by omega)]; exact g1.2.2.2.1, ?_⟩, RP_cg g2 (fun i a c => lo' i (by omega)) (fun f i _ hf => to f i (by omega)), RG_cg g3 (fun i a c => lo' i (by omega)) (fun f i _ hf => to f i (by omega)), RR_cg g4 (fun i a c => lo' i (by omega)) (to _ _ (by omega)) (to _ _ (by omega)) (to _ _ (by omega)) (fun f i a c => to f i (by omega))⟩
    rw [sg, if_pos rfl, g1.2.2.2.2, nI_add, eT, up_at, e9]
  obtain ⟨M8, e8, r8, f8⟩ := m_takes (b := b + 120) R6 ⟨BT, by omega, by omega, by omega, sT, jT.1.1⟩ (by omega) (by omega) (by omega) ti
  have em := E9_tlb (T 0 0 - 1) (T 0 1) (T, (look S).1, (fun _ => false), 0) ((rs1 S).1, (look S).1, (fun _ => false), 0) to rfl
  rw [show tlb (T 0 0 - 1) (T 0 1) ((rs1 S).1, (look S).1, (fun _ => false), 0) = rs2 S by rw [T0, T1]; rfl] at em
  obtain ⟨R, eR⟩ : ∃ R, R = tlb (T 0 0 - 1) (T 0 1) (T, (look S).1, (fun _ => false), 0) := ⟨_, rfl⟩
  rw [← eR] at em r8 e8
  have R9 : R.1 0 9 = S 0 9 + (rs1 S).2 := by
    obtain ⟨k', tiR, -⟩ := TI_tlb (by omega) (T 0 1) _ ti
    rw [← eR] at tiR
    rw [tiR.2.1 0 9 (by omega), eT, up_at]
  have L8 : (st M8 11 28 10 (nI R.2.2.2)) 11 29 = M8 11 29 := st29 (by omega)
  have em0 := em.1 0 0 (by omega)
  have em1 := em.1 0 1 (by omega)
  have BR : Bd (b + 240) R.1 := by
    intro f i
    by_cases q : f = 0 ∧ i = 9
    · rw [q.1, q.2, R9]; omega
    · rw [em.1 f i q]
      have := lp.1 f i
      omega
  obtain ⟨M12, e12, r12, f12⟩ := m_forces (M := st M8 11 28 10 (nI R.2.2.2)) (S := R.1) (O := fun g => (S 0 8).testBit g) (b := b + 240) (by rw [L8]; exact r8) BR (by omega) (n := R.1 0 0 + R.1 0 1 - 1) (by omega)
  have fin : st M12 11 29 3 0 11 28 = M12 11 28 := by
    funext j
    rw [st_get, if_neg (by omega)]
  have f28 : ∀ i, M12 11 28 i = st M8 11 28 10 (nI R.2.2.2) 11 28 i := fun i => f12 11 28 i (by omega)
  have l2 := LK_fm l1 f2
  have l6 : st M2 11 29 4 ((M2 11 29 4) + nI (rs1 S).2) 11 28 9 = nI (look S).1 := by rw [st_get, if_neg (by omega)]; exact l2.1
  refine ⟨st M12 11 29 3 0, ?_, ?_, ?_, ?_, ?_⟩
  · rw [f_X8_restarts, e1, bO_some, z1, h.1.1, bd]
    show itr (f_X8_restarts_L13) (fun _ _ _ => none) FU M1 (nI 0) (nI (S 0 0)) = _
    rw [e2, rtail, bd, l6, e8, bP_some, bd, m_last (S := R.1) (by rw [L8]; exact r8.1) (by omega), bO_some, e12, bP_some, bd]
  · have eX : (aRest S).2 = up (up (frc (rs2 S).1 ((rs2 S).1 0 0 + (rs2 S).1 0 1 - 1)) 0 5 0) 0 9 (S 0 9 + (rs1 S).2) := by unfold aRest; rw [if_neg q5]
    have eY : (aRest S).2 = up (frc R.1 (R.1 0 0 + R.1 0 1 - 1)) 0 5 0 := by
      rw [eX, em0, em1]
      funext f i
      by_cases q : f = 0 ∧ i = 9
      · rw [q.1, q.2, up_at, up_ne (by omega), frc_o (by omega), R9]
      · rw [up_ne q]
        by_cases q2 : f = 0 ∧ i = 5
        · rw [q2.1, q2.2, up_at, up_at]
        · rw [up_ne q2, up_ne q2]
          by_cases q3 : f = 0 ∧ i = 2
          · rw [q3.1, q3.2, frc, up_at, frc, up_at, em.1 0 2 (by omega)]
          · rw [frc_o q3, frc_o q3, em.1 f i q]
    have e8' : (aRest S).2 0 8 = (rs2 S).1 0 8 := by rw [eY, up_ne (by omega), frc_o (by omega), em.1 0 8 (by omega)]
    have r80 : (rs2 S).1 0 8 = 0 := by
      have z : ∀ g, g < 4 → ((rs2 S).1 0 8).testBit g = false := fun g hg => by
        cases q : ((rs2 S).1 0 8).testBit g
        · rfl
        · have := ((op g hg).mp q).1
          rw [rs1_e (by omega), s8, Nat.zero_testBit] at this
          exact nomatch this
      exact bits16 _ hs.2.2.1 (z 0 (by omega)) (z 1 (by omega)) (z 2 (by omega)) (z 3 (by omega))
    show RO (fun i => ((aRest S).2 0 8).testBit i) _ (aRest S).2
    rw [e8', r80, eY]
    rw [s8] at r12
    obtain ⟨g1, g2, g3, g4⟩ := r12
    have lo' : ∀ j, j ≠ 3 → st M12 11 29 3 0 11 29 j = M12 11 29 j := fun j a => by rw [sg, if_neg a]
    refine ⟨⟨by rw [lo' 0 (by omega), up_ne (by omega)]; exact g1.1, by rw [lo' 1 (by omega), up_ne (by omega)]; exact g1.2.1, by rw [lo' 2 (by omega), up_ne (by omega)]; exact g1.2.2.1, by rw [sg, if_pos rfl, up_at]; rfl, by rw [lo' 4 (by omega), up_ne (by omega)]; exact g1.2.2.2.2⟩, RP_cg g2 (fun i a c => lo' i (by omega)) (fun f i _ hf => up_ne (by omega)), RG_cg g3 (fun i a c => lo' i (by omega)) (fun f i _ hf => up_ne (by omega)), RR_cg g4 (fun i a c => lo' i (by omega)) (up_ne (by omega)) (up_ne (by omega)) (up_ne (by omega)) (fun f i a c => up_ne (by omega))⟩
  · exact ((((((f1.tr f2.w).tr FM.rf.s29.w).tr f8.w).tr (FW.rf.s (by omega))).tr f12.w).tr FM.rf.s29.w)
  · rw [congrFun fin 9, f28, st_get, if_neg (by omega), f8 11 28 9 (by omega)]
    exact l6
  · rw [congrFun fin 10, f28, st_get, if_pos ⟨rfl, rfl, rfl⟩, em.2]
def OKw (M : Mem) (x : Option (Int32 × Mem)) (S : St) (r : Int32 × St) : Prop := (r.1 < 0 ∧ r.2 = S ∧ x = some (r.1, M)) ∨ (¬ r.1 < 0 ∧ ∀ M9, f_X8_changes M = some M9 → M9 11 29 = M 11 29 → ∃ M', x = some (r.1, M') ∧ RQ (M' 11 29) r.2 ∧ FW M9 M')
theorem OKm.w {x : Option (Int32 × Mem)} {r : Int32 × St} (h : OKm M x S r) : OKw M x S r := by
  rcases h with h | ⟨h1, h2⟩
  · exact Or.inl h
  · refine Or.inr ⟨h1, fun M9 e9 h9 => ?_⟩
    obtain ⟨M', a1, a2, a3⟩ := h2 M9 e9 h9
    exact ⟨M', a1, a2, a3.w⟩
theorem m_rest (h : RQ (M 11 29) S) (hv : Inv b S) (hbb : b + 500 < 2 ^ 27) : OKw M (f_X8_restart M) S (aRest S) := by
  obtain ⟨⟨n1, ⟨n2, n2'⟩, n3, n4, n5, n6, n7, n8, n9⟩, hj, hpi, hr, hst⟩ := id hv
  rw [f_X8_restart]
  by_cases q1 : S 0 5 = 0
  · rw [m_stop0 h.1 q1, bO_some, if_pos rfl]
    unfold aRest
    rw [if_pos q1]
    exact Or.inl ⟨by show (-1000002 : Int32) < 0; decide, rfl, rfl⟩
  · have e1 : (aRest S).1 = nI (rs1 S).2 := by unfold aRest; rw [if_neg q1]
    have c1 := (rs1_iv hv q1).2.2.2.2
    rw [m_stop1 h.1 n9.2.2.2.2 q1, bO_some, if_neg (by decide)]
    refine Or.inr ⟨by rw [e1, nL_neg (by omega)]; exact id, fun M9 e9 h9 => ?_⟩
    obtain ⟨M', a1, a2, a3, -, -⟩ := m_restarts (M := M9) (by rw [h9]; exact h) hv q1 hbb
    refine ⟨M', ?_, a2, a3⟩
    rw [e9, bO_some, a1, bP_some, e1]
end MS
