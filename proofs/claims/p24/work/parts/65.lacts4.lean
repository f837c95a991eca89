/-! a whole turn -/
section A4
variable {M M1 : Mem} {S T : St} {b t g p n h y w : Nat} {P : Nat → St} {c : Bool}
theorem A_973 (hj : JJ b t M S) (hbb : b + 500 < 2 ^ 27) (q5 : S 0 5 = 0) (hy : y < 10000000) (hw : w < 30) (z : Int32) : RS b t (f_L_acts_L973 M (nI y) (nI w) (-1000002) z) := by
  rw [f_L_acts_L973, show (25 : Int32) = nI 25 from rfl, show (26 : Int32) = nI 26 from rfl]
  by_cases q : 25 ≤ w
  · rw [if_pos (by rw [nL_le (by omega) (by omega)]; exact q)]
    by_cases q2 : w = 25
    · rw [if_pos (by rw [q2])]
      exact A_force hj hbb q5
    · rw [if_neg (by rw [nL_eq (by omega) (by omega)]; exact q2)]
      by_cases q3 : w = 26
      · rw [if_pos (by rw [q3])]
        exact A_stop hj hbb q5 hy
      · rw [if_neg (by rw [nL_eq (by omega) (by omega)]; exact q3)]
        by_cases q4 : z = 0
        · rw [if_pos q4]
          exact A_dropOut hj hbb q5 hy
        · rw [if_neg q4, nl2, gd2 (by omega) (by omega)]
          split
          · exact A_stop hj hbb q5 hy
          · exact A_dropOut hj hbb q5 hy
  · rw [if_neg (by rw [nL_le (by omega) (by omega)]; exact q)]
    exact A_dropRec hj hbb q5
theorem A_720 (hj : JJ b t M S) (hbb : b + 500 < 2 ^ 27) (q5 : S 0 5 = 0) (hy : y < 10000000) (hw : w < 30) (hc : c = false → S 0 1 < 32) (hp : p < 8) : RS b t (f_L_acts_L720 M (nI y) (nI w) (-1000002) (b01 c) (nI p)) := by
  by_cases q : w < 22
  · exact A_out hj hbb q5 hp q _ _
  · rw [f_L_acts_L720, show (22 : Int32) = nI 22 from rfl, if_pos (by rw [nL_le (by omega) (by omega)]; omega)]
    by_cases q2 : w = 22
    · rw [if_pos (by rw [q2])]
      cases c
      · rw [if_pos (show b01 false = 0 from rfl)]
        exact A_chk hj hbb q5 (hc rfl)
      · rw [if_neg (show ¬ b01 true = 0 by decide)]
        exact A_973 hj hbb q5 hy hw _
    · rw [if_neg (by rw [nL_eq (by omega) (by omega)]; exact q2)]
      exact A_973 hj hbb q5 hy hw _
theorem A_673 (hj : JJ b t M S) (hbb : b + 500 < 2 ^ 27) (q5 : S 0 5 = 0) (hy : y < 10000000) (hw : w < 30) (hc : c = false → S 0 1 < 32) : ∀ (d i fu p : Nat), i + d = 8 → d < fu → p < 8 → RS b t (itr (f_L_acts_L673 ) (fun _ _ _ _ _ _ _ => none) fu M (nI y) (nI w) (-1000002) (b01 c) (nI p) (nI i)) := by
  obtain ⟨j1, -, j3, -⟩ := id hj
  have hb3 := j3.1.2.2.1
  intro d
  induction d with
  | zero =>
    intro i fu p hi hf hp
    obtain ⟨f, rfl⟩ : ∃ f, fu = f + 1 := ⟨fu - 1, by omega⟩
    have hi : i = 8 := by omega
    subst hi
    rw [itr_s, f_L_acts_L673, if_pos (by decide)]
    exact A_720 hj hbb q5 hy hw hc hp
  | succ d ih =>
    intro i fu p hi hf hp
    obtain ⟨f, rfl⟩ : ∃ f, fu = f + 1 := ⟨fu - 1, by omega⟩
    obtain ⟨m1, m2⟩ := l_mark1 j1.2.2.1 j3.1.1 (by omega) hp (j3.2.2.1 p hp)
    rw [itr_s, f_L_acts_L673, if_neg (by rw [nl8, nL_le (by omega) (by omega)]; omega), l_mark j1.2.2.1 hp, bO_some, nl1, g6c p 1 hp (by omega), c6 p 1 hp (by omega), m1]
    by_cases q7 : nI (mrk S p) = nI (S 2 p)
    · rw [if_pos q7, nl3, gd2 (by omega) (by omega), rem_n y 3 (by omega) (by omega) (by omega)]
      by_cases q8 : y % 3 = 0
      · rw [if_pos (by rw [q8]; decide)]
        exact A_720 hj hbb q5 hy hw hc hp
      · rw [if_neg (by rw [nl0, nL_le (by omega) (by omega)]; omega), nl8, gd2 (by omega) (by omega), nI_add, rem_n (p + 1) 8 (by omega) (by omega) (by omega), bd, nI_add, bd]
        exact ih (i + 1) f ((p + 1) % 8) (by omega) (by omega) (by omega)
    · rw [if_neg q7]
      exact A_720 hj hbb q5 hy hw hc hp
theorem A_661 (hj : JJ b t M S) (hbb : b + 500 < 2 ^ 27) (q5 : S 0 5 = 0) (hy : y < 10000000) (hw : w < 30) (hc : c = false → S 0 1 < 32) : RS b t (f_L_acts_L661 M (nI y) (nI w) (-1000002) (b01 c)) := by
  rw [f_L_acts_L661, nl4, nl8, gd2 (by omega) (by omega), gd2 (by omega) (by omega), pk_div (by omega) (by omega) (by omega), rem_n (y / 4) 8 (by omega) (by omega) (by omega), bd]
  exact A_673 hj hbb q5 hy hw hc 8 0 FU (y / 4 % 8) rfl (by decide) (by omega)
theorem A_580 (hj : JJ b t M S) (hbb : b + 500 < 2 ^ 27) (q5 : S 0 5 = 0) (hy : y < 10000000) (hw : w < 30) (hc : c = false → S 0 1 < 32) (hg : g < 4) (ht : t ≤ 100) : RS b t (f_L_acts_L580 M (nI y) (nI w) (-1000002) (nI g) (nI (4 * g)) (b01 c)) := by
  obtain ⟨j1, ⟨h, P, j2⟩, j3, j4, j5⟩ := id hj
  have hn := PB_n j4
  obtain ⟨c0, c1⟩ := j1.2.1 g hg
  rw [f_L_acts_L580, show (18 : Int32) = nI 18 from rfl]
  by_cases q : w = 18
  · rw [if_pos (by rw [q]), nl2, nI_add, gd_in (by omega) (by omega), nL_cl (a := 4 * g + 2) (by omega), j1.1.2.1]
    split
    · exact A_661 hj hbb q5 hy hw hc
    · rename_i q32
      rw [gd_in (by omega) (by omega), show M 11 29 (nI (4 * g)).toNatClampNeg = b01 ((S 0 8).testBit g) by rw [nL_cl (by omega)]; exact c0]
      cases o : (S 0 8).testBit g
      · rw [if_pos (show b01 false = 0 from rfl)]
        refine fin0 hj hbb (k_take j2 j3 hg) ?_
        unfold aTake
        rw [if_pos (Or.inr o)]
      · rw [if_neg (show ¬ b01 true = 0 by decide)]
        have y7 := j3.1.1 7 g
        have hb3 := j3.1.2.2.1
        refine A_take hj hbb q5 hg o ?_ ht
        rw [(c1 o).2.1, nI_add, show (32 : Int32) = nI 32 from rfl, nL_le (by omega) (by omega)] at q32
        omega
  · rw [if_neg (by rw [nL_eq (by omega) (by omega)]; exact q)]
    exact A_661 hj hbb q5 hy hw hc
theorem A_469 (hj : JJ b t M S) (hbb : b + 500 < 2 ^ 27) (q5 : S 0 5 = 0) (hy : y < 10000000) (hw : w < 30) (hc : c = false → S 0 1 < 32) (hg : g < 4) (ht : t ≤ 100) : RS b t (f_L_acts_L469 M (nI y) (nI w) (-1000002) (nI g) (nI (4 * g)) (b01 c)) := by
  obtain ⟨j1, ⟨h, P, j2⟩, j3, j4, j5⟩ := id hj
  obtain ⟨c0, c1⟩ := j1.2.1 g hg
  rw [f_L_acts_L469]
  split
  · exact A_580 hj hbb q5 hy hw hc hg ht
  · cases c
    · rw [if_pos (show b01 false = 0 from rfl), gd_in (by omega) (by omega), nL_cl (by omega), show M 11 29 (4 * g) = b01 ((S 0 8).testBit g) from c0]
      cases o : (S 0 8).testBit g
      · rw [if_pos (show b01 false = 0 from rfl)]
        refine fin0 hj hbb (k_settle j2 j3 hg) ?_
        unfold aSettle
        rw [if_pos (Or.inr o)]
      · rw [if_neg (show ¬ b01 true = 0 by decide)]
        exact A_settle hj hbb q5 hg o (hc rfl)
    · rw [if_neg (show ¬ b01 true = 0 by decide)]
      exact A_580 hj hbb q5 hy hw hc hg ht
theorem A_314 (hj : JJ b t M S) (hbb : b + 500 < 2 ^ 27) (q5 : S 0 5 = 0) (hy : y < 10000000) (hw : w < 30) (hc : c = false → S 0 1 < 32) (hg : g < 4) (ht : t ≤ 100) : RS b t (f_L_acts_L314 M (nI y) (nI w) (-1000002) (nI g) (nI (4 * g)) (b01 c)) := by
  obtain ⟨j1, ⟨h, P, j2⟩, j3, j4, j5⟩ := id hj
  obtain ⟨c0, c1⟩ := j1.2.1 g hg
  have n9 := j3.1.2.2.2.2.2.2.2.2
  rw [f_L_acts_L314]
  split
  · exact A_469 hj hbb q5 hy hw hc hg ht
  · cases c
    · have hp : y / 4 % 8 < 8 := by omega
      have hv : y / 32 % 100 < 100 := by omega
      rw [if_pos (show b01 false = 0 from rfl), nl4, nl8, show (32 : Int32) = nI 32 from rfl, nl100, gd2 (by omega) (by omega), gd2 (by omega) (by omega), pk_div (by omega) (by omega) (by omega), rem_n (y / 4) 8 (by omega) (by omega) (by omega), bd, gd2 (by omega) (by omega), gd2 (by omega) (by omega), pk_div (by omega) (by omega) (by omega), rem_n (y / 32) 100 (by omega) (by omega) (by omega), bd, l_holder j1.2.1 n9 hp (Inv_dj j3 hp), bO_some, gd_in (by omega) (by omega), nL_cl (by omega), show M 11 29 (4 * g) = b01 ((S 0 8).testBit g) from c0]
      obtain ⟨h1, h2⟩ := hofc (S := S) (p := y / 4 % 8) hg
      have no : (S 0 8).testBit g = false ∨ ¬ (hol S (y / 4 % 8) < 0 ∨ hol S (y / 4 % 8) = nI g) → RS b t (f_L_acts_L372 M (-1000002) (nI g) (nI (y / 4 % 8)) (nI (y / 32 % 100))) := fun z => by
        rw [f_L_acts_L372]
        refine fin0 hj hbb (k_write j2 j3 hg hp hv) ?_
        unfold aWrite
        rw [if_pos (Or.inr z)]
      cases o : (S 0 8).testBit g
      · rw [if_pos (show b01 false = 0 from rfl)]
        exact no (Or.inl o)
      · rw [if_neg (show ¬ b01 true = 0 by decide)]
        by_cases z1 : hof S (y / 4 % 8) < 0
        · rw [if_pos z1]
          exact A_write hj hbb q5 hg hp hv o (Or.inl (h1.mp z1)) (hc rfl)
        · rw [if_neg z1]
          by_cases z2 : hof S (y / 4 % 8) = nI g
          · rw [if_pos z2]
            exact A_write hj hbb q5 hg hp hv o (Or.inr (h2.mp z2)) (hc rfl)
          · rw [if_neg z2]
            exact no (Or.inr (fun z => z.elim (fun u => z1 (h1.mpr u)) (fun u => z2 (h2.mpr u))))
    · rw [if_neg (show ¬ b01 true = 0 by decide)]
      exact A_469 hj hbb q5 hy hw hc hg ht
theorem no_step {x : Option (Int32 × Mem)} {r : Int32 × St} (hj : JJ b t M S) (hc : CH M x r) (e : r = (-1000002, S)) : ∃ M', x = some (-1000002, M') ∧ JJ b t M' S := by
  subst e
  obtain ⟨j1, j2, j3, j4, j5⟩ := hj
  obtain ⟨M', h', P', e1, e2, e3⟩ := hc
  exact ⟨M', e1, LO_fr j1 (e2 11 (by omega)), ⟨h', P', e3⟩, j3, j4, by rw [e2 9 (by omega)]; exact j5⟩
theorem A_49 (hj : JJ b t M S) (hbb : b + 500 < 2 ^ 27) (hy : y < 10000000) (hw : w < 30) (hc : c = false → S 0 1 < 32) (hg : g < 4) (ht : t ≤ 100) : RS b t (f_L_acts_L49 M (nI y) (nI w) (-1000002) (nI g) (nI (4 * g)) (b01 c)) := by
  obtain ⟨j1, ⟨h, P, j2⟩, j3, j4, j5⟩ := id hj
  obtain ⟨c0, c1⟩ := j1.2.1 g hg
  have n9 := j3.1.2.2.2.2.2.2.2.2
  have s5 := n9.2.2.2.2
  rw [f_L_acts_L49, j1.1.2.2.2.1]
  by_cases q5 : S 0 5 = 0
  · rw [if_neg (by rw [q5]; decide)]
    by_cases q6 : 6 ≤ w
    · rw [if_pos (by rw [nl6, nL_le (by omega) (by omega)]; exact q6)]
      exact A_314 hj hbb q5 hy hw hc hg ht
    · rw [if_neg (by rw [nl6, nL_le (by omega) (by omega)]; exact q6)]
      cases c
      · rw [if_pos (show b01 false = 0 from rfl), gd_in (by omega) (by omega), nL_cl (by omega), show M 11 29 (4 * g) = b01 ((S 0 8).testBit g) from c0]
        cases o : (S 0 8).testBit g
        · rw [if_neg (show ¬ b01 false = 1 by decide), gd_in (by omega) (by omega)]
          exact A_begin hj hbb q5 hg o (hc rfl)
        · rw [if_pos (show b01 true = 1 from rfl)]
          refine fin0 hj hbb (k_begin j2 j3 hg) ?_
          unfold aBegin
          rw [if_pos (Or.inr o)]
      · rw [if_neg (show ¬ b01 true = 0 by decide)]
        exact A_314 hj hbb q5 hy hw hc hg ht
  · rw [if_pos (by rw [show S 0 5 = 1 by omega]; rfl)]
    by_cases q10 : 10 ≤ w
    · rw [if_pos (by rw [show (10 : Int32) = nI 10 from rfl, nL_le (by omega) (by omega)]; exact q10), bd]
      have hn := PB_n j4
      have F : FQ RT M (sr M 11 33 (fun _ => 0)) := fun k r z => sr_ne (fun y => z ⟨y.1, Or.inl y.2⟩)
      obtain ⟨Ma, e1, La, oa⟩ := l_start (LO_t j1 F) j3 q5 hbb (by omega) j4.1
      have hcc := k_rest (M := Ma) (WC_fr (WC_fr j2 F.o) oa) j3
      have ea : (aRest S).1 = nI (rs1 S).2 := by unfold aRest; rw [if_neg q5]
      rw [e1, bP_some]
      refine fin hcc La (by rw [oa 9 (by omega), F.o 9 (by omega)]; exact j5) ea (iv_rest j3 hbb) ?_
      have eX : (aRest S).2 = up (up (frc (rs2 S).1 ((rs2 S).1 0 0 + (rs2 S).1 0 1 - 1)) 0 5 0) 0 9 (S 0 9 + (rs1 S).2) := by unfold aRest; rw [if_neg q5]
      have so : ∀ f i, ¬ (f = 0 ∧ (i = 2 ∨ i = 5 ∨ i = 9)) → (aRest S).2 f i = (rs2 S).1 f i := fun f i a => by rw [eX, up_ne (by omega), up_ne (by omega), frc_o (by omega)]
      obtain ⟨u1, p1, s1, b1, v1⟩ := rs1_iv j3 q5
      obtain ⟨rF, rN, r9, lp⟩ := rs2_F j3 q5
      obtain ⟨k1, k2, k3⟩ := look_iv j3.2.1
      have e0 : (rs1 S).1 0 0 = S 0 0 := rs1_e (by omega)
      have e1' : (rs1 S).1 0 1 = S 0 1 := rs1_e (by omega)
      have ti := TI_init (l0 := (look S).1) u1 p1 s1 k1 (fun g hg o => by
        rw [e0, e1']
        exact OJ_cg (fun n _ _ => ⟨rs1_e (by omega), rs1_e (by omega)⟩) ((k2 g hg).mp o)) (fun _ _ _ => Or.inr trivial)
      have ph := tlb_phi (by rw [e0]; exact j3.1.2.2.2.2.1) ((rs1 S).1 0 1) _ ti
      rw [show tlb ((rs1 S).1 0 0 - 1) ((rs1 S).1 0 1) ((rs1 S).1, (look S).1, (fun _ => false), 0) = rs2 S by rw [e0, e1']; rfl] at ph
      change phi (rs2 S).1 ((rs2 S).1 0 0) ((rs2 S).1 0 1) ≤ phi (rs1 S).1 ((rs1 S).1 0 0) ((rs1 S).1 0 1) at ph
      rw [e0, e1', phi_cg (T := (rs1 S).1) (S := S) (fun n _ => ⟨rs1_e (by omega), rs1_e (by omega), rs1_e (by omega)⟩), rF] at ph
      obtain ⟨b1', b2'⟩ := j4
      have e : phi (aRest S).2 ((aRest S).2 0 0) ((aRest S).2 0 1) = phi (rs2 S).1 (S 0 0) ((rs2 S).1 0 1) := by
        rw [so 0 0 (by omega), so 0 1 (by omega), rF]
        exact phi_cg (fun n _ => ⟨so 9 n (by omega), so 10 n (by omega), so 14 n (by omega)⟩)
      unfold PB
      rw [e, so 0 0 (by omega), rF]
      omega
    · rw [if_neg (by rw [show (10 : Int32) = nI 10 from rfl, nL_le (by omega) (by omega)]; exact q10)]
      have z5 : S 0 5 ≠ 0 := q5
      obtain ⟨M1, e1, a1⟩ := no_step hj (k_begin j2 j3 hg) (by unfold aBegin; rw [if_pos (Or.inl z5)])
      obtain ⟨-, ⟨h1, P1, w1⟩, -⟩ := id a1
      obtain ⟨M2, e2, a2⟩ := no_step a1 (k_write (v := 0) (p := 0) w1 j3 hg (by omega) (by omega)) (by unfold aWrite; rw [if_pos (Or.inl z5)])
      obtain ⟨-, ⟨h2, P2, w2⟩, -⟩ := id a2
      obtain ⟨M3, e3, a3⟩ := no_step a2 (k_settle w2 j3 hg) (by unfold aSettle; rw [if_pos (Or.inl z5)])
      obtain ⟨-, ⟨h3, P3, w3⟩, -⟩ := id a3
      obtain ⟨M4, e4, a4⟩ := no_step a3 (k_take w3 j3 hg) (by unfold aTake; rw [if_pos (Or.inl z5)])
      obtain ⟨-, ⟨h4, P4, w4⟩, -⟩ := id a4
      obtain ⟨M5, e5, a5⟩ := no_step a4 (k_out (p := 0) w4 j3 (by omega)) (by unfold aOut; rw [if_pos (Or.inl z5)])
      obtain ⟨-, ⟨h5, P5, w5⟩, -⟩ := id a5
      obtain ⟨M6, e6, a6⟩ := no_step a5 (k_drop (p := 0) w5 j3 (by omega)) (by unfold aDrop; rw [if_pos (Or.inl z5)])
      obtain ⟨-, ⟨h6, P6, w6⟩, -⟩ := id a6
      obtain ⟨M7, e7, a7⟩ := no_step a6 (k_chk w6 j3) (by unfold aChk; rw [if_pos z5])
      obtain ⟨-, ⟨h7, P7, w7⟩, -⟩ := id a7
      obtain ⟨M8, e8, a8⟩ := no_step a7 (k_dro w7 j3) (by unfold aDro; rw [if_pos (Or.inl z5)])
      obtain ⟨-, ⟨h8, P8, w8⟩, -⟩ := id a8
      obtain ⟨M9, e9, a9⟩ := no_step a8 (k_force w8 j3) (by unfold aForce; rw [if_pos z5])
      obtain ⟨-, ⟨h9, P9, w9⟩, -⟩ := id a9
      obtain ⟨M10, e10, a10⟩ := no_step a9 (k_stop (t := 0) w9 j3 (by omega)) (by unfold aStop; rw [if_pos z5])
      obtain ⟨b1, ⟨h10, P10, w10⟩, b3, b4, b5⟩ := id a10
      rw [e1, bP_some, if_pos rfl, show f_X7_write M1 (nI g) 0 0 = some (-1000002, M2) from e2, bP_some, if_pos rfl, e3, bP_some, if_pos rfl, e4, bP_some, if_pos rfl, show f_X7_writeOut M4 0 = some (-1000002, M5) from e5, bP_some, if_pos rfl, show f_X7_dropOut M5 0 = some (-1000002, M6) from e6, bP_some, if_pos rfl, e7, bP_some, if_pos rfl, e8, bP_some, if_pos rfl, e9, bP_some, if_pos rfl, show f_X7_stop M9 0 = some (-1000002, M10) from e10, bP_some, if_pos rfl, k_would w10.1 z5 s5, bP_some, if_pos rfl]
      exact ⟨M10, S, rfl, b1, ⟨h10, P10, w10⟩, Inv_le b3 (by omega) hbb, PB_le b4, b5⟩
theorem l_low (M : Mem) (x : Int32) {d : Nat} (h0 : 0 < d) (hd : d < 2 ^ 31) : ∃ y, y < d ∧ f_L_low M x (nI d) = some (nI y) := by
  refine ⟨x.toBitVec.toNat % 2 ^ 31 % d, Nat.mod_lt _ h0, ?_⟩
  rw [f_L_low, gd2 h0 hd, pk_and x 31 (by decide), rem_n _ d (Nat.mod_lt _ (by decide)) h0 hd]
theorem A_acts (hj : JJ b t M S) (hbb : b + 500 < 2 ^ 27) (ht : t ≤ 100) (a : Int32) : RS b t (f_L_acts M a) := by
  obtain ⟨j1, -, j3, -⟩ := id hj
  have hN := j3.1.2.2.2.1
  obtain ⟨y, hy, ey⟩ := l_low M (a >>> ((5 : Int32) &&& 31)) (d := 10000000) (by omega) (by omega)
  obtain ⟨w, hw, ew⟩ := l_low M a (d := 30) (by omega) (by omega)
  rw [f_L_acts, show (10000000 : Int32) = nI 10000000 from rfl, ey, bO_some, show (30 : Int32) = nI 30 from rfl, ew, bO_some, nl4, gd2 (by omega) (by omega), rem_n y 4 (by omega) (by omega) (by omega), bd, pk_mul, bd, j1.1.2.1]
  by_cases q : S 0 1 < 32
  · rw [if_pos (by rw [show (32 : Int32) = nI 32 from rfl, nL_lt (by omega) (by omega)]; exact q)]
    exact A_49 (c := false) hj hbb hy hw (fun _ => q) (by omega) ht
  · rw [if_neg (by rw [show (32 : Int32) = nI 32 from rfl, nL_lt (by omega) (by omega)]; exact q)]
    exact A_49 (c := true) hj hbb hy hw (fun z => nomatch z) (by omega) ht
end A4
