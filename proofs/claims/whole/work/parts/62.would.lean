/-! what a stop and a restart would bring -/
def wV (S : St) (t w : Nat) : Int32 :=
  if w = 0 then nI (S 0 1 - (mst S t + 1 - S 0 0))
  else if w = 1 then nI (rs1 (stp S t)).2
  else if w = 2 then nI (rs2 (stp S t)).2.2.2
  else if w = 3 then nI (look (stp S t)).1
  else if w = 4 then (if lf (stp S t) = 0 then -1000004 else nI (lf (stp S t)))
  else nI (val (aRest (stp S t)).2 (w - 10))
section WO
variable {M M' : Mem} {S : St} {b h j : Nat} {P : Nat → St}
theorem WC_fr (hw : WC M S h P) (e : ∀ i, i ≠ 1 → i ≠ 7 → i ≠ 9 → i ≠ 10 → i ≠ 11 → M' i = M i) : WC M' S h P := by
  obtain ⟨hc, h4, o, ho, e1, e2, hp⟩ := hw
  exact ⟨by rw [e 0 (by omega) (by omega) (by omega) (by omega) (by omega)]; exact hc, h4, o, ho, by rw [e 8 (by omega) (by omega) (by omega) (by omega) (by omega)]; exact e1, by rw [e 8 (by omega) (by omega) (by omega) (by omega) (by omega)]; exact e2, fun i hi => by rw [e _ (by omega) (by omega) (by omega) (by omega) (by omega)]; exact hp i hi⟩
theorem WD_fr (hd : WD M S h P) (e : M' 11 = M 11) : WD M' S h P := by
  unfold WD
  rw [e]
  exact hd
theorem Inv_Ck (hv : Inv b S) : Ck b S := fun q => by
  have c := hv.2.1.2.2.1 q
  have := c.2.1
  have := hv.2.1.1.2.2.2
  exact ⟨c.1, by omega, c.2.2.1, c.2.2.2.2.1⟩
theorem c_rest (hj : j ≠ 7) (hc : RC (M j) S) (hv : Inv b S) : ∃ M', f_X5_run j M = some ((aRest S).1, M') ∧ RC (M' j) (aRest S).2 ∧ (∀ i, i ≠ j → i ≠ 7 → M' i = M i) ∧ (S 0 5 ≠ 0 → M' 7 20 4 = nI (rs1 S).2 ∧ M' 7 20 5 = nI (rs2 S).2.2.2 ∧ M' 7 20 3 = nI (look S).1 ∧ M' 7 20 2 = nI (lf S)) := by
  by_cases q : S 0 5 = 0
  · refine ⟨M, ?_, by unfold aRest; rw [if_pos q]; exact hc, fun _ _ _ => rfl, fun z => absurd q z⟩
    unfold aRest
    rw [f_X5_run, hc.1.2.2.2.2.2.1.1, if_pos (by rw [q]; rfl), if_pos q]
  · obtain ⟨k1, k2, k3⟩ := look_iv hv.2.1
    obtain ⟨r1, r2, r3, r4⟩ := rs2_F hv q
    exact co_rest hj hc hv.1 hv.2.1.1.1 (Inv_Ck hv) (fun _ p hp => (k3 p hp).imp id (fun z => z.1)) (fun _ => by omega) r3
theorem stp_iv (hv : Inv b S) (t : Nat) (q5 : S 0 5 = 0) (hbb : b + 500 < 2 ^ 27) : Inv (b + 500) (stp S t) := by
  have := iv_stop hv t hbb
  unfold aStop at this
  rw [if_neg (by omega)] at this
  exact this
theorem stp_5 (t : Nat) : stp S t 0 5 = 1 := by simp [stp, up]
theorem c_would (hc : RC (M 0) S) (hv : Inv b S) (hbb : b + 1000 < 2 ^ 27) {t w : Nat} (ht : t < 2) (hw : w ≤ 4 ∨ (10 ≤ w ∧ w < 18)) (z0 : Int32) (hz : z0 = if w ≤ 4 then 0 else 1) : ∃ M', f_X7_would_L43 M (nI t) (nI w) z0 = some (if S 0 5 = 0 then wV S t w else -1000002, M') ∧ (∀ i, i ≠ 1 → i ≠ 7 → M' i = M i) := by
  obtain ⟨hN, h5⟩ := Inv_n hv
  rw [f_X7_would_L43, hc.1.2.2.2.2.2.1.1]
  by_cases q5 : S 0 5 = 0
  · rw [if_pos (by rw [q5]; rfl), if_pos q5]
    have hv' := stp_iv hv t q5 (by omega)
    obtain ⟨M8, e8, c8, f8⟩ := cl_copy (j := 0) (k := 1) (by omega) hc hN h5
    obtain ⟨M10, e10, c10, f10⟩ := co_stop c8 hv.1 ht
    have r10 : aStop S t = (nI (S 0 1 - (mst S t + 1 - S 0 0)), stp S t) := by unfold aStop; rw [if_neg (by omega)]; rfl
    rw [r10] at e10 c10
    change RC (M10 1) (stp S t) at c10
    change f_X6_stopStore 1 M8 (nI t) = some (nI (S 0 1 - (mst S t + 1 - S 0 0)), M10) at e10
    obtain ⟨M12, e12, c12, f12, g12⟩ := c_rest (by omega) c10 hv'
    obtain ⟨g1, g2, g3, g4⟩ := g12 (by rw [stp_5]; omega)
    have fr : ∀ i, i ≠ 1 → i ≠ 7 → M12 i = M i := fun i a c => by rw [f12 i a c, f10 i a, f8 i a]
    have hv2 := iv_rest hv' (by omega)
    have sm := hv2.1.2.2.2.2.2.2.2.2
    have lfb : lf (stp S t) < 2 ^ 31 := by
      have b0 := hv'.1.1 0 0
      have b3 := hv'.1.1 0 3
      unfold lf
      split
      · split <;> omega
      · omega
    rw [e8, bO_some, e10, bP_some, e12, bP_some]
    by_cases w4 : w ≤ 4
    · rw [hz, if_pos w4, if_pos rfl]
      rcases (show w = 0 ∨ w = 1 ∨ w = 2 ∨ w = 3 ∨ w = 4 by omega) with rfl | rfl | rfl | rfl | rfl
      · exact ⟨M12, by rw [if_pos (by decide)]; rfl, fr⟩
      · exact ⟨M12, by rw [if_neg (by decide), f_X5_tell, if_pos (by decide), bO_some, g1]; rfl, fr⟩
      · exact ⟨M12, by rw [if_neg (by decide), f_X5_tell, if_neg (by decide), if_pos (by decide), bO_some, g2]; rfl, fr⟩
      · exact ⟨M12, by rw [if_neg (by decide), f_X5_tell, if_neg (by decide), if_neg (by decide), if_pos (by decide), bO_some, g3]; rfl, fr⟩
      · refine ⟨M12, ?_, fr⟩
        rw [if_neg (by decide), f_X5_tell, if_neg (by decide), if_neg (by decide), if_neg (by decide), g4]
        show _ = some ((if lf (stp S t) = 0 then -1000004 else nI (lf (stp S t))), M12)
        by_cases z : lf (stp S t) = 0
        · rw [if_pos (by rw [z]; rfl), if_pos z, bO_some]
        · rw [if_neg (by rw [nl0, nL_eq lfb (by omega)]; exact z), if_neg z, bO_some]
    · rw [hz, if_neg w4, if_neg (by decide), show nI w - (10 : Int32) = nI (w - 10) from by rw [show (10 : Int32) = nI 10 from rfl, nL_sub (by omega)], cl_valueOf c12 sm (by omega), bO_some]
      refine ⟨M12, ?_, fr⟩
      unfold wV
      rw [if_neg (by omega), if_neg (by omega), if_neg (by omega), if_neg (by omega), if_neg (by omega)]
  · rw [if_neg (by rw [nl0, nL_eq (by omega) (by omega)]; exact q5), if_neg q5]
    exact ⟨M, rfl, fun _ _ _ => rfl⟩
theorem m_would (hd : WD M S h P) (hv : Inv b S) (hbb : b + 1000 < 2 ^ 27) {t w : Nat} (ht : t < 2) (hw : w ≤ 4 ∨ (10 ≤ w ∧ w < 18)) : ∃ M', f_X8_would_L32 M (nI t) (nI w) = some (if S 0 5 = 0 then wV S t w else -1000002, M') ∧ (∀ g, g ≠ 11 → M' g = M g) ∧ (∀ i, i = 5 ∨ i = 7 → M' 11 28 i = M 11 28 i) ∧ M' 11 33 = M 11 33 ∧ WD M' S h P := by
  obtain ⟨w1, w2, w3, w4⟩ := hd
  obtain ⟨hN, h5⟩ := Inv_n hv
  rw [f_X8_would_L32]
  by_cases q5 : S 0 5 = 0
  · rw [m_stop0 w1.1 q5, bO_some, if_pos rfl, if_pos q5]
    have hv' := stp_iv hv t q5 (by omega)
    obtain ⟨M8, e8, f8, c8⟩ := m_copies M 29 32 (by omega)
    have r8 : RQ (M8 11 29) S := RQ_cg w1 hN (fun i _ => f8 11 29 i (by omega))
    obtain ⟨M10, e10, r10, f10⟩ := m_stops r8 hv q5 ht
    obtain ⟨n1', ⟨n2', n2''⟩, n3', n4', n5', n6', n7', n8', n9'⟩ := id hv'.1
    have lat := m_latest r10.1 r10.2.2.2 n1' (by omega) n4' hv'.2.1
    obtain ⟨M15, e15, r15, f15, g1, g2⟩ := m_restarts r10 hv' (by rw [stp_5]; omega) (by omega)
    have hv2 := iv_rest hv' (by omega)
    obtain ⟨M18, e18, f18, c18⟩ := m_copies M15 32 29 (by omega)
    have fr : ∀ g r i, ¬ (g = 11 ∧ (r = 29 ∨ r = 32 ∨ r = 34 ∨ (r = 28 ∧ (i = 9 ∨ i = 10)))) → M18 g r i = M g r i := fun g r i q => by
      rw [f18 g r i (by omega), f15 g r i (by omega), f10 g r i (by omega), f8 g r i (by omega)]
    have r18 : RQ (M18 11 29) S := RQ_cg w1 hN (fun i hi => by
      rw [c18 i hi, f15 11 32 i (by omega), f10 11 32 i (by omega), c8 i hi])
    have done : (∀ g, g ≠ 11 → M18 g = M g) ∧ (∀ i, i = 5 ∨ i = 7 → M18 11 28 i = M 11 28 i) ∧ M18 11 33 = M 11 33 ∧ WD M18 S h P := by
      refine ⟨fun g hg => ?_, fun i hi => fr 11 28 i (by omega), ?_, r18, ?_, ?_, fun i hi => ?_⟩
      · funext r i
        exact fr g r i (by omega)
      · funext i
        exact fr 11 33 i (by omega)
      · rw [fr 11 28 4 (by omega)]; exact w2
      · rw [fr 11 28 5 (by omega)]; exact w3
      · have e : (fun k => M18 11 30 (2117 * i + k)) = (fun k => M 11 30 (2117 * i + k)) := by
          funext k
          exact fr 11 30 _ (by omega)
        rw [e]
        exact w4 i hi
    have b0 := n1' 0 0
    have b1 := n1' 0 1
    have b3 := n1' 0 3
    have W : ∀ z0 : Int32, (w = 4 → z0 = if lf (stp S t) = 0 then -1000004 else nI (lf (stp S t))) → ∃ M', f_X8_would_L95 M10 (nI w) (nI (S 0 1 - (mst S t + 1 - S 0 0))) z0 = some (wV S t w, M') ∧ (∀ g, g ≠ 11 → M' g = M g) ∧ (∀ i, i = 5 ∨ i = 7 → M' 11 28 i = M 11 28 i) ∧ M' 11 33 = M 11 33 ∧ WD M' S h P := by
      intro z0 hz
      refine ⟨M18, ?_, done⟩
      have g9 : M18 11 28 9 = nI (look (stp S t)).1 := by rw [f18 11 28 9 (by omega)]; exact g1
      have g10 : M18 11 28 10 = nI (rs2 (stp S t)).2.2.2 := by rw [f18 11 28 10 (by omega)]; exact g2
      rw [f_X8_would_L95, e15, bP_some]
      by_cases w4 : w ≤ 4
      · rw [if_pos (by rw [nl4, nL_le (by omega) (by omega)]; exact w4), f_X8_would_L120, e18, bO_some]
        rcases (show w = 0 ∨ w = 1 ∨ w = 2 ∨ w = 3 ∨ w = 4 by omega) with rfl | rfl | rfl | rfl | rfl
        · rw [if_pos (by decide)]; rfl
        · rw [if_neg (by decide), if_pos (by decide)]; rfl
        · rw [if_neg (by decide), if_neg (by decide), if_pos (by decide), g10]; rfl
        · rw [if_neg (by decide), if_neg (by decide), if_neg (by decide), if_pos (by decide), g9]; rfl
        · rw [if_neg (by decide), if_neg (by decide), if_neg (by decide), if_neg (by decide), if_pos (by decide), hz rfl]; rfl
      · have ne : ∀ k, k ≤ 4 → ¬ nI w = nI k := fun k hk => by rw [nL_eq (by omega) (by omega)]; omega
        rw [if_neg (by rw [nl4, nL_le (by omega) (by omega)]; exact w4), show nI w - (10 : Int32) = nI (w - 10) from by rw [show (10 : Int32) = nI 10 from rfl, nL_sub (by omega)], m_value r15.2.1 (by omega), bO_some, f_X8_would_L120, e18, bO_some, if_neg (show ¬ nI w = (0 : Int32) from ne 0 (by omega)), if_neg (show ¬ nI w = (1 : Int32) from ne 1 (by omega)), if_neg (show ¬ nI w = (2 : Int32) from ne 2 (by omega)), if_neg (show ¬ nI w = (3 : Int32) from ne 3 (by omega)), if_neg (show ¬ nI w = (4 : Int32) from ne 4 (by omega))]
        unfold wV
        rw [if_neg (by omega), if_neg (by omega), if_neg (by omega), if_neg (by omega), if_neg (by omega)]
    rw [e8, bO_some, e10, bP_some, lat, bO_some, r10.1.2.1, r10.1.1]
    by_cases z1 : stp S t 0 1 = 0
    · rw [if_pos (by rw [z1]; rfl)]
      refine W _ (fun _ => ?_)
      have l0 : stp S t 0 3 = 0 := by
        by_cases q : stp S t 0 3 = 0
        · exact q
        · have c := hv'.2.1.2.2.1 q
          have := c.1
          have := c.2.1
          omega
      have : lf (stp S t) = 0 := by unfold lf; rw [if_pos l0, if_pos z1]
      rw [if_pos this]
    · rw [if_neg (by rw [nl0, nL_eq (by omega) (by omega)]; exact z1)]
      by_cases z3 : stp S t 0 3 = 0
      · rw [if_pos (by rw [z3]; rfl)]
        refine W _ (fun _ => ?_)
        have : lf (stp S t) = stp S t 0 0 := by unfold lf; rw [if_pos z3, if_neg z1]
        rw [this, if_neg (by omega)]
      · rw [if_neg (by rw [nl0, nL_eq (by omega) (by omega)]; exact z3)]
        refine W _ (fun _ => ?_)
        have : lf (stp S t) = stp S t 0 3 := by unfold lf; rw [if_neg z3]
        rw [this, if_neg z3]
  · rw [m_stop1 w1.1 h5 q5, bO_some, if_neg (by decide), if_neg q5]
    exact ⟨M, rfl, fun _ _ => rfl, fun _ _ => rfl, rfl, w1, w2, w3, w4⟩
theorem q_would (hw : WC M S h P) (hd : WD M S h P) (hv : Inv b S) (hbb : b + 1000 < 2 ^ 27) (a c : Int32) : ∃ v M1 M2, f_X7_would M a c = some (v, M1) ∧ f_X8_would M1 a c = some (v, M2) ∧ WC M2 S h P ∧ WD M2 S h P ∧ M2 9 = M 9 ∧ M2 11 28 7 = M 11 28 7 ∧ M2 11 33 = M 11 33 := by
  have bad : ∀ v, f_X7_would M a c = some (v, M) → f_X8_would M a c = some (v, M) → ∃ v M1 M2, f_X7_would M a c = some (v, M1) ∧ f_X8_would M1 a c = some (v, M2) ∧ WC M2 S h P ∧ WD M2 S h P ∧ M2 9 = M 9 ∧ M2 11 28 7 = M 11 28 7 ∧ M2 11 33 = M 11 33 := fun v e1 e2 => ⟨v, M, M, e1, e2, hw, hd, rfl, rfl, rfl⟩
  have L17 : ∀ z0, (a < 0 ∨ 1 < a) → f_X7_would_L17 M a c z0 = some (-1000001, M) := fun z0 z => by
    rw [f_X7_would_L17]
    by_cases y : a < 0
    · rw [if_pos y]
    · rw [if_neg y, if_pos (z.resolve_left y)]
  have badA : (a < 0 ∨ 1 < a) → f_X7_would M a c = some (-1000001, M) := fun z => by
    rw [f_X7_would]
    by_cases y : c < 10
    · rw [if_pos y, f_X7_would_L16]; exact L17 _ z
    · rw [if_neg y]
      by_cases y2 : 18 ≤ c
      · rw [if_pos y2, f_X7_would_L16]; exact L17 _ z
      · rw [if_neg y2]; exact L17 _ z
  rcases pk_ix a (n := 2) (by omega) with ha | ha | ⟨t, ht, rfl⟩
  · exact bad _ (badA (Or.inl ha)) (by rw [f_X8_would, m_no M (Or.inl ha), bO_some, if_pos rfl])
  · have z := (ge_nle ha (m := 1) (by omega) (by omega)).2
    exact bad _ (badA (Or.inr z)) (by rw [f_X8_would, show f_X8_in M a 0 1 = some 0 from m_no M (Or.inr z), bO_some, if_pos rfl])
  have t0 : ¬ nI t < 0 := by rw [nL_neg (by omega)]; exact id
  have t1 : ¬ (1 : Int32) < nI t := by rw [nl1, nL_lt (by omega) (by omega)]; omega
  have y1 : ∀ M : Mem, f_X8_in M (nI t) 0 1 = some 1 := fun M => m_yes1 M (by omega)
  have ok : ∀ w, (w ≤ 4 ∨ (10 ≤ w ∧ w < 18)) → (∀ z0, z0 = (if w ≤ 4 then (0 : Int32) else 1) → f_X7_would M (nI t) (nI w) = f_X7_would_L43 M (nI t) (nI w) z0) → (∀ M1, f_X8_would M1 (nI t) (nI w) = f_X8_would_L32 M1 (nI t) (nI w)) → ∃ v M1 M2, f_X7_would M (nI t) (nI w) = some (v, M1) ∧ f_X8_would M1 (nI t) (nI w) = some (v, M2) ∧ WC M2 S h P ∧ WD M2 S h P ∧ M2 9 = M 9 ∧ M2 11 28 7 = M 11 28 7 ∧ M2 11 33 = M 11 33 := fun w hw' k1 k2 => by
    obtain ⟨M1, e1, f1⟩ := c_would hw.1 hv hbb ht hw' _ rfl
    have g11 : M1 11 = M 11 := f1 11 (by omega) (by omega)
    obtain ⟨M2, e2, f2, f3, f4, f5⟩ := m_would (WD_fr hd g11) hv hbb ht hw'
    refine ⟨_, M1, M2, (k1 _ rfl).trans e1, (k2 M1).trans e2, WC_fr hw (fun i a c _ _ e => by rw [f2 i e, f1 i a c]), f5, by rw [f2 9 (by omega), f1 9 (by omega) (by omega)], by rw [f3 7 (by omega), g11], by rw [f4, g11]⟩
  rcases pk_ix c (n := 18) (by omega) with hc | hc | ⟨w, hw', rfl⟩
  · refine bad (-1000001) ?_ ?_
    · have c10 : c < 10 := by
        rw [Int32.lt_iff_toInt_lt, show (0 : Int32).toInt = 0 from rfl] at hc
        rw [Int32.lt_iff_toInt_lt, show (10 : Int32).toInt = 10 from rfl]
        omega
      rw [f_X7_would, if_pos c10, f_X7_would_L16, f_X7_would_L17, if_neg t0, if_neg t1, if_pos hc]
    · have c10 : c < 10 := by
        rw [Int32.lt_iff_toInt_lt, show (0 : Int32).toInt = 0 from rfl] at hc
        rw [Int32.lt_iff_toInt_lt, show (10 : Int32).toInt = 10 from rfl]
        omega
      rw [f_X8_would, y1, bO_some, if_neg (by decide), m_no M (Or.inl hc), bO_some, if_pos rfl, m_no M (Or.inl c10), bO_some, if_pos rfl]
  · have c17 := ge_nle hc (m := 17) (by omega) (by omega)
    have c9 := ge_nle hc (m := 9) (by omega) (by omega)
    have c4 := ge_nle hc (m := 4) (by omega) (by omega)
    refine bad (-1000001) ?_ ?_
    · have n10 : ¬ c < 10 := fun z => by
        have hc2 := hc
        rw [Int32.le_iff_toInt_le, nI_toInt (by omega)] at hc2
        rw [Int32.lt_iff_toInt_lt, show (10 : Int32).toInt = 10 from rfl] at z
        omega
      have n0 : ¬ c < 0 := fun z => by
        have hc2 := hc
        rw [Int32.le_iff_toInt_le, nI_toInt (by omega)] at hc2
        rw [Int32.lt_iff_toInt_lt, show (0 : Int32).toInt = 0 from rfl] at z
        omega
      rw [f_X7_would, if_neg n10, if_pos (show (18 : Int32) ≤ c from hc), f_X7_would_L16, f_X7_would_L17, if_neg t0, if_neg t1, if_neg n0, if_neg (show ¬ c ≤ (4 : Int32) from c4.1), if_pos rfl]
    · rw [f_X8_would, y1, bO_some, if_neg (by decide), show f_X8_in M c 0 4 = some 0 from m_no M (Or.inr c4.2), bO_some, if_pos rfl, show f_X8_in M c 10 17 = some 0 from m_no M (Or.inr c17.2), bO_some, if_pos rfl]
  have w0 : ¬ nI w < 0 := by rw [nL_neg (by omega)]; exact id
  have i4 : ∀ M : Mem, f_X8_in M (nI w) 0 4 = some (b01 (decide (w ≤ 4))) := fun M => by
    have := m_in M (v := w) (a := 0) (c := 4) (by omega) (by omega) (by omega)
    rw [show (decide (0 ≤ w ∧ w ≤ 4)) = decide (w ≤ 4) by simp] at this
    exact this
  have i17 : ∀ M : Mem, f_X8_in M (nI w) 10 17 = some (b01 (decide (10 ≤ w ∧ w ≤ 17))) := fun M => m_in M (v := w) (a := 10) (c := 17) (by omega) (by omega) (by omega)
  by_cases w4 : w ≤ 4
  · refine ok w (Or.inl w4) (fun z0 hz => ?_) (fun M1 => ?_)
    · rw [if_pos w4] at hz
      rw [f_X7_would, if_pos (by rw [show (10 : Int32) = nI 10 from rfl, nL_lt (by omega) (by omega)]; omega), f_X7_would_L16, f_X7_would_L17, if_neg t0, if_neg t1, if_neg w0, if_pos (by rw [nl4, nL_le (by omega) (by omega)]; exact w4), hz]
    · rw [f_X8_would, y1, bO_some, if_neg (by decide), i4, bO_some, decide_eq_true w4, if_neg (by decide)]
  · by_cases w10 : w < 10
    · refine bad (-1000001) ?_ ?_
      · rw [f_X7_would, if_pos (by rw [show (10 : Int32) = nI 10 from rfl, nL_lt (by omega) (by omega)]; exact w10), f_X7_would_L16, f_X7_would_L17, if_neg t0, if_neg t1, if_neg w0, if_neg (by rw [nl4, nL_le (by omega) (by omega)]; exact w4), if_pos rfl]
      · rw [f_X8_would, y1, bO_some, if_neg (by decide), i4, bO_some, decide_eq_false w4, if_pos (show b01 false = 0 from rfl), i17, bO_some, decide_eq_false (by omega), if_pos (show b01 false = 0 from rfl)]
    · refine ok w (Or.inr ⟨by omega, hw'⟩) (fun z0 hz => ?_) (fun M1 => ?_)
      · rw [if_neg w4] at hz
        rw [f_X7_would, if_neg (by rw [show (10 : Int32) = nI 10 from rfl, nL_lt (by omega) (by omega)]; exact w10), if_neg (by rw [show (18 : Int32) = nI 18 from rfl, nL_le (by omega) (by omega)]; omega), f_X7_would_L17, if_neg t0, if_neg t1, if_neg w0, if_neg (by rw [nl4, nL_le (by omega) (by omega)]; exact w4), if_neg (by decide), hz]
      · rw [f_X8_would, y1, bO_some, if_neg (by decide), i4, bO_some, decide_eq_false w4, if_pos (show b01 false = 0 from rfl), i17, bO_some, decide_eq_true (by omega), if_neg (by decide)]
end WO
