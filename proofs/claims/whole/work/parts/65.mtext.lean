/-! the model reads an order -/
def FQ (M M' : Mem) : Prop := ∀ k r i, ¬ (k = 11 ∧ (r = 35 ∨ (r = 28 ∧ i = 11))) → M' k r i = M k r i
def QS (M0 : Mem) (tl : Nat) (T : Nat → Nat) (M : Mem) (n : Nat) : Prop := TM M tl T ∧ M 11 28 11 = nI n ∧ FQ M0 M
section TY
variable {M M0 M' : Mem} {tl n L m : Nat} {T : Nat → Nat} {x y z v : Int32} {R : PRt}
theorem FQ.rf : FQ M M := fun _ _ _ _ => rfl
theorem FQ.tr {M1 M2 : Mem} (h : FQ M M1) (h2 : FQ M1 M2) : FQ M M2 := fun k r i q => (h2 k r i q).trans (h k r i q)
theorem FQ.s {r i : Nat} (h : FQ M0 M) (hr : r = 35 ∨ (r = 28 ∧ i = 11)) : FQ M0 (st M 11 r i v) := fun k r' j q => by
  rw [st_get, if_neg (by omega)]
  exact h k r' j q
theorem TM.f (h : TM M tl T) (f : FQ M M') : TM M' tl T := by
  obtain ⟨h1, h2, h3⟩ := h
  exact ⟨h1, by rw [f 11 28 7 (by omega)]; exact h2, fun i hi => ⟨(h3 i hi).1, by rw [f 11 33 i (by omega)]; exact (h3 i hi).2⟩⟩
theorem tm_lt (h : TM M tl T) (n : Nat) : sgn T tl n < 128 := sgn_lt (fun i hi => (h.2.2 i hi).1) n
theorem p_1 (h : QS M0 tl T M n) (hb : n ≤ 1000) {k : Nat} (hk : 0 < k) (hd : sgn T tl n = k) : ∃ M', f_X8_passes M (nI k) = some (1, M') ∧ QS M0 tl T M' (n + 1) ∧ M' 11 35 = M 11 35 := by
  obtain ⟨h1, h2, h3⟩ := h
  have h80 := h1.1
  have q : n < tl := by
    unfold sgn at hd
    by_cases q : n < tl
    · exact q
    · rw [if_neg q] at hd; omega
  refine ⟨st M 11 28 11 (nI (n + 1)), ?_, ⟨h1.f (FQ.rf.s (by omega)), by rw [st_get, if_pos ⟨rfl, rfl, rfl⟩], h3.s (by omega)⟩, by funext i; rw [st_get, if_neg (by omega)]⟩
  have ht : T n = k := by unfold sgn at hd; rw [if_pos q] at hd; exact hd
  rw [f_X8_passes, h1.2.1, h2, if_neg (by rw [nL_le (by omega) (by omega)]; omega), gd_in (by omega) (by omega), nL_cl (by omega), (h1.2.2 n q).2, ht, if_pos rfl, f_X8_passes_L29, if_neg (by decide), h2, f_X8_passes_L44, nI_1, bd, gd, if_pos (by decide)]
theorem p_0 (h : QS M0 tl T M n) (hb : n ≤ 1000) {k : Nat} (hk : k < 128) (hd : sgn T tl n ≠ k) : ∃ M', f_X8_passes M (nI k) = some (0, M') ∧ QS M0 tl T M' n ∧ M' 11 35 = M 11 35 := by
  obtain ⟨h1, h2, h3⟩ := h
  have h80 := h1.1
  have e : f_X8_passes_L28 M = some (0, st M 11 28 11 (nI n)) := by
    rw [f_X8_passes_L28, f_X8_passes_L29, if_pos rfl, h2, f_X8_passes_L44, show nI n + (0 : Int32) = nI n from nI_add n 0, bd, gd, if_pos (by decide)]
  refine ⟨st M 11 28 11 (nI n), ?_, ⟨h1.f (FQ.rf.s (by omega)), by rw [st_get, if_pos ⟨rfl, rfl, rfl⟩], h3.s (by omega)⟩, by funext i; rw [st_get, if_neg (by omega)]⟩
  rw [f_X8_passes, h1.2.1, h2]
  by_cases q : n < tl
  · have ht : T n ≠ k := by unfold sgn at hd; rw [if_pos q] at hd; exact hd
    have := (h1.2.2 n q).1
    rw [if_neg (by rw [nL_le (by omega) (by omega)]; omega), gd_in (by omega) (by omega), nL_cl (by omega), (h1.2.2 n q).2, if_neg (by rw [nL_eq (by omega) (by omega)]; exact ht)]
    exact e
  · rw [if_pos (by rw [nL_le (by omega) (by omega)]; omega)]
    exact e
/-- reading digits: the loop stops -/
theorem d_stop (h : QS M0 tl T M m) (hb : m ≤ 1000) (hnm : n ≤ m) {dg k : Nat} (hdg : dg < 100) (hs : ¬ isd (sgn T tl m) ∨ dg ≤ m - n) (f : Nat) : itr (f_X8_number_L12) (fun _ _ _ _ => none) (f + 1) M (nI k) (nI dg) (nI n) = some (if m ≤ n then 0 else 1, M) := by
  obtain ⟨h1, h2, h3⟩ := h
  have h80 := h1.1
  have e : f_X8_number_L93 M (nI n) = some (if m ≤ n then 0 else 1, M) := by
    rw [f_X8_number_L93, h2]
    by_cases z : m ≤ n
    · rw [if_pos (by rw [nL_le (by omega) (by omega)]; exact z), if_pos z]
    · rw [if_neg (by rw [nL_le (by omega) (by omega)]; exact z), if_neg z]
  rw [itr_s, f_X8_number_L12, h1.2.1, h2]
  by_cases q : m < tl
  · have ht : sgn T tl m = T m := by unfold sgn; rw [if_pos q]
    have := (h1.2.2 m q).1
    rw [if_neg (by rw [nL_le (by omega) (by omega)]; omega), gd_in (by omega) (by omega), nL_cl (by omega), (h1.2.2 m q).2, show f_X8_in M (nI (T m)) 48 57 = _ from m_in M (v := T m) (a := 48) (c := 57) (by omega) (by decide) (by decide), bO_some]
    by_cases z : isd (sgn T tl m)
    · rw [ht] at z
      rw [decide_eq_true z, if_neg (show ¬ b01 true = 0 by decide), nL_sub hnm, if_pos (by rw [nL_le (by omega) (by omega)]; exact hs.resolve_left (by rw [ht]; exact fun y => y z))]
      exact e
    · rw [ht] at z
      rw [decide_eq_false z, if_pos (show b01 false = 0 from rfl)]
      exact e
  · rw [if_pos (by rw [nL_le (by omega) (by omega)]; omega)]
    exact e
/-- .. and goes on -/
theorem d_go (h : QS M0 tl T M m) (hb : m ≤ 1000) (hnm : n ≤ m) {dg k a : Nat} (hdg : dg < 100) (hk : k < 3) (ha : a < 1000) (h35 : M 11 35 k = nI a) (hd : isd (sgn T tl m)) (hl : m - n < dg) (f : Nat) : ∃ M', itr (f_X8_number_L12) (fun _ _ _ _ => none) (f + 1) M (nI k) (nI dg) (nI n) = itr (f_X8_number_L12) (fun _ _ _ _ => none) f M' (nI k) (nI dg) (nI n) ∧ QS M0 tl T M' (m + 1) ∧ M' 11 35 k = nI (a * 10 + (sgn T tl m - 48)) ∧ (∀ i, i ≠ k → M' 11 35 i = M 11 35 i) := by
  obtain ⟨h1, h2, h3⟩ := h
  have h80 := h1.1
  have q : m < tl := by
    unfold sgn isd at hd
    by_cases q : m < tl
    · exact q
    · rw [if_neg q] at hd; omega
  have ht : sgn T tl m = T m := by unfold sgn; rw [if_pos q]
  have lt := (h1.2.2 m q).1
  rw [ht] at hd ⊢
  have fq : FQ M (st (st M 11 35 k (nI (a * 10 + (T m - 48)))) 11 28 11 (nI (m + 1))) := (FQ.rf.s (by omega)).s (by omega)
  refine ⟨st (st M 11 35 k (nI (a * 10 + (T m - 48)))) 11 28 11 (nI (m + 1)), ?_, ⟨h1.f fq, by rw [st_get, if_pos ⟨rfl, rfl, rfl⟩], h3.tr fq⟩, ?_, fun i hi => ?_⟩
  · have e10 : (((10 : Int32) * nI a) + nI (T m)) - (48 : Int32) = nI (a * 10 + (T m - 48)) := by
      rw [show (10 : Int32) = nI 10 from rfl, pk_mul, nI_add, nl48, nL_sub (by omega)]
      congr 1
      omega
    rw [itr_s, f_X8_number_L12, h1.2.1, h2, if_neg (by rw [nL_le (by omega) (by omega)]; omega), gd_in (by omega) (by omega), nL_cl (by omega), (h1.2.2 m q).2, show f_X8_in M (nI (T m)) 48 57 = _ from m_in M (v := T m) (a := 48) (c := 57) (by omega) (by decide) (by decide), bO_some, decide_eq_true hd, if_neg (show ¬ b01 true = 0 by decide), nL_sub hnm, if_neg (by rw [nL_le (by omega) (by omega)]; omega), gd_in (by omega) (by omega), gd_in (by omega) (by omega), gd_in (by omega) (by omega), nL_cl (by omega), h35, e10, bd, st_get, if_neg (by omega), h2, nI_1, bd]
  · rw [st_get, if_neg (by omega), st_get, if_pos ⟨rfl, rfl, rfl⟩]
  · rw [st_get, if_neg (by omega), st_get, if_neg (by omega)]
theorem d_1 (h : QS M0 tl T M n) (hb : n ≤ 900) {k : Nat} (hk : k < 3) (hd : isd (sgn T tl n)) : ∃ M', f_X8_number M (nI k) 1 = some (1, M') ∧ QS M0 tl T M' (n + 1) ∧ M' 11 35 k = nI (sgn T tl n - 48) ∧ (∀ i, i ≠ k → M' 11 35 i = M 11 35 i) := by
  have q0 : QS M0 tl T (st M 11 35 k 0) n := ⟨h.1.f (FQ.rf.s (by omega)), by rw [st_get, if_neg (by omega)]; exact h.2.1, h.2.2.s (by omega)⟩
  obtain ⟨M1, e1, q1, v1, o1⟩ := d_go (n := n) (dg := 1) (k := k) (a := 0) q0 (by omega) (Nat.le_refl _) (by omega) hk (by omega) (by rw [st_get, if_pos ⟨rfl, rfl, rfl⟩]; rfl) hd (by omega) 9999
  have e2 := d_stop (n := n) (dg := 1) (k := k) q1 (by omega) (by omega) (by omega) (Or.inr (by omega)) 9998
  refine ⟨M1, ?_, q1, by rw [v1]; congr 1; omega, fun i hi => by rw [o1 i hi, st_get, if_neg (by omega)]⟩
  rw [f_X8_number, h.2.1, bd, gd_in (by omega) (by omega), nL_cl (by omega), bd]
  refine e1.trans (e2.trans ?_)
  rw [if_neg (by omega)]
theorem d_0 (h : QS M0 tl T M n) (hb : n ≤ 900) {k dg : Nat} (hk : k < 3) (hdg : dg < 100) (hd : ¬ isd (sgn T tl n)) : ∃ M', f_X8_number M (nI k) (nI dg) = some (0, M') ∧ QS M0 tl T M' n := by
  have q0 : QS M0 tl T (st M 11 35 k 0) n := ⟨h.1.f (FQ.rf.s (by omega)), by rw [st_get, if_neg (by omega)]; exact h.2.1, h.2.2.s (by omega)⟩
  have e2 := d_stop (n := n) (dg := dg) (k := k) q0 (by omega) (Nat.le_refl _) hdg (Or.inl hd) 9999
  refine ⟨_, ?_, q0⟩
  rw [f_X8_number, h.2.1, bd, gd_in (by omega) (by omega), nL_cl (by omega), bd]
  refine e2.trans ?_
  rw [if_pos (Nat.le_refl _)]
theorem d_2 (h : QS M0 tl T M n) (hb : n ≤ 900) (hd : isd (sgn T tl n)) : ∃ M', f_X8_number M 2 2 = some (1, M') ∧ QS M0 tl T M' (if isd (sgn T tl (n + 1)) then n + 2 else n + 1) ∧ M' 11 35 2 = nI (if isd (sgn T tl (n + 1)) then (sgn T tl n - 48) * 10 + (sgn T tl (n + 1) - 48) else sgn T tl n - 48) ∧ (∀ i, i ≠ 2 → M' 11 35 i = M 11 35 i) := by
  have lt := tm_lt h.1 n
  have q0 : QS M0 tl T (st M 11 35 2 0) n := ⟨h.1.f (FQ.rf.s (by omega)), by rw [st_get, if_neg (by omega)]; exact h.2.1, h.2.2.s (by omega)⟩
  obtain ⟨M1, e1, q1, v1, o1⟩ := d_go (n := n) (dg := 2) (k := 2) (a := 0) q0 (by omega) (Nat.le_refl _) (by omega) (by omega) (by omega) (by rw [st_get, if_pos ⟨rfl, rfl, rfl⟩]; rfl) hd (by omega) 9999
  have ee : f_X8_number M 2 2 = itr (f_X8_number_L12) (fun _ _ _ _ => none) 9999 M1 (nI 2) (nI 2) (nI n) := by
    rw [f_X8_number, h.2.1, bd]
    rw [show (2 : Int32) = nI 2 from rfl, gd_in (by omega) (by omega), nL_cl (by omega), bd]
    exact e1
  by_cases q : isd (sgn T tl (n + 1))
  · rw [if_pos q, if_pos q]
    obtain ⟨M2, e2, q2, v2, o2⟩ := d_go (n := n) (dg := 2) (k := 2) (a := 0 * 10 + (sgn T tl n - 48)) q1 (by omega) (by omega) (by omega) (by omega) (by omega) v1 q (by omega) 9998
    have e3 := d_stop (n := n) (dg := 2) (k := 2) q2 (by omega) (by omega) (by omega) (Or.inr (by omega)) 9997
    refine ⟨M2, ?_, q2, by rw [v2]; congr 1; omega, fun i hi => by rw [o2 i hi, o1 i hi, st_get, if_neg (by omega)]⟩
    refine ee.trans (e2.trans (e3.trans ?_))
    rw [if_neg (by omega)]
  · rw [if_neg q, if_neg q]
    have e3 := d_stop (n := n) (dg := 2) (k := 2) q1 (by omega) (by omega) (by omega) (Or.inl q) 9998
    refine ⟨M1, ?_, q1, by rw [v1]; congr 1; omega, fun i hi => by rw [o1 i hi, st_get, if_neg (by omega)]⟩
    refine ee.trans (e3.trans ?_)
    rw [if_neg (by omega)]
/-- what reading leaves -/
def RO2 (M0 : Mem) (tl : Nat) (T : Nat → Nat) (n : Nat) (R : PRt) (M' : Mem) : Prop := QS M0 tl T M' R.2.1 ∧ (R.1 = true → (¬ (sgn T tl n = 99 ∨ sgn T tl n = 120 ∨ sgn T tl n = 114) → M' 11 35 0 = nI R.2.2.1) ∧ (sgn T tl n = 119 → M' 11 35 1 = nI R.2.2.2.1 ∧ M' 11 35 2 = nI R.2.2.2.2))
theorem u_fail {k : Nat} (h : QS M0 tl T M k) (hR : R = (false, k, 0, 0, 0)) : ∃ M', some ((0 : Int32), M) = some (b01 R.1, M') ∧ RO2 M0 tl T n R M' := by
  subst hR
  exact ⟨M, rfl, h, fun z => (nomatch z)⟩
theorem m_form (hT : TM M tl T) (h2 : M 11 28 11 = nI n) (hn : n < tl) (hR : PR (sgn T tl) n R) : ∃ M', f_X8_isForm M (nI (sgn T tl n)) = some (b01 R.1, M') ∧ RO2 M tl T n R M' := by
  have h80 := hT.1
  obtain ⟨L, eL⟩ : ∃ L, L = sgn T tl n := ⟨_, rfl⟩
  have L128 : L < 128 := by rw [eL]; exact tm_lt hT n
  have q0 : QS M tl T M n := ⟨hT, h2, FQ.rf⟩
  have q1 : QS M tl T (st M 11 28 11 (nI (n + 1))) (n + 1) := ⟨hT.f (FQ.rf.s (by omega)), by rw [st_get, if_pos ⟨rfl, rfl, rfl⟩], FQ.rf.s (by omega)⟩
  have ne : ∀ k, k < 1000 → L ≠ k → ¬ (nI L = nI k) := fun k hk q => by rw [nL_eq (by omega) (by omega)]; exact q
  rw [← eL]
  rcases hR with ⟨h1, hR⟩ | ⟨h1, hR⟩ | ⟨h1, hR⟩ | ⟨h1, hR⟩
  · rw [← eL] at h1
    have e : f_X8_isForm M (nI L) = f_X8_isForm_L18 M := by
      rw [f_X8_isForm]
      rcases h1 with rfl | rfl | rfl
      · rw [if_pos (by decide)]
      · rw [if_neg (by decide), if_pos (by decide)]
      · rw [if_neg (by decide), if_neg (by decide), if_pos (by decide)]
    rw [e, f_X8_isForm_L18, h2, nI_1, bd]
    rcases hR with ⟨c1, hR⟩ | ⟨c1, hR⟩
    · obtain ⟨M1, a1, a2, a3⟩ := p_1 q1 (by omega) (k := 59) (by omega) c1
      rw [show f_X8_passes _ (59 : Int32) = _ from a1, bP_some, gd, if_pos (by decide), hR]
      exact ⟨M1, rfl, a2, fun _ => ⟨fun z => absurd (by rw [← eL]; exact h1) z, fun z => by rw [← eL] at z; omega⟩⟩
    · obtain ⟨M1, a1, a2, a3⟩ := p_0 q1 (by omega) (k := 59) (by omega) c1
      rw [show f_X8_passes _ (59 : Int32) = _ from a1, bP_some, gd, if_pos (by decide)]
      exact u_fail a2 hR
  · rw [← eL] at h1
    have e : f_X8_isForm M (nI L) = f_X8_isForm_L135 M := by
      rw [f_X8_isForm]
      rcases h1 with rfl | rfl | rfl | rfl
      · rw [if_neg (by decide), if_neg (by decide), if_neg (by decide), if_neg (by decide), if_pos (by decide)]
      · rw [if_neg (by decide), if_neg (by decide), if_neg (by decide), if_neg (by decide), if_neg (by decide), if_pos (by decide)]
      · rw [if_neg (by decide), if_neg (by decide), if_neg (by decide), if_neg (by decide), if_neg (by decide), if_neg (by decide), if_pos (by decide)]
      · rw [if_neg (by decide), if_neg (by decide), if_neg (by decide), if_neg (by decide), if_neg (by decide), if_neg (by decide), if_neg (by decide), if_pos (by decide)]
    rw [e, f_X8_isForm_L135, h2, nI_1, bd]
    rcases hR with ⟨c1, hR⟩ | ⟨c1, hR⟩
    · obtain ⟨M1, a1, a2⟩ := d_0 q1 (by omega) (k := 0) (dg := 1) (by omega) (by omega) c1
      rw [show f_X8_number _ (0 : Int32) (1 : Int32) = _ from a1, bP_some, if_pos rfl]
      exact u_fail a2 hR
    · obtain ⟨M1, a1, a2, a3, a4⟩ := d_1 q1 (by omega) (k := 0) (by omega) c1
      rw [show f_X8_number _ (0 : Int32) (1 : Int32) = _ from a1, bP_some, if_neg (by decide)]
      rcases hR with ⟨c2, hR⟩ | ⟨c2, hR⟩
      · obtain ⟨M2, b1, b2, b3⟩ := p_1 a2 (by omega) (k := 59) (by omega) c2
        rw [show f_X8_passes _ (59 : Int32) = _ from b1, bP_some, if_neg (by decide), hR]
        exact ⟨M2, rfl, b2, fun _ => ⟨fun z => by rw [b3]; exact a3, fun z => by rw [← eL] at z; omega⟩⟩
      · obtain ⟨M2, b1, b2, b3⟩ := p_0 a2 (by omega) (k := 59) (by omega) c2
        rw [show f_X8_passes _ (59 : Int32) = _ from b1, bP_some, if_pos rfl]
        exact u_fail b2 hR
  · rw [← eL] at h1
    rw [f_X8_isForm, h1, if_neg (by decide), if_neg (by decide), if_neg (by decide), if_pos (by decide), h2, nI_1, bd]
    rcases hR with ⟨c1, hR⟩ | ⟨c1, hR⟩
    · obtain ⟨M1, a1, a2⟩ := d_0 q1 (by omega) (k := 0) (dg := 1) (by omega) (by omega) c1
      rw [show f_X8_number _ (0 : Int32) (1 : Int32) = _ from a1, bP_some, if_pos rfl]
      exact u_fail a2 hR
    obtain ⟨M1, a1, a2, a3, a4⟩ := d_1 q1 (by omega) (k := 0) (by omega) c1
    rw [show f_X8_number _ (0 : Int32) (1 : Int32) = _ from a1, bP_some, if_neg (by decide)]
    rcases hR with ⟨c2, hR⟩ | ⟨c2, hR⟩
    · obtain ⟨M2, b1, b2, b3⟩ := p_0 a2 (by omega) (k := 44) (by omega) c2
      rw [show f_X8_passes _ (44 : Int32) = _ from b1, bP_some, if_pos rfl]
      exact u_fail b2 hR
    obtain ⟨M2, b1, b2, b3⟩ := p_1 a2 (by omega) (k := 44) (by omega) c2
    rw [show f_X8_passes _ (44 : Int32) = _ from b1, bP_some, if_neg (by decide)]
    rcases hR with ⟨c3, hR⟩ | ⟨c3, hR⟩
    · obtain ⟨M3, d1, d2⟩ := d_0 b2 (by omega) (k := 1) (dg := 1) (by omega) (by omega) c3
      rw [show f_X8_number _ (1 : Int32) (1 : Int32) = _ from d1, bP_some, if_pos rfl]
      exact u_fail d2 hR
    obtain ⟨M3, d1, d2, d3, d4⟩ := d_1 b2 (by omega) (k := 1) (by omega) c3
    rw [show f_X8_number _ (1 : Int32) (1 : Int32) = _ from d1, bP_some, if_neg (by decide)]
    rcases hR with ⟨c4, hR⟩ | ⟨c4, hR⟩
    · obtain ⟨M4, g1, g2, g3⟩ := p_0 d2 (by omega) (k := 44) (by omega) c4
      rw [show f_X8_passes _ (44 : Int32) = _ from g1, bP_some, if_pos rfl]
      exact u_fail g2 hR
    obtain ⟨M4, g1, g2, g3⟩ := p_1 d2 (by omega) (k := 44) (by omega) c4
    rw [show f_X8_passes _ (44 : Int32) = _ from g1, bP_some, if_neg (by decide)]
    rcases hR with ⟨c5, hR⟩ | ⟨c5, hR⟩
    · obtain ⟨M5, k1, k2⟩ := d_0 g2 (by omega) (k := 2) (dg := 2) (by omega) (by omega) c5
      rw [show f_X8_number _ (2 : Int32) (2 : Int32) = _ from k1, bP_some, if_pos rfl]
      exact u_fail k2 hR
    obtain ⟨M5, k1, k2, k3, k4⟩ := d_2 g2 (by omega) c5
    rw [k1, bP_some, if_neg (by decide)]
    have v0 : M5 11 35 0 = nI (sgn T tl (n + 1) - 48) := by rw [k4 0 (by omega), g3, d4 0 (by omega), b3]; exact a3
    have v1 : M5 11 35 1 = nI (sgn T tl (n + 3) - 48) := by rw [k4 1 (by omega), g3]; exact d3
    rcases hR with ⟨c6, hR⟩ | ⟨c6, hR⟩
    · have c6' : isd (sgn T tl (n + 1 + 1 + 1 + 1 + 1 + 1)) := c6
      rw [if_pos c6'] at k2 k3
      rcases hR with ⟨c7, hR⟩ | ⟨c7, hR⟩
      · obtain ⟨M6, l1, l2, l3⟩ := p_1 k2 (by omega) (k := 59) (by omega) c7
        rw [show f_X8_passes _ (59 : Int32) = _ from l1, bP_some, if_neg (by decide), hR]
        exact ⟨M6, rfl, l2, fun _ => ⟨fun _ => by rw [l3]; exact v0, fun _ => ⟨by rw [l3]; exact v1, by rw [l3]; exact k3⟩⟩⟩
      · obtain ⟨M6, l1, l2, l3⟩ := p_0 k2 (by omega) (k := 59) (by omega) c7
        rw [show f_X8_passes _ (59 : Int32) = _ from l1, bP_some, if_pos rfl]
        exact u_fail l2 hR
    · have c6' : ¬ isd (sgn T tl (n + 1 + 1 + 1 + 1 + 1 + 1)) := c6
      rw [if_neg c6'] at k2 k3
      rcases hR with ⟨c7, hR⟩ | ⟨c7, hR⟩
      · obtain ⟨M6, l1, l2, l3⟩ := p_1 k2 (by omega) (k := 59) (by omega) c7
        rw [show f_X8_passes _ (59 : Int32) = _ from l1, bP_some, if_neg (by decide), hR]
        exact ⟨M6, rfl, l2, fun _ => ⟨fun _ => by rw [l3]; exact v0, fun _ => ⟨by rw [l3]; exact v1, by rw [l3]; exact k3⟩⟩⟩
      · obtain ⟨M6, l1, l2, l3⟩ := p_0 k2 (by omega) (k := 59) (by omega) c7
        rw [show f_X8_passes _ (59 : Int32) = _ from l1, bP_some, if_pos rfl]
        exact u_fail l2 hR
  · rw [← eL] at h1
    rw [f_X8_isForm, if_neg (show ¬ nI L = (99 : Int32) from ne 99 (by omega) (by omega)), if_neg (show ¬ nI L = (120 : Int32) from ne 120 (by omega) (by omega)), if_neg (show ¬ nI L = (114 : Int32) from ne 114 (by omega) (by omega)), if_neg (show ¬ nI L = (119 : Int32) from ne 119 (by omega) (by omega)), if_neg (show ¬ nI L = (98 : Int32) from ne 98 (by omega) (by omega)), if_neg (show ¬ nI L = (115 : Int32) from ne 115 (by omega) (by omega)), if_neg (show ¬ nI L = (116 : Int32) from ne 116 (by omega) (by omega)), if_neg (show ¬ nI L = (111 : Int32) from ne 111 (by omega) (by omega))]
    exact u_fail q0 hR
end TY
