/-! the operations over the abstract store, and the class's methods for them -/
def pc8 (m : Nat) : Nat := (m.testBit 0).toNat + (m.testBit 1).toNat + (m.testBit 2).toNat + (m.testBit 3).toNat + (m.testBit 4).toNat + (m.testBit 5).toNat + (m.testBit 6).toNat + (m.testBit 7).toNat
theorem bc8 : ∀ m, m < 256 → f_J6_bitCount_0f7a4 M00 (nI m) = some (nI (pc8 m)) := by decide +kernel
theorem cl_bc (M : Mem) {m : Nat} (h : m < 256) : f_J6_bitCount_0f7a4 M (nI m) = some (nI (pc8 m)) := bc8 m h
def twb (S : St) (n : Nat) : St := put (app S 3 (S 10 n) (S 11 n) (val S (S 11 n)) (S 12 n) n) (S 11 n) (S 12 n) (S 0 0 + S 0 1)
def endg (S : St) (g : Nat) : St := lev (app S 4 g 0 0 0 0) g
def tbk (g lo : Nat) : Nat → St → St
  | 0, S => S
  | d + 1, S => tbk g lo d (if S 9 (lo + d + 1) = 1 ∧ S 10 (lo + d + 1) = g then twb S (lo + d + 1) else S)
def aBegin (S : St) (g : Nat) : Int32 × St := if S 0 5 ≠ 0 ∨ (S 0 8).testBit g then (-1000002, S) else if 60 ≤ S 0 1 then (-1000003, S) else (nI (S 0 0 + S 0 1), ent (app S 0 g 0 0 0 0) g (S 0 0 + S 0 1))
def aWrite (S : St) (g p v : Nat) : Int32 × St := if S 0 5 ≠ 0 ∨ (S 0 8).testBit g = false ∨ ¬ (hol S p < 0 ∨ hol S p = nI g) then (-1000002, S) else if 60 ≤ S 0 1 then (-1000003, S) else (nI (val S p), hld (put (app S 1 g p (val S p) v 0) p v (S 0 0 + S 0 1)) g p)
def aSettle (S : St) (g : Nat) : Int32 × St := if S 0 5 ≠ 0 ∨ (S 0 8).testBit g = false then (-1000002, S) else if 60 < S 0 1 + 1 then (-1000003, S) else (nI (pc8 (S 8 g)), lev (frc (app S 2 g 0 0 0 0) (S 0 0 + S 0 1)) g)
def aTake (S : St) (g : Nat) : Int32 × St := if S 0 5 ≠ 0 ∨ (S 0 8).testBit g = false then (-1000002, S) else if 60 < S 0 1 + (S 7 g + 1) then (-1000003, S) else (nI (S 7 g), endg (tbk g (S 6 g) (S 0 0 + S 0 1 - 1 - S 6 g) S) g)
def aOut (S : St) (p : Nat) : Int32 × St := if S 0 5 ≠ 0 ∨ (S 0 7).testBit p = false then (-1000002, S) else (nI (mrk S p - S 0 2), toD (frc S (mrk S p)) p)
def aDrop (S : St) (p : Nat) : Int32 × St := if S 0 5 ≠ 0 ∨ (S 0 6).testBit p = false ∨ (S 0 7).testBit p then (-1000002, S) else (nI (pc8 (S 0 6 &&& (255 - 2 ^ p))), up S 0 6 (S 0 6 &&& (255 - 2 ^ p)))
def aChk (S : St) : Int32 × St := if S 0 5 ≠ 0 then (-1000002, S) else if 60 ≤ S 0 1 then (-1000003, S) else (nI (S 0 0 + S 0 1), ckp S)
def aDro (S : St) : Int32 × St := if S 0 5 ≠ 0 ∨ S 0 3 = 0 then (-1000002, S) else (nI (drb S), dro S)
def aForce (S : St) : Int32 × St := if S 0 5 ≠ 0 then (-1000002, S) else (nI (S 0 0 + S 0 1 - 1 - S 0 2), frc S (S 0 0 + S 0 1 - 1))
def stp (S : St) (t : Nat) : St := up (up (emp (los S (if t = 1 ∧ tornC S then S 0 2 - 1 else S 0 2))) 0 8 0) 0 5 1
def aStop (S : St) (t : Nat) : Int32 × St := if S 0 5 ≠ 0 then (-1000002, S) else (nI (S 0 1 - ((if t = 1 ∧ tornC S then S 0 2 - 1 else S 0 2) + 1 - S 0 0)), stp S t)
def OKc (k : Nat) (M : Mem) (x : Option (Int32 × Mem)) (r : Int32 × St) : Prop := ∃ M', x = some (r.1, M') ∧ RC (M' k) r.2 ∧ Fr k M M'
/-- what every state of the journal keeps, as numbers -/
def Nm (b : Nat) (S : St) : Prop := Bd b S ∧ (256 ≤ b ∧ S 0 0 + S 0 1 ≤ b) ∧ b < 2 ^ 27 ∧ S 0 1 ≤ 120 ∧ 1 ≤ S 0 0 ∧ S 0 0 ≤ S 0 2 + 1 ∧ S 0 2 < S 0 0 + S 0 1 ∧ (S 0 1 = 0 → S 0 0 = 1) ∧ Sm S
theorem Sm_app {S : St} {a1 a2 a3 a4 a5 a6 : Nat} (h : Sm S) : Sm (app S a1 a2 a3 a4 a5 a6) := by simpa [Sm, app, up] using h
theorem Sm_frc {S : St} {n : Nat} (h : Sm S) : Sm (frc S n) := by simpa [Sm, frc, up] using h
theorem Sm_put {S : St} {p v n : Nat} (h : Sm S) (hp : p < 8) : Sm (put S p v n) := by
  obtain ⟨h1, h2, h3, h4, h5⟩ := h
  have e1 := (tset8 _ h1 p hp).1
  have e2 := (tset8 _ h2 p hp).1
  unfold put
  split <;> (simp [Sm, up, *]; exact h4)
theorem Bd_app {b b' : Nat} {S : St} {a1 a2 a3 a4 a5 a6 : Nat} (h : Bd b S) (hb : b + 1 ≤ b') (h1 : a1 ≤ b') (h2 : a2 ≤ b') (h3 : a3 ≤ b') (h4 : a4 ≤ b') (h5 : a5 ≤ b') (h6 : a6 ≤ b') : Bd b' (app S a1 a2 a3 a4 a5 a6) := by
  have h0 : Bd b' S := Bd_le h (by omega)
  have hn := h 0 1
  exact Bd_up (Bd_up (Bd_up (Bd_up (Bd_up (Bd_up (Bd_up h0 h1) h2) h3) h4) h5) h6) (by omega)
section CO
variable {k b : Nat} {M : Mem} {S : St}
theorem app_n {S : St} {a1 a2 a3 a4 a5 a6 : Nat} : app S a1 a2 a3 a4 a5 a6 0 2 = S 0 2 := by simp [app, up]
theorem co_begin (h : RC (M k) S) (hn : Nm b S) {g : Nat} (hg : g < 4) : OKc k M (f_X6_beginGroup k M (nI g)) (aBegin S g) := by
  obtain ⟨hB, hb1, hb2, hN, hF, hD1, hD2, hz, hs⟩ := hn
  have hst := h.1.2.2.2.2.2.1.1
  have h5 := hB 0 5
  unfold f_X6_beginGroup aBegin
  rw [if_neg (by rw [nL_neg (by omega)]; exact id), if_pos (by rw [nl4, nL_lt (by omega) (by omega)]; exact hg), hst]
  by_cases q1 : S 0 5 = 0
  · rw [if_pos (by rw [q1]; rfl), cl_isOpen h hs hg, bO]
    by_cases q2 : (S 0 8).testBit g = true
    · rw [q2, if_neg (show ¬ (b01 true = 0) by decide), if_pos (Or.inr rfl)]
      exact ⟨M, rfl, h, Fr.rf⟩
    · have q2 : (S 0 8).testBit g = false := by simpa using q2
      rw [q2, if_pos (show (b01 false = 0) by rfl), cl_isFull h hB (by omega), bO, if_neg (show ¬ (S 0 5 ≠ 0 ∨ false = true) by simp [q1])]
      by_cases q3 : 60 ≤ S 0 1
      · rw [decide_eq_true q3, if_neg (show ¬ (b01 true = 0) by decide), if_pos q3]
        exact ⟨M, rfl, h, Fr.rf⟩
      · rw [decide_eq_false q3, if_pos (show (b01 false = 0) by rfl), if_neg q3]
        obtain ⟨M1, e1, r1, f1⟩ := cl_append h hB (by omega) (by omega) 0 g 0 0 0 0
        obtain ⟨M2, e2, r2, f2⟩ := cl_enter r1 (Sm_app hs) hg (S 0 0 + S 0 1)
        refine ⟨M2, ?_, r2, f1.tr f2⟩
        rw [show f_X2_append k M (0 : Int32) (nI g) (-1000004 : Int32) (0 : Int32) (0 : Int32) (0 : Int32) = some (nI (S 0 0 + S 0 1), M1) from e1, bP]
        show bO (f_X0_enter k M1 (nI g) (nI (S 0 0 + S 0 1))) _ = _
        rw [e2, bO]
  · rw [if_neg (by rw [nl0, nL_eq (by omega) (by omega)]; exact q1), if_pos (Or.inl q1)]
    exact ⟨M, rfl, h, Fr.rf⟩
theorem co_write (h : RC (M k) S) (hn : Nm b S) {g p v : Nat} (hg : g < 4) (hp : p < 8) (hv : v < 100) : OKc k M (f_X6_writePage k M (nI g) (nI p) (nI v)) (aWrite S g p v) := by
  obtain ⟨hB, hb1, hb2, hN, hF, hD1, hD2, hz, hs⟩ := hn
  have hst := h.1.2.2.2.2.2.1.1
  have h5 := hB 0 5
  unfold f_X6_writePage aWrite
  rw [if_neg (by rw [nL_neg (by omega)]; exact id), if_neg (by rw [nl4, nL_le (by omega) (by omega)]; omega), if_neg (by rw [nL_neg (by omega)]; exact id), if_pos (by rw [nl8, nL_lt (by omega) (by omega)]; exact hp), if_neg (by rw [nL_neg (by omega)]; exact id), if_pos (by rw [nl100, nL_lt (by omega) (by omega)]; exact hv), hst, cl_holder h hs hp, bO]
  by_cases q1 : S 0 5 = 0
  · rw [if_pos (by rw [q1]; rfl), cl_isOpen h hs hg, bO]
    by_cases q2 : (S 0 8).testBit g = true
    · rw [q2, if_neg (show ¬ (b01 true = 0) by decide)]
      have W : OKc k M (f_X6_writePage_L77 k M (nI g) (nI p) (nI v)) (if 60 ≤ S 0 1 then (-1000003, S) else (nI (val S p), hld (put (app S 1 g p (val S p) v 0) p v (S 0 0 + S 0 1)) g p)) := by
        unfold f_X6_writePage_L77
        rw [cl_isFull h hB (by omega), bO]
        by_cases q3 : 60 ≤ S 0 1
        · rw [decide_eq_true q3, if_neg (show ¬ (b01 true = 0) by decide), if_pos q3]
          exact ⟨M, rfl, h, Fr.rf⟩
        · rw [decide_eq_false q3, if_pos (show (b01 false = 0) by rfl), if_neg q3, cl_valueOf h hs hp, bO]
          obtain ⟨M1, e1, r1, f1⟩ := cl_append h hB (by omega) (by omega) 1 g p (val S p) v 0
          obtain ⟨M2, e2, r2, f2⟩ := cl_put r1 (Sm_app hs) hp v (S 0 0 + S 0 1)
          obtain ⟨M3, e3, r3, f3⟩ := cl_hold r2 (Sm_put (Sm_app hs) hp) hg hp
          refine ⟨M3, ?_, r3, (f1.tr f2).tr f3⟩
          rw [show f_X2_append k M (1 : Int32) (nI g) (nI p) (nI (val S p)) (nI v) (0 : Int32) = some (nI (S 0 0 + S 0 1), M1) from e1, bP]
          show bO (f_X4_put k M1 (nI p) (nI v) (nI (S 0 0 + S 0 1))) _ = _
          rw [e2, bO, e3, bO]
      by_cases q3 : hol S p < 0
      · rw [if_pos q3, if_neg (by simp [q1, q3])]
        exact W
      · rw [if_neg q3]
        by_cases q4 : hol S p = nI g
        · rw [if_pos q4, if_neg (by simp [q1, q4])]
          exact W
        · rw [if_neg q4, if_pos (Or.inr (Or.inr (fun q => q.elim q3 q4)))]
          exact ⟨M, rfl, h, Fr.rf⟩
    · have q2 : (S 0 8).testBit g = false := by simpa using q2
      rw [q2, if_pos (show (b01 false = 0) by rfl), if_pos (Or.inr (Or.inl rfl))]
      exact ⟨M, rfl, h, Fr.rf⟩
  · rw [if_neg (by rw [nl0, nL_eq (by omega) (by omega)]; exact q1), if_pos (Or.inl q1)]
    exact ⟨M, rfl, h, Fr.rf⟩
theorem cl_err (h : RC (M k) S) (hn : Nm b S) {g r : Nat} (hg : g < 4) (hr : r < 2 ^ 28) : f_X6_errorOfEnding k M (nI g) (nI r) = some (if S 0 5 ≠ 0 ∨ (S 0 8).testBit g = false then -1000002 else if 60 < S 0 1 + r then -1000003 else 0) := by
  obtain ⟨hB, hb1, hb2, hN, hF, hD1, hD2, hz, hs⟩ := hn
  have hst := h.1.2.2.2.2.2.1.1
  have h5 := hB 0 5
  unfold f_X6_errorOfEnding
  rw [if_neg (by rw [nL_neg (by omega)]; exact id), if_pos (by rw [nl4, nL_lt (by omega) (by omega)]; exact hg), hst]
  by_cases q1 : S 0 5 = 0
  · rw [if_pos (by rw [q1]; rfl), cl_isOpen h hs hg, bO]
    by_cases q2 : (S 0 8).testBit g = true
    · rw [q2, if_neg (show ¬ (b01 true = 0) by decide), h.1.2.1, nI_add, if_neg (show ¬ (S 0 5 ≠ 0 ∨ true = false) by simp [q1])]
      by_cases q3 : 60 < S 0 1 + r
      · rw [if_pos q3, if_neg (by rw [nl60, nL_le (by omega) (by omega)]; omega)]
      · rw [if_neg q3, if_pos (by rw [nl60, nL_le (by omega) (by omega)]; omega)]
    · have q2 : (S 0 8).testBit g = false := by simpa using q2
      rw [q2, if_pos (show (b01 false = 0) by rfl), if_pos (Or.inr rfl)]
  · rw [if_neg (by rw [nl0, nL_eq (by omega) (by omega)]; exact q1), if_pos (Or.inl q1)]
theorem co_settle (h : RC (M k) S) (hn : Nm b S) {g : Nat} (hg : g < 4) : OKc k M (f_X6_settleGroup k M (nI g)) (aSettle S g) := by
  have hn0 := hn
  obtain ⟨hB, hb1, hb2, hN, hF, hD1, hD2, hz, hs⟩ := hn
  unfold f_X6_settleGroup aSettle
  rw [show (1 : Int32) = nI 1 from rfl, cl_err h hn0 hg (by omega), bO]
  by_cases q1 : S 0 5 ≠ 0 ∨ (S 0 8).testBit g = false
  · rw [if_pos q1, if_pos q1, if_neg (by decide)]
    exact ⟨M, rfl, h, Fr.rf⟩
  · rw [if_neg q1, if_neg q1]
    by_cases q3 : 60 < S 0 1 + 1
    · rw [if_pos q3, if_pos q3, if_neg (by decide)]
      exact ⟨M, rfl, h, Fr.rf⟩
    · rw [if_neg q3, if_neg q3, if_pos rfl]
      have h0 := hB 0 0
      obtain ⟨M1, e1, r1, f1⟩ := cl_append h hB (by omega) (by omega) 2 g 0 0 0 0
      obtain ⟨M2, e2, r2, f2⟩ := cl_force (n := S 0 0 + S 0 1) r1 (Bd_app (b' := b + 1) hB (by omega) (by omega) (by omega) (by omega) (by omega) (by omega) (by omega)) (by omega) (by omega)
      obtain ⟨M3, e3, r3, f3⟩ := cl_leave r2 (Sm_frc (Sm_app hs)) hg
      refine ⟨M3, ?_, r3, (f1.tr f2).tr f3⟩
      rw [show f_X2_append k M (2 : Int32) (nI g) (-1000004 : Int32) (0 : Int32) (0 : Int32) (0 : Int32) = some (nI (S 0 0 + S 0 1), M1) from e1, bP]
      show bP (f_X2_forceUpTo k M1 (nI (S 0 0 + S 0 1))) _ = _
      rw [e2, bP]
      show bO (f_X0_leave k M2 (nI g)) _ = _
      have e5 : (lev (frc (app S 2 g 0 0 0 0) (S 0 0 + S 0 1)) g) 8 g = S 8 g := by simp [lev, frc, app, up]
      rw [e3, bO, (cl_beginOf r3 hg).2.2, bO, e5, cl_bc _ (hs.2.2.2.1 g hg), bO]
theorem co_out (h : RC (M k) S) (hn : Nm b S) {p : Nat} (hp : p < 8) : OKc k M (f_X6_writePageOut k M (nI p)) (aOut S p) := by
  obtain ⟨hB, hb1, hb2, hN, hF, hD1, hD2, hz, hs⟩ := hn
  have hst := h.1.2.2.2.2.2.1.1
  have h5 := hB 0 5
  unfold f_X6_writePageOut aOut
  rw [if_neg (by rw [nL_neg (by omega)]; exact id), if_pos (by rw [nl8, nL_lt (by omega) (by omega)]; exact hp), hst, h.1.2.2.2.2.2.2.2.1, bit8 _ hs.2.1 p hp]
  by_cases q1 : S 0 5 = 0
  · rw [if_pos (by rw [q1]; rfl)]
    by_cases q2 : (S 0 7).testBit p = true
    · rw [q2, if_neg (show ¬ (b01 true = 0) by decide), cl_markOf h hs hp, bO, if_neg (show ¬ (S 0 5 ≠ 0 ∨ true = false) by simp [q1])]
      have hm : mrk S p ≤ b := by
        unfold mrk
        split
        · exact hB 4 p
        · exact hB 2 p
      obtain ⟨M1, e1, r1, f1⟩ := cl_force h hB (by omega) (n := mrk S p) (by omega)
      obtain ⟨M2, e2, r2, f2⟩ := cl_toDisk r1 (Sm_frc hs) hp
      refine ⟨M2, ?_, r2, f1.tr f2⟩
      rw [e1, bP]
      show bO (f_X4_toDisk k M1 (nI p)) _ = _
      rw [e2, bO]
    · have q2 : (S 0 7).testBit p = false := by simpa using q2
      rw [q2, if_pos (show (b01 false = 0) by rfl), if_pos (Or.inr rfl)]
      exact ⟨M, rfl, h, Fr.rf⟩
  · rw [if_neg (by rw [nl0, nL_eq (by omega) (by omega)]; exact q1), if_pos (Or.inl q1)]
    exact ⟨M, rfl, h, Fr.rf⟩
theorem bandn : ∀ c, c < 256 → ∀ d, d < 256 → (nI c &&& (nI d ^^^ (-1 : Int32))) = nI (c &&& (255 - d)) := by
  have h : ∀ d, d < 256 → (nI d ^^^ (-1 : Int32)) = nI (4294967295 - d) := by decide +kernel
  intro c hc d hd
  rw [h d hd]
  have h2 : ∀ c, c < 256 → (nI c) = nI (255 &&& c) := by decide +kernel
  apply Int32.toBitVec_inj.mp
  apply BitVec.eq_of_toNat_eq
  show ((nI c).toBitVec &&& (nI (4294967295 - d)).toBitVec).toNat = (nI (c &&& (255 - d))).toBitVec.toNat
  have h3 : c &&& (255 - d) ≤ c := Nat.and_le_left
  rw [BitVec.toNat_and, pk_tn (by omega), pk_tn (by omega), pk_tn (by omega)]
  apply Nat.eq_of_testBit_eq
  intro i
  rw [Nat.testBit_and, Nat.testBit_and]
  by_cases hi : i < 8
  · congr 1
    have h4 : ∀ d, d < 256 → ∀ i, i < 8 → (4294967295 - d).testBit i = (255 - d).testBit i := by decide +kernel
    exact h4 d hd i hi
  · have h5 : c.testBit i = false := Nat.testBit_lt_two_pow (Nat.lt_of_lt_of_le hc (by
      have : 2 ^ 8 ≤ 2 ^ i := Nat.pow_le_pow_right (by omega) (by omega)
      omega))
    rw [h5]
    rfl
theorem co_drop (h : RC (M k) S) (hn : Nm b S) {p : Nat} (hp : p < 8) : OKc k M (f_X6_dropPageOut k M (nI p)) (aDrop S p) := by
  obtain ⟨hB, hb1, hb2, hN, hF, hD1, hD2, hz, hs⟩ := hn
  have hst := h.1.2.2.2.2.2.1.1
  have h5 := hB 0 5
  unfold f_X6_dropPageOut aDrop
  have e0 : S 0 6 &&& (255 - S 0 7) < 256 := Nat.lt_of_le_of_lt Nat.and_le_left hs.1
  have e1 : (S 0 6 &&& (255 - S 0 7)).testBit p = ((S 0 6).testBit p && !(S 0 7).testBit p) := by
    rw [Nat.testBit_and]
    congr 1
    have h4 : ∀ d, d < 256 → ∀ i, i < 8 → (255 - d).testBit i = !d.testBit i := by decide +kernel
    exact h4 _ hs.2.1 p hp
  rw [if_neg (by rw [nL_neg (by omega)]; exact id), if_pos (by rw [nl8, nL_lt (by omega) (by omega)]; exact hp), hst, bd, h.1.2.2.2.2.2.2.1, h.1.2.2.2.2.2.2.2.1, bandn _ hs.1 _ hs.2.1, bit8 _ e0 p hp, e1, bclr8 _ hs.1 p hp]
  by_cases q1 : S 0 5 = 0
  · rw [if_pos (by rw [q1]; rfl)]
    by_cases q2 : ((S 0 6).testBit p && !(S 0 7).testBit p) = true
    · rw [q2, if_neg (show ¬ (b01 true = 0) by decide), bd]
      have q3 : (S 0 6).testBit p = true ∧ (S 0 7).testBit p = false := by simpa using q2
      rw [if_neg (by simp [q1, q3.1, q3.2]), st_get, if_pos ⟨rfl, rfl, rfl⟩, cl_bc _ (tclr8 _ hs.1 p hp).1, bO]
      refine ⟨_, rfl, ?_, Fr.rf.st⟩
      obtain ⟨a1, a2, a3, a4, a5, a6, a7, a8, a9⟩ := h.1
      refine ⟨?_, fun p' hp' => ?_, fun g' hg' => ?_, fun j hj => ?_⟩
      · simp [st_get, up, *]
      · have a1 := h.2.1 p' hp'
        simp [st_get, up, *]
      · have a1 := h.2.2.1 g' hg'
        simp [st_get, up, *]
      · have a1 := h.2.2.2 j (by simpa [up] using hj)
        simp [st_get, up, *]
    · have q2 : ((S 0 6).testBit p && !(S 0 7).testBit p) = false := by simpa using q2
      rw [q2, if_pos (show (b01 false = 0) by rfl), if_pos ?_]
      · exact ⟨M, rfl, h, Fr.rf⟩
      · cases q5 : (S 0 6).testBit p
        · exact Or.inr (Or.inl rfl)
        · rw [q5] at q2
          exact Or.inr (Or.inr (by simpa using q2))
  · rw [if_neg (by rw [nl0, nL_eq (by omega) (by omega)]; exact q1), if_pos (Or.inl q1)]
    exact ⟨M, rfl, h, Fr.rf⟩
end CO
