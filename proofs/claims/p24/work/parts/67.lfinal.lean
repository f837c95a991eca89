/-! the start, the turns, the end of the law -/
def S00 : St := fun f i => if f = 0 ∧ i = 0 then 1 else 0
theorem JJ_start : JJ 300 0 (st M00 11 28 0 (1 : Int32)) S00 := by
  have zS : ∀ f i, ¬ (f = 0 ∧ i = 0) → S00 f i = 0 := fun f i q => if_neg q
  have r0 : S00 0 0 = 1 := rfl
  have n0 : S00 0 1 = 0 := rfl
  have hj : JI S00 := ⟨⟨fun n a c => by rw [r0, n0] at c; rw [r0] at a; omega, by rw [r0]; omega, by rw [r0]; omega, by rw [r0, n0]; exact (by decide : (0 : Nat) < 1 + 0)⟩, fun _ => ⟨r0, fun n a c => by rw [r0, n0] at c; rw [r0] at a; omega⟩, fun z => absurd rfl z, fun n a c => by rw [r0, n0] at c; rw [r0] at a; omega, fun n a c => by rw [r0, n0] at c; rw [r0] at a; omega, Nat.le_trans (phi_le _ _ _) (by rw [n0]; omega), fun p _ => Nat.le_refl _⟩
  have hB : Bd 300 S00 := fun f i => by
    unfold S00
    split <;> omega
  have hs : Sm S00 := ⟨by decide, by decide, by decide, fun g hg => by rw [zS 8 g (by omega)]; decide, by decide⟩
  have tb : ∀ i, Nat.testBit 0 i = false := fun i => Nat.zero_testBit i
  have inv : Inv 300 S00 := by
    refine ⟨Nm_of hj hB (by omega) (by rw [r0, n0]; omega) (by omega) hs, hj, fun p hp => ?_, fun _ => ⟨fun g hg => ⟨fun z => absurd z (by rw [zS 0 8 (by omega), tb]; decide), fun z => ?_⟩, fun a c p _ _ _ _ oa _ => absurd oa (by rw [zS 0 8 (by omega), tb]; decide)⟩, fun z => absurd rfl z⟩
    · rw [zS 0 7 (by omega), zS 0 6 (by omega), tb]
      exact ⟨⟨fun z => (nomatch z), fun z => (nomatch z.1)⟩, fun z => (nomatch z), fun z => (nomatch z)⟩
    · obtain ⟨n, y, -⟩ := z
      have y1 := y.1
      have y2 := y.2.1
      rw [r0] at y1
      rw [r0, n0] at y2
      omega
  have e0 : st M00 11 28 0 (1 : Int32) 0 = M00 0 := st_fr (by omega)
  have rc : RC (M00 0) S00 := ⟨⟨rfl, rfl, rfl, rfl, rfl, ⟨rfl, rfl⟩, rfl, rfl, rfl⟩, fun p hp => by rw [zS 1 p (by omega), zS 2 p (by omega), zS 3 p (by omega), zS 4 p (by omega), zS 5 p (by omega), zS 15 p (by omega)]; exact ⟨rfl, rfl, rfl, rfl, rfl, rfl⟩, fun g hg => by rw [zS 6 g (by omega), zS 7 g (by omega), zS 8 g (by omega)]; exact ⟨rfl, rfl, rfl⟩, fun j hj => by rw [n0] at hj; omega⟩
  have z28 : ∀ i, i ≠ 0 → st M00 11 28 0 (1 : Int32) 11 28 i = 0 := fun i hi => by
    rw [st_get, if_neg (by omega)]
    rfl
  have zr : ∀ r i, r ≠ 28 → r ≠ 11 → st M00 11 28 0 (1 : Int32) 11 r i = 0 := fun r i hr hr2 => by
    rw [st_get, if_neg (by omega)]
    show Z0 r i = 0
    unfold Z0
    rw [if_neg hr2]
  have ls : LSt (st M00 11 28 0 (1 : Int32)) S00 := by
    refine ⟨⟨?_, ?_, ?_, ?_, ?_⟩, fun g hg => ⟨?_, fun z => ?_⟩, fun p hp => ⟨⟨?_, ?_⟩, ?_, ?_, fun z => ?_, fun z => ?_⟩, fun j hj => ?_, fun q => ?_⟩
    · rw [st_get, if_pos (by omega)]; rfl
    · exact z28 1 (by omega)
    · exact z28 2 (by omega)
    · exact z28 3 (by omega)
    · exact z28 4 (by omega)
    · rw [zr 29 _ (by omega) (by omega), zS 0 8 (by omega)]
      dsimp only
      rw [tb]; rfl
    · rw [zS 0 8 (by omega)] at z
      dsimp only at z
      rw [tb] at z
      exact nomatch z
    · rw [zr 30 _ (by omega) (by omega), zS 1 p (by omega)]; rfl
    · rw [zS 1 p (by omega)]; omega
    · rw [zr 30 _ (by omega) (by omega), zS 2 p (by omega)]; rfl
    · rw [zr 30 _ (by omega) (by omega), zS 0 6 (by omega), tb]; rfl
    · rw [zS 0 6 (by omega), tb] at z
      exact nomatch z
    · rw [zS 0 7 (by omega), tb] at z
      exact nomatch z
    · rw [n0] at hj
      omega
    · exact absurd rfl q
  have e8 : st M00 11 28 0 (1 : Int32) 8 = M00 8 := st_fr (by omega)
  have ph0 : phi S00 (S00 0 0) (S00 0 1) ≤ 0 := Nat.le_trans (phi_le _ _ _) (by rw [n0]; omega)
  exact ⟨ls, ⟨0, fun _ => S00, by rw [e0]; exact rc, by omega, 0, by omega, by rw [e8]; rfl, by rw [e8]; rfl, fun i hi => by omega⟩, inv, ⟨by omega, by rw [r0]; rw [r0] at ph0; omega⟩, by rw [st_get, if_neg (by omega)]; rfl⟩
theorem l_cell {xs : Nat → Int32} {L : Nat} (hL : L ≤ 260) (M : Mem) {k : Nat} (hk : k < 1000) : ∃ v, f_L_cell xs L M (nI k) = some v := by
  rw [f_L_cell]
  by_cases q : L ≤ k
  · rw [if_pos (by rw [show Int32.ofNat L = nI L from rfl, nL_le (by omega) (by omega)]; exact q)]
    exact ⟨_, rfl⟩
  · rw [if_neg (by rw [show Int32.ofNat L = nI L from rfl, nL_le (by omega) (by omega)]; exact q), gd_in (by omega) (by omega)]
    exact ⟨_, rfl⟩
section LAW
variable {xs : Nat → Int32} {L b t : Nat} {M : Mem} {S : St}
theorem L_219 (hj : JJ b t M S) : f_L_law_L219 xs L M (1 : Int32) = some 1 := by
  obtain ⟨j1, ⟨h, P, j2⟩, j3, j4, j5⟩ := hj
  obtain ⟨-, -, -, -, -, -, -, -, -, -, -, -, c13, cm⟩ := k_count j2 j3 j5
  obtain ⟨p8, g4⟩ := k_page8 M
  rw [f_L_law_L219, if_neg (by decide), c13, bO_some, if_pos rfl, cm, bO_some, if_pos rfl, p8, bO_some, if_pos rfl, g4, bO_some, if_pos rfl]
theorem L_loop (hL : L ≤ 260) {n : Nat} (hn : n ≤ 64) : ∀ (d fu k b : Nat) (M : Mem) (S : St), JJ b k M S → n = k + d → d < fu → b + 500 * d < 2 ^ 27 → itr (f_L_law_L98 xs L) (fun _ _ _ _ => none) fu M (1 : Int32) (nI n) (nI k) = some 1 := by
  intro d
  induction d with
  | zero =>
    intro fu k b M S hj h1 hf hb
    obtain ⟨f, rfl⟩ : ∃ f, fu = f + 1 := ⟨fu - 1, by omega⟩
    rw [itr_s, f_L_law_L98, if_pos (by rw [nL_le (by omega) (by omega)]; omega)]
    exact L_219 hj
  | succ d ih =>
    intro fu k b M S hj h1 hf hb
    obtain ⟨f, rfl⟩ : ∃ f, fu = f + 1 := ⟨fu - 1, by omega⟩
    have hbb : b + 500 < 2 ^ 27 := Nat.lt_of_le_of_lt (by omega) hb
    have hb2 : b + 500 + 500 * d < 2 ^ 27 := Nat.lt_of_le_of_lt (by omega) hb
    obtain ⟨v, ev⟩ := l_cell (xs := xs) hL M (k := 1 + k) (by omega)
    have cont : ∀ x z : Int32, f_L_law_L175 xs L (itr (f_L_law_L98 xs L) (fun _ _ _ _ => none) f) M (nI n) (nI k) x z = some 1 := fun x z => by
      obtain ⟨M', S', e, hj'⟩ := A_acts hj hbb (by omega) z
      obtain ⟨j1, ⟨h, P, j2⟩, j3, j4, j5⟩ := id hj'
      obtain ⟨w, -, ew⟩ := l_low M' (x >>> ((3 : Int32) &&& 31)) (d := 1000) (by decide) (by decide)
      rw [f_L_law_L175, e, bP_some, if_neg (by decide), show (1000 : Int32) = nI 1000 from rfl, ew, bO_some, l_isSo j1 j2 j3 (PB_n j4).1 j5, bO_some, if_neg (by decide), f_L_law_L211, bd, nI_1]
      exact ih f (k + 1) (b + 500) M' S' hj' (by omega) (by omega) hb2
    rw [itr_s, f_L_law_L98, if_neg (by rw [nL_le (by omega) (by omega)]; omega), if_neg (by decide), show (1 : Int32) + nI k = nI (1 + k) from (nI_add 1 k), ev, bO_some, bd]
    by_cases q4 : (4 : Int32) ≤ nI k
    · rw [if_pos q4]
      exact cont _ _
    · obtain ⟨w, -, ew⟩ := l_low M (v ^^^ ((7919 : Int32) * nI k)) (d := 10000000) (by decide) (by decide)
      rw [if_neg q4, show (10000000 : Int32) = nI 10000000 from rfl, ew, bO_some, gd, if_pos (by decide)]
      split
      · exact cont _ _
      · exact cont _ _
end LAW
theorem law_true {xs : Nat → Int32} {L : Nat} (hL : L ≤ 260) : f_L_law xs L M00 = some 1 := by
  have hj := JJ_start
  obtain ⟨j1, ⟨h, P, j2⟩, j3, j4, j5⟩ := id hj
  have q5 : S00 0 5 = 0 := rfl
  have q3 : S00 0 3 = 0 := rfl
  obtain ⟨M1, e1, h1⟩ := no_step hj (k_rest j2 j3) (by unfold aRest; rw [if_pos q5])
  obtain ⟨k1, ⟨h', P', k2⟩, k3, k4, k5⟩ := id h1
  obtain ⟨M2, e2, h2⟩ := no_step h1 (k_dro k2 k3) (by unfold aDro; rw [if_pos (Or.inr q3)])
  obtain ⟨v, ev⟩ := l_cell (xs := xs) hL M2 (k := 0) (by omega)
  obtain ⟨w, hw, ew⟩ := l_low M2 v (d := 48) (by omega) (by omega)
  rw [f_L_law, bd, l_isSo j1 j2 j3 (PB_n j4).1 j5, bO_some, if_neg (by decide), e1, bP_some, if_pos rfl, e2, bP_some, if_pos rfl, f_L_law_L78, show f_L_cell xs L M2 (0 : Int32) = some v from ev, bO_some, show (48 : Int32) = nI 48 from rfl, ew, bO_some, bd, show (16 : Int32) + nI w = nI (16 + w) from nI_add 16 w]
  exact L_loop (n := 16 + w) hL (by omega) (16 + w) FU 0 300 M2 S00 h2 (by omega) (by unfold FU; omega) (by omega)
