section MQ1
variable {M : Mem} {S T : St} {O : Nat → Bool} {b p g n t : Nat}
theorem m_latest (h : RN (M 11 29) S) (hR : RR (M 11 29) S) (hB : Bd b S) (hb : b < 2 ^ 28) (hN : S 0 1 ≤ 120) (hj : JI S) : f_X8_latest M = some (nI (S 0 3)) := by
  obtain ⟨⟨w, f1, f2', f3⟩, l0, l1, k3, al, ph, dm⟩ := hj
  have y0 := hB 0 0
  have y3 := hB 0 3
  have five : ∀ n, S 0 0 ≤ n → n < S 0 0 + S 0 1 → S 9 n = 5 → n ≤ S 0 3 := fun n a c e => by
    by_cases q : S 0 3 = 0
    · exact absurd e ((l0 q).2 n a c)
    · by_cases q2 : n ≤ S 0 3
      · exact q2
      · exact absurd e ((l1 q).2.2.2.1 n (by omega) c)
  have lp : ∀ d n fu y, n + d = S 0 0 + S 0 1 → S 0 0 ≤ n → d < fu → (S 0 3 < n → y = S 0 3) → itr (f_X8_latest_L9 M) (fun _ _ => none) fu (nI y) (nI n) = some (nI (S 0 3)) := by
    intro d
    induction d with
    | zero =>
      intro n fu y hn h1 hf hy
      obtain ⟨f, rfl⟩ : ∃ f, fu = f + 1 := ⟨fu - 1, by omega⟩
      have hL : S 0 3 < n := by
        by_cases q : S 0 3 = 0
        · omega
        · have := (l1 q).2.1
          omega
      rw [itr_s, f_X8_latest_L9, m_last h f1, bO_some, if_pos (by rw [nL_lt (by omega) (by omega)]; omega), hy hL]
    | succ d ih =>
      intro n fu y hn h1 hf hy
      obtain ⟨f, rfl⟩ : ∃ f, fu = f + 1 := ⟨fu - 1, by omega⟩
      have w1 := (w n h1 (by omega)).1
      rw [itr_s, f_X8_latest_L9, m_last h f1, bO_some, if_neg (by rw [nL_lt (by omega) (by omega)]; omega), (m_rec h hR (by omega) h1 (by omega)).1, bO_some]
      by_cases k5 : S 9 n = 5
      · rw [if_pos (by rw [k5]; rfl), f_X8_latest_L32, bd, nI_1]
        refine ih (n + 1) f n (by omega) (by omega) (by omega) (fun z => ?_)
        have := five n h1 (by omega) k5
        omega
      · rw [if_neg (by rw [nl5, nL_eq (by omega) (by omega)]; exact k5), f_X8_latest_L32, bd, nI_1]
        refine ih (n + 1) f y (by omega) (by omega) (by omega) (fun z => ?_)
        by_cases e : S 0 3 = n
        · exact absurd (by rw [← e]; exact (l1 (by omega)).2.2.1) k5
        · exact hy (by omega)
  rw [f_X8_latest, h.1, bd]
  refine lp (S 0 1) (S 0 0) FU 0 rfl (Nat.le_refl _) (by show _ < 10000; omega) (fun z => ?_)
  by_cases q : S 0 3 = 0
  · exact q.symm
  · have := (l1 q).1
    omega
theorem m_ckl {A hi D : Nat} (hA : A + 16 ≤ 2117) (hA2 : 69 ≤ A) (hB : Bd b S) (hb : b < 2 ^ 29) (hd : PI S) (hD : D ≤ b) (hh : hi ≤ b) : ∀ (d i fu : Nat) (M : Mem), i + d = 8 → d < fu → RP (M 11 29) S → M 11 29 2 = nI D →
    ∃ M', itr (f_X8_checkpoint_L88) (fun _ _ _ _ => none) fu M (nI hi) (nI A) (nI i) = some (nI hi, M') ∧ FM M M' ∧ (∀ p, i ≤ p → p < 8 → M' 11 29 (A + (8 + p)) = nI (if (S 0 7).testBit p then S 5 p else 0)) ∧ M' 11 29 2 = nI (D + (hi - D)) ∧ (∀ j, j ≠ 2 → ¬ (A + 8 + i ≤ j ∧ j < A + 16) → M' 11 29 j = M 11 29 j) := by
  intro d
  induction d with
  | zero =>
    intro i fu M hi' hf hp h2
    obtain ⟨f, rfl⟩ : ∃ f, fu = f + 1 := ⟨fu - 1, by omega⟩
    have hi' : i = 8 := by omega
    subst hi'
    refine ⟨st M 11 29 2 (nI (D + (hi - D))), ?_, FM.rf.s29, fun p a c => by omega, by rw [sg, if_pos rfl], fun j a _ => by rw [sg, if_neg a]⟩
    rw [itr_s, f_X8_checkpoint_L88, if_pos (by decide), f_X8_forces, h2]
    by_cases q : hi ≤ D
    · rw [if_pos (by rw [nL_le (by omega) (by omega)]; exact q), f_X8_forces_L22, h2, bd, bP_some, show hi - D = 0 by omega, nl0, nI_add]
    · rw [if_neg (by rw [nL_le (by omega) (by omega)]; exact q), nL_sub (by omega), f_X8_forces_L22, h2, bd, bP_some, nI_add]
  | succ d ih =>
    intro i fu M hi' hf hp h2
    obtain ⟨f, rfl⟩ : ∃ f, fu = f + 1 := ⟨fu - 1, by omega⟩
    have W : ∀ v : Nat, v = (if (S 0 7).testBit i then S 5 i else 0) → ∃ M', f_X8_checkpoint_L122 (itr (f_X8_checkpoint_L88) (fun _ _ _ _ => none) f) M (nI hi) (nI A) (nI i) (nI v) ((nI A + 8) + nI i) = some (nI hi, M') ∧ FM M M' ∧ (∀ p, i ≤ p → p < 8 → M' 11 29 (A + (8 + p)) = nI (if (S 0 7).testBit p then S 5 p else 0)) ∧ M' 11 29 2 = nI (D + (hi - D)) ∧ (∀ j, j ≠ 2 → ¬ (A + 8 + i ≤ j ∧ j < A + 16) → M' 11 29 j = M 11 29 j) := by
      intro v hv
      have lo : ∀ j, j ≠ A + 8 + i → st M 11 29 (A + 8 + i) (nI v) 11 29 j = M 11 29 j := fun j a => by rw [sg, if_neg a]
      obtain ⟨M', e1, f1, c1, c2, c3⟩ := ih (i + 1) f (st M 11 29 (A + 8 + i) (nI v)) (by omega) (by omega) (RP_cg hp (fun j a c => lo j (by omega)) (fun _ _ _ _ => rfl)) (by rw [lo _ (by omega)]; exact h2)
      refine ⟨M', ?_, FM.rf.s29.tr f1, fun p a c => ?_, c2, fun j a c => ?_⟩
      · rw [f_X8_checkpoint_L122, nl8, nI_add, nI_add, gd_in (by omega) (by omega), nL_cl (by omega), bd, bd, nI_1]
        exact e1
      · by_cases e : p = i
        · subst e
          rw [c3 _ (by omega) (by omega), sg, if_pos (by omega), hv]
        · exact c1 p (by omega) c
      · rw [c3 j a (by omega), lo j (by omega)]
    rw [itr_s, f_X8_checkpoint_L88, if_neg (by rw [nl8, nL_le (by omega) (by omega)]; omega), m_dirty hp hB hb (by omega) (hd i (by omega)), bO_some]
    cases q : (S 0 7).testBit i
    · rw [if_pos (show b01 false = 0 from rfl)]
      exact W 0 (by rw [q]; rfl)
    · rw [if_neg (show ¬ b01 true = 0 by decide), m_pg5 M (by omega), bO_some, (hp i (by omega)).2.2.2.2 q]
      exact W _ (by rw [q]; rfl)
theorem m_chk (h : RQ (M 11 29) S) (hv : Inv b S) : OKm M (f_X8_checkpoint M) S (aChk S) := by
  obtain ⟨⟨n1, ⟨n2, n2'⟩, n3, n4, n5, n6, n7, n8, n9⟩, hj, hpi, hr, hst⟩ := id hv
  have y1 := n1 0 1
  have y0 := n1 0 0
  have y2 := n1 0 2
  rw [f_X8_checkpoint]
  unfold aChk
  by_cases q1 : S 0 5 = 0
  · rw [m_stop0 h.1 q1, bO_some, if_pos rfl, if_neg (show ¬ (S 0 5 ≠ 0) by simp [q1]), h.1.2.1]
    by_cases q3 : 60 ≤ S 0 1
    · rw [if_neg (by rw [nl60, nL_lt (by omega) (by omega)]; omega), if_pos q3]
      exact Or.inl ⟨by show (-1000003 : Int32) < 0; decide, rfl, rfl⟩
    · rw [if_pos (by rw [nl60, nL_lt (by omega) (by omega)]; omega), if_neg q3]
      refine Or.inr ⟨by rw [nL_neg (by omega)]; exact id, fun M9 e9 h9 => ?_⟩
      have h' : RO (fun g => (S 0 8).testBit g) (M9 11 29) S := by rw [h9]; exact h
      obtain ⟨k1, k2, k3, k4⟩ := h'
      obtain ⟨M1, e1, f1, c1⟩ := m_adds k1 n5 (by omega) (nI 5) (-1000004) (-1000004) (-1000004) (-1000004) (-1000004)
      have lo1 : ∀ j, j < 69 + 16 * S 0 1 → j ≠ 1 → M1 11 29 j = M9 11 29 j := fun j a c => by
        rw [c1, if_neg c, if_neg (by omega), if_neg (by omega), if_neg (by omega), if_neg (by omega), if_neg (by omega), if_neg (by omega), if_neg (by omega)]
      have g1 : RG (fun g => (S 0 8).testBit g) (M1 11 29) S := RG_cg k3 (fun i a c => lo1 i (by omega) (by omega)) (fun _ _ _ _ => rfl)
      have p1 : RP (st M1 11 29 (69 + 16 * S 0 1 + 6) (nI (S 0 8)) 11 29) S := RP_cg k2 (fun i a c => by rw [sg, if_neg (by omega)]; exact lo1 i (by omega) (by omega)) (fun _ _ _ _ => rfl)
      obtain ⟨M', e2, f2, d1, d2, d3⟩ := m_ckl (S := S) (A := 69 + 16 * S 0 1) (hi := S 0 0 + S 0 1) (D := S 0 2) (by omega) (by omega) n1 (by omega) hpi y2 n2' 8 0 FU (st (st M1 11 29 (69 + 16 * S 0 1 + 6) (nI (S 0 8))) 11 29 (69 + 16 * S 0 1 + 7) (nI (S 0 7))) rfl (by decide) (RP_cg p1 (fun i a c => by rw [sg, if_neg (by omega)]) (fun _ _ _ _ => rfl)) (by rw [sg, if_neg (by omega), sg, if_neg (by omega), lo1 _ (by omega) (by omega)]; exact k1.2.2.1)
      have z0 : M1 11 29 0 = nI (S 0 0) := by rw [lo1 0 (by omega) (by omega)]; exact k1.1
      refine ⟨M', ?_, ?_, (f1.s29.s29).tr f2⟩
      · rw [e9, bO_some, show f_X8_adds M9 (5 : Int32) (-1000004 : Int32) (-1000004 : Int32) (-1000004 : Int32) (-1000004 : Int32) (-1000004 : Int32) = some (nI (S 0 0 + S 0 1), M1) from e1, bP_some, z0, nL_sub (by omega), show S 0 0 + S 0 1 - S 0 0 = S 0 1 by omega, nl16, pk_mul, nl69, nI_add, bd, m_openSet g1 n9.2.2.1, bO_some, nl6, nI_add, gd_in (by omega) (by omega), nL_cl (by omega), bd, m_pages1 p1 n9.2.1 n1 (by omega) hpi, bO_some, nl7, nI_add, gd_in (by omega) (by omega), nL_cl (by omega), bd]
        exact e2
      · have lo : ∀ j, j < 69 + 16 * S 0 1 → j ≠ 1 → j ≠ 2 → M' 11 29 j = M9 11 29 j := fun j a c e => by
          rw [d3 j e (by omega), sg, if_neg (by omega), sg, if_neg (by omega), lo1 j a c]
        obtain ⟨X, eX⟩ : ∃ X, X = app S 5 0 0 (S 0 8) (S 0 7) 0 := ⟨_, rfl⟩
        obtain ⟨T, eT⟩ : ∃ T, T = ckp S := ⟨_, rfl⟩
        have tx : ∀ f i, ¬ (f = 0 ∧ (i = 2 ∨ i = 3 ∨ i = 4)) → f ≠ 15 → T f i = X f i := fun f i a c => by
          rw [eT, ckp, up_ne (by omega)]
          simp only [upr]
          rw [if_neg c, up_ne (by omega), up_ne (by omega), eX]
        have to : ∀ f i, f < 9 → ¬ (f = 0 ∧ (i = 1 ∨ i = 2 ∨ i = 3 ∨ i = 4)) → T f i = S f i := fun f i a c => by rw [tx f i (by omega) (by omega), eX, app_o (by omega) (by omega)]
        have t3 : T 0 3 = S 0 0 + S 0 1 := by rw [eT]; simp [ckp, up, upr]
        have t15 : ∀ p, p < 8 → T 15 p = if (S 0 7).testBit p then S 5 p else 0 := fun p hp8 => by
          rw [eT]
          simp [ckp, up, upr, hp8]
        show RO (fun i => (ckp S 0 8).testBit i) _ (ckp S)
        rw [← eT, to 0 8 (by omega) (by omega)]
        refine ⟨⟨?_, ?_, ?_, ?_, ?_⟩, RP_cg k2 (fun i a c => lo i (by omega) (by omega) (by omega)) (fun f i _ hf => to f i (by omega) (by omega)), RG_cg k3 (fun i a c => lo i (by omega) (by omega) (by omega)) (fun f i _ hf => to f i (by omega) (by omega)), fun j hj => ?_⟩
        · rw [lo 0 (by omega) (by omega) (by omega), to 0 0 (by omega) (by omega)]; exact k1.1
        · rw [d3 1 (by omega) (by omega), sg, if_neg (by omega), sg, if_neg (by omega), c1, if_pos rfl, tx 0 1 (by omega) (by omega), eX, app_N]
        · rw [d2, eT]; simp [ckp, up]
        · rw [lo 3 (by omega) (by omega) (by omega), to 0 5 (by omega) (by omega)]; exact k1.2.2.2.1
        · rw [lo 4 (by omega) (by omega) (by omega), to 0 9 (by omega) (by omega)]; exact k1.2.2.2.2
        · rw [tx 0 1 (by omega) (by omega), eX, app_N] at hj
          rw [to 0 0 (by omega) (by omega)]
          obtain ⟨r1, r2, r3, r4, r5, r6⟩ := app_r (S := S) (a1 := 5) (a2 := 0) (a3 := 0) (a4 := S 0 8) (a5 := S 0 7) (a6 := 0) (n := S 0 0 + j)
          rw [← eX, ← tx _ _ (by omega) (by omega)] at r1 r2 r3 r4 r5 r6
          by_cases q : j = S 0 1
          · subst q
            rw [if_pos rfl] at r1 r2 r3 r4 r5 r6
            unfold R1
            rw [r1, r2, r3, r4, r5, r6]
            have cz : ∀ k, k < 8 → k ≠ 6 → k ≠ 7 → M' 11 29 (69 + 16 * S 0 1 + k) = M1 11 29 (69 + 16 * S 0 1 + k) := fun k a c e => by
              rw [d3 _ (by omega) (by omega), sg, if_neg (by omega), sg, if_neg (by omega)]
            have cz0 := cz 0 (by omega) (by omega) (by omega)
            rw [Nat.add_zero] at cz0
            rw [cz0, cz 1 (by omega) (by omega) (by omega), cz 2 (by omega) (by omega) (by omega), cz 3 (by omega) (by omega) (by omega), cz 4 (by omega) (by omega) (by omega), cz 5 (by omega) (by omega) (by omega)]
            refine ⟨?_, ?_, ?_, ?_, ?_, ?_, fun _ => ⟨?_, ?_⟩, fun _ p hp8 => ?_⟩
            · rw [c1, if_neg (by omega), if_neg (by omega), if_neg (by omega), if_neg (by omega), if_neg (by omega), if_neg (by omega), if_pos rfl]
            · rw [c1, if_neg (by omega), if_neg (by omega), if_neg (by omega), if_neg (by omega), if_neg (by omega), if_pos rfl]; rfl
            · rw [c1, if_neg (by omega), if_neg (by omega), if_neg (by omega), if_neg (by omega), if_pos rfl]; rfl
            · rw [c1, if_neg (by omega), if_neg (by omega), if_neg (by omega), if_pos rfl]; rfl
            · rw [c1, if_neg (by omega), if_neg (by omega), if_pos rfl]; rfl
            · rw [c1, if_neg (by omega), if_pos rfl]; rfl
            · rw [d3 _ (by omega) (by omega), sg, if_neg (by omega), sg, if_pos rfl]
            · rw [d3 _ (by omega) (by omega), sg, if_pos rfl]
            · rw [t15 p hp8]
              exact d1 p (by omega) hp8
          · have z : ¬ (S 0 0 + j = S 0 0 + S 0 1) := by omega
            rw [if_neg z] at r1 r2 r3 r4 r5 r6
            obtain ⟨s1, s2, s3, s4, s5, s6, s7, s8⟩ := k4 j (by omega)
            unfold R1
            rw [r1, r2, r3, r4, r5, r6, lo _ (by omega) (by omega) (by omega), lo _ (by omega) (by omega) (by omega), lo _ (by omega) (by omega) (by omega), lo _ (by omega) (by omega) (by omega), lo _ (by omega) (by omega) (by omega), lo _ (by omega) (by omega) (by omega), lo _ (by omega) (by omega) (by omega), lo _ (by omega) (by omega) (by omega)]
            exact ⟨s1, s2, s3, s4, s5, s6, s7, fun y => absurd (y.trans t3) z⟩
  · rw [m_stop1 h.1 n9.2.2.2.2 q1, bO_some, if_neg (by decide), if_pos q1]
    exact Or.inl ⟨by show (-1000002 : Int32) < 0; decide, rfl, rfl⟩
end MQ1
