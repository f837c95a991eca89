section CO4
variable {k b : Nat} {M : Mem} {S : St}
theorem mg_congr {S T : St} {n : Nat} (h8 : T 0 8 = S 0 8) (h6 : ∀ i, T 6 i = S 6 i) : ∀ i, mg T n i = mg S n i
  | 0 => rfl
  | i + 1 => by
    have ih := mg_congr (n := n) h8 h6 i
    rw [mg, mg, h8, h6, ih]
theorem mp_congr {S T : St} {n : Nat} (h8 : T 0 8 = S 0 8) (h6 : ∀ i, T 6 i = S 6 i) (h7 : T 0 7 = S 0 7) (h5 : ∀ i, T 5 i = S 5 i) : ∀ i, mp T n i = mp S n i
  | 0 => mg_congr h8 h6 4
  | i + 1 => by
    have ih := mp_congr (n := n) h8 h6 h7 h5 i
    rw [mp, mp, h7, h5, ih]
theorem RC_up0 (h : RC (M k) S) {j c v : Nat} (hj : (j = 3 ∧ c = 10) ∨ (j = 4 ∧ c = 11)) : RC (st M k 11 c (nI v) k) (up S 0 j v) := by
  obtain ⟨a1, a2, a3, a4, a5, a6, a7, a8, a9⟩ := h.1
  rcases hj with ⟨rfl, rfl⟩ | ⟨rfl, rfl⟩
  · refine ⟨?_, fun p' hp' => ?_, fun g' hg' => ?_, fun j hj => ?_⟩
    · simp [st_get, up, *]
    · have a1 := h.2.1 p' hp'
      simp [st_get, up, *]
    · have a1 := h.2.2.1 g' hg'
      simp [st_get, up, *]
    · have a1 := h.2.2.2 j (by simpa [up] using hj)
      simp [st_get, up, *]
  · exact RC_dl h v
theorem co_chk (h : RC (M k) S) (hn : Nm b S) : OKc k M (f_X6_makeCheckpoint k M) (aChk S) := by
  obtain ⟨hB, hb1, hb2, hN, hF, hD1, hD2, hz, hs⟩ := hn
  have hst := h.1.2.2.2.2.2.1.1
  have h5 := hB 0 5
  unfold f_X6_makeCheckpoint aChk
  rw [hst]
  by_cases q1 : S 0 5 = 0
  · rw [if_pos (by rw [q1]; rfl), cl_isFull h hB (by omega), bO, if_neg (show ¬ (S 0 5 ≠ 0) by simp [q1])]
    by_cases q3 : 60 ≤ S 0 1
    · rw [decide_eq_true q3, if_neg (show ¬ (b01 true = 0) by decide), if_pos q3]
      exact ⟨M, rfl, h, Fr.rf⟩
    · rw [decide_eq_false q3, if_pos (show (b01 false = 0) by rfl), if_neg q3]
      have hO := h.1.2.2.2.2.2.2.2.2
      have hY := h.1.2.2.2.2.2.2.2.1
      have h2 := hB 0 2
      have hs3 := hs.2.2.1
      have hs2 := hs.2.1
      obtain ⟨M1, e1, c1, f1⟩ := cl_append h hB (by omega) (by omega) 5 0 0 (S 0 8) (S 0 7) 0
      have B1 : Bd (b + 1) (app S 5 0 0 (S 0 8) (S 0 7) 0) := Bd_app hB (by omega) (by omega) (by omega) (by omega) (by omega) (by omega) (by omega)
      have R := RC_up0 (RC_up0 c1 (j := 3) (c := 10) (v := S 0 0 + S 0 1) (Or.inl ⟨rfl, rfl⟩)) (j := 4) (c := 11) (v := S 0 0 + S 0 1) (Or.inr ⟨rfl, rfl⟩)
      obtain ⟨T, eT⟩ : ∃ T, T = up (up (app S 5 0 0 (S 0 8) (S 0 7) 0) 0 3 (S 0 0 + S 0 1)) 0 4 (S 0 0 + S 0 1) := ⟨_, rfl⟩
      rw [← eT] at R
      have B2 : Bd (b + 1) T := by rw [eT]; exact Bd_up (Bd_up B1 (by omega)) (by omega)
      have t8 : T 0 8 = S 0 8 := by rw [eT]; simp [app, up]
      have t7 : T 0 7 = S 0 7 := by rw [eT]; simp [app, up]
      have t2 : T 0 2 = S 0 2 := by rw [eT]; simp [app, up]
      have t4 : T 0 4 = S 0 0 + S 0 1 := by rw [eT]; simp [app, up]
      have t6 : ∀ i, T 6 i = S 6 i := by intro i; rw [eT]; simp [app, up]
      have t5 : ∀ i, T 5 i = S 5 i := by intro i; rw [eT]; simp [app, up]
      have t15 : ∀ i, T 15 i = S 15 i := by intro i; rw [eT]; simp [app, up]
      have sT : Sm T := by
        have z := Sm_app (a1 := 5) (a2 := 0) (a3 := 0) (a4 := S 0 8) (a5 := S 0 7) (a6 := 0) hs
        rw [eT]
        simpa [Sm, up] using z
      obtain ⟨M', S', e2, r2, f2, g1, g2, g3, g4, g5⟩ := cl_ck1 (k := k) (T := T) (n := S 0 0 + S 0 1) sT B2 (by omega) (by omega) (by omega) 4 0 FU T _ (by omega) (by decide) R (fun _ _ _ => rfl) t4
      have eS : S' = ckp S := by
        funext f j
        by_cases a : f = 0 ∧ j = 2
        · rw [a.1, a.2, g2, t2]
          simp [ckp, up]
        · by_cases a2 : f = 0 ∧ j = 4
          · rw [a2.1, a2.2, g1, mp_congr t8 t6 t7 t5]
            simp [ckp, up, upr]
          · by_cases a3 : f = 15
            · rw [a3]
              by_cases a4 : j < 8
              · rw [g3 j a4, t7, t5]
                simp [ckp, up, upr, a4]
              · rw [g4 j (by omega), t15]
                simp [ckp, up, upr, a4]
            · rw [g5 f j (by omega) a3, eT]
              simp only [ckp, up, upr]
              rw [if_neg a2, if_neg a, if_neg a3, if_neg a2]
      rw [eS] at r2
      refine ⟨M', ?_, r2, (f1.st.st).tr f2⟩
      unfold f_X2_appendCheckpoint
      rw [hO, hY, show f_X2_append k M (5 : Int32) (-1000004 : Int32) (-1000004 : Int32) (nI (S 0 8)) (nI (S 0 7)) (0 : Int32) = some (nI (S 0 0 + S 0 1), M1) from e1, bP]
      show bP (itr (f_X2_appendCheckpoint_L32 k) (fun _ _ _ => none) FU (st (st M1 k 11 10 (nI (S 0 0 + S 0 1))) k 11 11 (nI (S 0 0 + S 0 1))) (nI (S 0 0 + S 0 1)) (0 : Int32)) _ = _
      rw [show (0 : Int32) = nI 0 from rfl, e2, bP]
  · rw [if_neg (by rw [nl0, nL_eq (by omega) (by omega)]; exact q1), if_pos q1]
    exact ⟨M, rfl, h, Fr.rf⟩
theorem co_dro (h : RC (M k) S) (hn : Nm b S) (hd : drb S ≤ S 0 1) : OKc k M (f_X6_dropOldRecords k M) (aDro S) := by
  obtain ⟨hB, hb1, hb2, hN, hF, hD1, hD2, hz, hs⟩ := hn
  have hst := h.1.2.2.2.2.2.1.1
  have h5 := hB 0 5
  have h3 := hB 0 3
  unfold f_X6_dropOldRecords aDro
  rw [hst, h.1.2.2.2.1]
  by_cases q1 : S 0 5 = 0
  · rw [if_pos (by rw [q1]; rfl)]
    by_cases q2 : S 0 3 = 0
    · rw [if_pos (by rw [q2]; rfl), if_pos (Or.inr q2)]
      exact ⟨M, rfl, h, Fr.rf⟩
    · rw [if_neg (by rw [nl0, nL_eq (by omega) (by omega)]; exact q2), if_neg (fun q => q.elim (fun a => a q1) q2)]
      obtain ⟨M1, e1, c1, f1⟩ := cl_dropFirst h hB (by omega) (by omega) hd
      refine ⟨M1, ?_, c1, f1⟩
      rw [e1, bP]
  · rw [if_neg (by rw [nl0, nL_eq (by omega) (by omega)]; exact q1), if_pos (Or.inl q1)]
    exact ⟨M, rfl, h, Fr.rf⟩
theorem co_force (h : RC (M k) S) (hn : Nm b S) : OKc k M (f_X6_forceAll k M) (aForce S) := by
  obtain ⟨hB, hb1, hb2, hN, hF, hD1, hD2, hz, hs⟩ := hn
  have hst := h.1.2.2.2.2.2.1.1
  have h5 := hB 0 5
  unfold f_X6_forceAll aForce
  rw [hst]
  by_cases q1 : S 0 5 = 0
  · rw [if_pos (by rw [q1]; rfl), if_neg (by simp [q1]), cl_last h hB (by omega), bO]
    have e : (if S 0 1 = 0 then 0 else S 0 0 + S 0 1 - 1) = S 0 0 + S 0 1 - 1 := by
      by_cases z : S 0 1 = 0
      · have := hz z
        rw [if_pos z]; omega
      · rw [if_neg z]
    rw [e]
    obtain ⟨M1, e1, c1, f1⟩ := cl_force h hB (by omega) (n := S 0 0 + S 0 1 - 1) (by omega)
    refine ⟨M1, ?_, c1, f1⟩
    rw [e1, bP]
  · rw [if_neg (by rw [nl0, nL_eq (by omega) (by omega)]; exact q1), if_pos q1]
    exact ⟨M, rfl, h, Fr.rf⟩
theorem co_stop (h : RC (M k) S) (hn : Nm b S) {t : Nat} (ht : t < 2) : OKc k M (f_X6_stopStore k M (nI t)) (aStop S t) := by
  obtain ⟨hB, hb1, hb2, hN, hF, hD1, hD2, hz, hs⟩ := hn
  have hst := h.1.2.2.2.2.2.1.1
  have h5 := hB 0 5
  unfold f_X6_stopStore aStop
  rw [if_neg (by rw [nL_neg (by omega)]; exact id), if_pos (by rw [nl1, nL_le (by omega) (by omega)]; omega), hst]
  by_cases q1 : S 0 5 = 0
  · rw [if_pos (by rw [q1]; rfl), if_neg (show ¬ (S 0 5 ≠ 0) by simp [q1])]
    have W : OKc k M (f_X6_stopStore_L36 k M (nI t)) (nI (S 0 1 - ((if t = 1 ∧ tornC S then S 0 2 - 1 else S 0 2) + 1 - S 0 0)), stp S t) := by
      unfold f_X6_stopStore_L36
      obtain ⟨M1, e1, c1, f1⟩ := cl_lose h hB (by omega) (by omega) hF hD1 hD2 hz ht
      obtain ⟨M2, e2, c2, f2⟩ := cl_empty c1
      refine ⟨st (st M2 k 7 3 (nI 0)) k 0 3 (nI 1), ?_, ?_, ((f1.tr f2).st).st⟩
      · rw [cl_highest h hB (by omega), bO, e1, bP]
        show bO (f_X4_emptyCache k M1) _ = _
        rw [e2, bO]
        rfl
      · obtain ⟨a1, a2, a3, a4, a5, a6, a7, a8, a9⟩ := c2.1
        unfold stp
        refine ⟨?_, fun p' hp' => ?_, fun g' hg' => ?_, fun j hj => ?_⟩
        · simp [st_get, up, *]
        · have a1 := c2.2.1 p' hp'
          simp [st_get, up, *]
        · have a1 := c2.2.2.1 g' hg'
          simp [st_get, up, *]
        · have a1 := c2.2.2.2 j (by simpa [up] using hj)
          simp [st_get, up, *]
    rcases (show t = 0 ∨ t = 1 by omega) with rfl | rfl
    · rw [if_neg (show ¬ (nI 0 = (1 : Int32)) by decide)]
      exact W
    · rw [if_pos (show (nI 1 = (1 : Int32)) by decide)]
      exact W
  · rw [if_neg (by rw [nl0, nL_eq (by omega) (by omega)]; exact q1), if_pos q1]
    exact ⟨M, rfl, h, Fr.rf⟩
end CO4
