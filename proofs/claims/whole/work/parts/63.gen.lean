/-! operations with any argument -/
def gBegin (S : St) (a : Int32) : Int32 × St := if a < 0 ∨ 4 ≤ a then (-1000001, S) else aBegin S a.toNatClampNeg
def gSettle (S : St) (a : Int32) : Int32 × St := if a < 0 ∨ 4 ≤ a then (-1000001, S) else aSettle S a.toNatClampNeg
def gTake (S : St) (a : Int32) : Int32 × St := if a < 0 ∨ 4 ≤ a then (-1000001, S) else aTake S a.toNatClampNeg
def gOut (S : St) (a : Int32) : Int32 × St := if a < 0 ∨ 8 ≤ a then (-1000001, S) else aOut S a.toNatClampNeg
def gDrop (S : St) (a : Int32) : Int32 × St := if a < 0 ∨ 8 ≤ a then (-1000001, S) else aDrop S a.toNatClampNeg
def gStop (S : St) (a : Int32) : Int32 × St := if a < 0 ∨ 2 ≤ a then (-1000001, S) else aStop S a.toNatClampNeg
def gWrite (S : St) (a c d : Int32) : Int32 × St := if (a < 0 ∨ 4 ≤ a) ∨ (c < 0 ∨ 8 ≤ c) ∨ (d < 0 ∨ 100 ≤ d) then (-1000001, S) else aWrite S a.toNatClampNeg c.toNatClampNeg d.toNatClampNeg
theorem ix_in {n j : Nat} (h : j < n) (hn : n < 2 ^ 31) : ¬ (nI j < 0 ∨ nI n ≤ nI j) := by
  rintro (q | q)
  · rw [nL_neg (by omega)] at q; exact q
  · rw [nL_le hn (by omega)] at q; omega
def CG (j : Nat) (M : Mem) (x : Option (Int32 × Mem)) (r : Int32 × St) : Prop := ∃ M', x = some (r.1, M') ∧ RC (M' j) r.2 ∧ ∀ i, i ≠ j → i ≠ 7 → M' i = M i
theorem OKc.g {j : Nat} {M : Mem} {x : Option (Int32 × Mem)} {r : Int32 × St} (h : OKc j M x r) : CG j M x r := by
  obtain ⟨M', a, c, d⟩ := h
  exact ⟨M', a, c, fun i hi _ => d i hi⟩
section GE
variable {M : Mem} {S : St} {b j : Nat}
theorem CG_bad {x : Option (Int32 × Mem)} (hc : RC (M j) S) (e : x = some (-1000001, M)) : CG j M x (-1000001, S) := ⟨M, e, hc, fun _ _ _ => rfl⟩
theorem OKw_bad {x : Option (Int32 × Mem)} (e : x = some (-1000001, M)) : OKw M x S (-1000001, S) := Or.inl ⟨by show (-1000001 : Int32) < 0; decide, rfl, e⟩
theorem gr_ho (hv : Inv b S) {g : Nat} (hg : g < 4) : S 0 5 = 0 → (S 0 8).testBit g = true → S 0 0 ≤ S 6 g ∧ S 6 g < S 0 0 + S 0 1 := fun q o => by
  have gc := ((hv.2.2.2.1 q).1 g hg).1 o
  exact ⟨gc.1.1, gc.1.2.1⟩
theorem g_begin (a : Int32) : ((a < 0 ∨ 4 ≤ a) ∧ gBegin S a = (-1000001, S)) ∨ ∃ i : Nat, i < 4 ∧ a = nI i ∧ gBegin S a = aBegin S i := by
  rcases pk_ix a (n := 4) (by omega) with h | h | ⟨i, hi, rfl⟩
  · exact Or.inl ⟨Or.inl h, by unfold gBegin; rw [if_pos (Or.inl h)]⟩
  · exact Or.inl ⟨Or.inr h, by unfold gBegin; rw [if_pos (show a < 0 ∨ (4 : Int32) ≤ a from Or.inr h)]⟩
  · refine Or.inr ⟨i, hi, rfl, ?_⟩
    unfold gBegin
    rw [if_neg (show ¬ (nI i < 0 ∨ (4 : Int32) ≤ nI i) from ix_in hi (by decide)), nL_cl (by omega)]
theorem gc_begin (hc : RC (M j) S) (hv : Inv b S) (a : Int32) : CG j M (f_X6_beginGroup j M a) (gBegin S a) := by
  rcases g_begin (S := S) a with ⟨z, e⟩ | ⟨i, hx, rfl, e⟩
  · rw [e]
    refine CG_bad hc ?_
    rw [f_X6_beginGroup]
    by_cases y : a < 0
    · rw [if_pos y]
    · rw [if_neg y, if_neg (show ¬ a < (4 : Int32) from fun q => by
        rcases z with z | z
        · exact y z
        · rw [Int32.le_iff_toInt_le] at z
          rw [Int32.lt_iff_toInt_lt] at q
          omega)]
  · rw [e]
    exact OKc.g (co_begin hc hv.1 hx)
theorem gm_begin (hm : RQ (M 11 29) S) (hv : Inv b S) (hbb : b + 500 < 2 ^ 27) (a : Int32) : OKw M (f_X8_begin M a) S (gBegin S a) := by
  rcases g_begin (S := S) a with ⟨z, e⟩ | ⟨i, hx, rfl, e⟩
  · rw [e]
    refine OKw_bad ?_
    rw [f_X8_begin, show f_X8_in M a 0 3 = some 0 from m_no M (z.imp id (fun q => (ge_nle (n := 4) q (m := 3) (by omega) (by omega)).2)), bO_some, if_pos rfl]
  · rw [e]
    exact (m_begin hm hv hx).w
theorem gi_begin (hv : Inv b S) (hbb : b + 500 < 2 ^ 27) (a : Int32) : Inv (b + 500) (gBegin S a).2 := by
  rcases g_begin (S := S) a with ⟨z, e⟩ | ⟨i, hx, rfl, e⟩
  · rw [e]
    exact Inv_le hv (by omega) hbb
  · rw [e]
    exact iv_begin hv hx hbb
theorem g_settle (a : Int32) : ((a < 0 ∨ 4 ≤ a) ∧ gSettle S a = (-1000001, S)) ∨ ∃ i : Nat, i < 4 ∧ a = nI i ∧ gSettle S a = aSettle S i := by
  rcases pk_ix a (n := 4) (by omega) with h | h | ⟨i, hi, rfl⟩
  · exact Or.inl ⟨Or.inl h, by unfold gSettle; rw [if_pos (Or.inl h)]⟩
  · exact Or.inl ⟨Or.inr h, by unfold gSettle; rw [if_pos (show a < 0 ∨ (4 : Int32) ≤ a from Or.inr h)]⟩
  · refine Or.inr ⟨i, hi, rfl, ?_⟩
    unfold gSettle
    rw [if_neg (show ¬ (nI i < 0 ∨ (4 : Int32) ≤ nI i) from ix_in hi (by decide)), nL_cl (by omega)]
theorem gc_settle (hc : RC (M j) S) (hv : Inv b S) (a : Int32) : CG j M (f_X6_settleGroup j M a) (gSettle S a) := by
  rcases g_settle (S := S) a with ⟨z, e⟩ | ⟨i, hx, rfl, e⟩
  · rw [e]
    refine CG_bad hc ?_
    have er : ∀ y, f_X6_errorOfEnding j M a y = some (-1000001) := fun y => by
      rw [f_X6_errorOfEnding]
      by_cases y : a < 0
      · rw [if_pos y]
      · rw [if_neg y, if_neg (show ¬ a < (4 : Int32) from fun q => by
          rcases z with z | z
          · exact y z
          · rw [Int32.le_iff_toInt_le] at z
            rw [Int32.lt_iff_toInt_lt] at q
            omega)]
    rw [f_X6_settleGroup, er, bO_some, if_neg (by decide)]
  · rw [e]
    exact OKc.g (co_settle hc hv.1 hx)
theorem gm_settle (hm : RQ (M 11 29) S) (hv : Inv b S) (hbb : b + 500 < 2 ^ 27) (a : Int32) : OKw M (f_X8_settle M a) S (gSettle S a) := by
  rcases g_settle (S := S) a with ⟨z, e⟩ | ⟨i, hx, rfl, e⟩
  · rw [e]
    refine OKw_bad ?_
    rw [f_X8_settle, show f_X8_in M a 0 3 = some 0 from m_no M (z.imp id (fun q => (ge_nle (n := 4) q (m := 3) (by omega) (by omega)).2)), bO_some, if_pos rfl]
  · rw [e]
    exact (m_settle hm hv hx).w
theorem gi_settle (hv : Inv b S) (hbb : b + 500 < 2 ^ 27) (a : Int32) : Inv (b + 500) (gSettle S a).2 := by
  rcases g_settle (S := S) a with ⟨z, e⟩ | ⟨i, hx, rfl, e⟩
  · rw [e]
    exact Inv_le hv (by omega) hbb
  · rw [e]
    exact iv_settle hv hx hbb
theorem g_take (a : Int32) : ((a < 0 ∨ 4 ≤ a) ∧ gTake S a = (-1000001, S)) ∨ ∃ i : Nat, i < 4 ∧ a = nI i ∧ gTake S a = aTake S i := by
  rcases pk_ix a (n := 4) (by omega) with h | h | ⟨i, hi, rfl⟩
  · exact Or.inl ⟨Or.inl h, by unfold gTake; rw [if_pos (Or.inl h)]⟩
  · exact Or.inl ⟨Or.inr h, by unfold gTake; rw [if_pos (show a < 0 ∨ (4 : Int32) ≤ a from Or.inr h)]⟩
  · refine Or.inr ⟨i, hi, rfl, ?_⟩
    unfold gTake
    rw [if_neg (show ¬ (nI i < 0 ∨ (4 : Int32) ≤ nI i) from ix_in hi (by decide)), nL_cl (by omega)]
theorem gc_take (hc : RC (M j) S) (hv : Inv b S) (a : Int32) : CG j M (f_X6_takeGroupBack j M a) (gTake S a) := by
  rcases g_take (S := S) a with ⟨z, e⟩ | ⟨i, hx, rfl, e⟩
  · rw [e]
    refine CG_bad hc ?_
    have er : ∀ y, f_X6_errorOfEnding j M a y = some (-1000001) := fun y => by
      rw [f_X6_errorOfEnding]
      by_cases y : a < 0
      · rw [if_pos y]
      · rw [if_neg y, if_neg (show ¬ a < (4 : Int32) from fun q => by
          rcases z with z | z
          · exact y z
          · rw [Int32.le_iff_toInt_le] at z
            rw [Int32.lt_iff_toInt_lt] at q
            omega)]
    have wr : f_X0_writesOf j M a = some 0 := by
      rw [f_X0_writesOf]
      by_cases y : a < 0
      · rw [if_pos y]
      · rw [if_neg y, if_pos (show (4 : Int32) ≤ a from z.resolve_left y)]
    rw [f_X6_takeGroupBack, wr, bO_some, er, bO_some, if_neg (by decide)]
  · rw [e]
    exact OKc.g (co_take hc hv.1 hv.2.1.1.1 hx (gr_ho hv hx))
theorem gm_take (hm : RQ (M 11 29) S) (hv : Inv b S) (hbb : b + 500 < 2 ^ 27) (a : Int32) : OKw M (f_X8_takeBack M a) S (gTake S a) := by
  rcases g_take (S := S) a with ⟨z, e⟩ | ⟨i, hx, rfl, e⟩
  · rw [e]
    refine OKw_bad ?_
    rw [f_X8_takeBack, show f_X8_in M a 0 3 = some 0 from m_no M (z.imp id (fun q => (ge_nle (n := 4) q (m := 3) (by omega) (by omega)).2)), bO_some, if_pos rfl]
  · rw [e]
    exact (m_take hm hv hx hbb).w
theorem gi_take (hv : Inv b S) (hbb : b + 500 < 2 ^ 27) (a : Int32) : Inv (b + 500) (gTake S a).2 := by
  rcases g_take (S := S) a with ⟨z, e⟩ | ⟨i, hx, rfl, e⟩
  · rw [e]
    exact Inv_le hv (by omega) hbb
  · rw [e]
    exact iv_take hv hx hbb
theorem g_out (a : Int32) : ((a < 0 ∨ 8 ≤ a) ∧ gOut S a = (-1000001, S)) ∨ ∃ i : Nat, i < 8 ∧ a = nI i ∧ gOut S a = aOut S i := by
  rcases pk_ix a (n := 8) (by omega) with h | h | ⟨i, hi, rfl⟩
  · exact Or.inl ⟨Or.inl h, by unfold gOut; rw [if_pos (Or.inl h)]⟩
  · exact Or.inl ⟨Or.inr h, by unfold gOut; rw [if_pos (show a < 0 ∨ (8 : Int32) ≤ a from Or.inr h)]⟩
  · refine Or.inr ⟨i, hi, rfl, ?_⟩
    unfold gOut
    rw [if_neg (show ¬ (nI i < 0 ∨ (8 : Int32) ≤ nI i) from ix_in hi (by decide)), nL_cl (by omega)]
theorem gc_out (hc : RC (M j) S) (hv : Inv b S) (a : Int32) : CG j M (f_X6_writePageOut j M a) (gOut S a) := by
  rcases g_out (S := S) a with ⟨z, e⟩ | ⟨i, hx, rfl, e⟩
  · rw [e]
    refine CG_bad hc ?_
    rw [f_X6_writePageOut]
    by_cases y : a < 0
    · rw [if_pos y]
    · rw [if_neg y, if_neg (show ¬ a < (8 : Int32) from fun q => by
        rcases z with z | z
        · exact y z
        · rw [Int32.le_iff_toInt_le] at z
          rw [Int32.lt_iff_toInt_lt] at q
          omega)]
  · rw [e]
    exact OKc.g (co_out hc hv.1 hx)
theorem gm_out (hm : RQ (M 11 29) S) (hv : Inv b S) (hbb : b + 500 < 2 ^ 27) (a : Int32) : OKw M (f_X8_writeOut M a) S (gOut S a) := by
  rcases g_out (S := S) a with ⟨z, e⟩ | ⟨i, hx, rfl, e⟩
  · rw [e]
    refine OKw_bad ?_
    rw [f_X8_writeOut, show f_X8_in M a 0 7 = some 0 from m_no M (z.imp id (fun q => (ge_nle (n := 8) q (m := 7) (by omega) (by omega)).2)), bO_some, if_pos rfl]
  · rw [e]
    exact (m_out hm hv hx).w
theorem gi_out (hv : Inv b S) (hbb : b + 500 < 2 ^ 27) (a : Int32) : Inv (b + 500) (gOut S a).2 := by
  rcases g_out (S := S) a with ⟨z, e⟩ | ⟨i, hx, rfl, e⟩
  · rw [e]
    exact Inv_le hv (by omega) hbb
  · rw [e]
    exact iv_out hv hx hbb
theorem g_drop (a : Int32) : ((a < 0 ∨ 8 ≤ a) ∧ gDrop S a = (-1000001, S)) ∨ ∃ i : Nat, i < 8 ∧ a = nI i ∧ gDrop S a = aDrop S i := by
  rcases pk_ix a (n := 8) (by omega) with h | h | ⟨i, hi, rfl⟩
  · exact Or.inl ⟨Or.inl h, by unfold gDrop; rw [if_pos (Or.inl h)]⟩
  · exact Or.inl ⟨Or.inr h, by unfold gDrop; rw [if_pos (show a < 0 ∨ (8 : Int32) ≤ a from Or.inr h)]⟩
  · refine Or.inr ⟨i, hi, rfl, ?_⟩
    unfold gDrop
    rw [if_neg (show ¬ (nI i < 0 ∨ (8 : Int32) ≤ nI i) from ix_in hi (by decide)), nL_cl (by omega)]
theorem gc_drop (hc : RC (M j) S) (hv : Inv b S) (a : Int32) : CG j M (f_X6_dropPageOut j M a) (gDrop S a) := by
  rcases g_drop (S := S) a with ⟨z, e⟩ | ⟨i, hx, rfl, e⟩
  · rw [e]
    refine CG_bad hc ?_
    rw [f_X6_dropPageOut]
    by_cases y : a < 0
    · rw [if_pos y]
    · rw [if_neg y, if_neg (show ¬ a < (8 : Int32) from fun q => by
        rcases z with z | z
        · exact y z
        · rw [Int32.le_iff_toInt_le] at z
          rw [Int32.lt_iff_toInt_lt] at q
          omega)]
  · rw [e]
    exact OKc.g (co_drop hc hv.1 hx)
theorem gm_drop (hm : RQ (M 11 29) S) (hv : Inv b S) (hbb : b + 500 < 2 ^ 27) (a : Int32) : OKw M (f_X8_dropOut M a) S (gDrop S a) := by
  rcases g_drop (S := S) a with ⟨z, e⟩ | ⟨i, hx, rfl, e⟩
  · rw [e]
    refine OKw_bad ?_
    rw [f_X8_dropOut, show f_X8_in M a 0 7 = some 0 from m_no M (z.imp id (fun q => (ge_nle (n := 8) q (m := 7) (by omega) (by omega)).2)), bO_some, if_pos rfl]
  · rw [e]
    exact (m_drop hm hv hx).w
theorem gi_drop (hv : Inv b S) (hbb : b + 500 < 2 ^ 27) (a : Int32) : Inv (b + 500) (gDrop S a).2 := by
  rcases g_drop (S := S) a with ⟨z, e⟩ | ⟨i, hx, rfl, e⟩
  · rw [e]
    exact Inv_le hv (by omega) hbb
  · rw [e]
    exact iv_drop hv hx hbb
theorem g_stop (a : Int32) : ((a < 0 ∨ 2 ≤ a) ∧ gStop S a = (-1000001, S)) ∨ ∃ i : Nat, i < 2 ∧ a = nI i ∧ gStop S a = aStop S i := by
  rcases pk_ix a (n := 2) (by omega) with h | h | ⟨i, hi, rfl⟩
  · exact Or.inl ⟨Or.inl h, by unfold gStop; rw [if_pos (Or.inl h)]⟩
  · exact Or.inl ⟨Or.inr h, by unfold gStop; rw [if_pos (show a < 0 ∨ (2 : Int32) ≤ a from Or.inr h)]⟩
  · refine Or.inr ⟨i, hi, rfl, ?_⟩
    unfold gStop
    rw [if_neg (show ¬ (nI i < 0 ∨ (2 : Int32) ≤ nI i) from ix_in hi (by decide)), nL_cl (by omega)]
theorem gc_stop (hc : RC (M j) S) (hv : Inv b S) (a : Int32) : CG j M (f_X6_stopStore j M a) (gStop S a) := by
  rcases g_stop (S := S) a with ⟨z, e⟩ | ⟨i, hx, rfl, e⟩
  · rw [e]
    refine CG_bad hc ?_
    rw [f_X6_stopStore]
    by_cases y : a < 0
    · rw [if_pos y]
    · rw [if_neg y, if_neg (show ¬ a ≤ (1 : Int32) from (z.resolve_left y |> fun q => (ge_nle (n := 2) q (m := 1) (by omega) (by omega)).1))]
  · rw [e]
    exact OKc.g (co_stop hc hv.1 hx)
theorem gm_stop (hm : RQ (M 11 29) S) (hv : Inv b S) (hbb : b + 500 < 2 ^ 27) (a : Int32) : OKw M (f_X8_stop M a) S (gStop S a) := by
  rcases g_stop (S := S) a with ⟨z, e⟩ | ⟨i, hx, rfl, e⟩
  · rw [e]
    refine OKw_bad ?_
    rw [f_X8_stop, show f_X8_in M a 0 1 = some 0 from m_no M (z.imp id (fun q => (ge_nle (n := 2) q (m := 1) (by omega) (by omega)).2)), bO_some, if_pos rfl]
  · rw [e]
    exact (m_stp hm hv hx).w
theorem gi_stop (hv : Inv b S) (hbb : b + 500 < 2 ^ 27) (a : Int32) : Inv (b + 500) (gStop S a).2 := by
  rcases g_stop (S := S) a with ⟨z, e⟩ | ⟨i, hx, rfl, e⟩
  · rw [e]
    exact Inv_le hv (by omega) hbb
  · rw [e]
    exact iv_stop hv i hbb
theorem g_write (a c d : Int32) : (((a < 0 ∨ 4 ≤ a) ∨ (c < 0 ∨ 8 ≤ c) ∨ (d < 0 ∨ 100 ≤ d)) ∧ gWrite S a c d = (-1000001, S)) ∨ ∃ i p v : Nat, i < 4 ∧ p < 8 ∧ v < 100 ∧ a = nI i ∧ c = nI p ∧ d = nI v ∧ gWrite S a c d = aWrite S i p v := by
  by_cases q : (a < 0 ∨ 4 ≤ a) ∨ (c < 0 ∨ 8 ≤ c) ∨ (d < 0 ∨ 100 ≤ d)
  · exact Or.inl ⟨q, by unfold gWrite; rw [if_pos q]⟩
  · rcases pk_ix a (n := 4) (by omega) with h | h | ⟨i, hi, rfl⟩
    · exact absurd (Or.inl (Or.inl h)) q
    · exact absurd (Or.inl (Or.inr h)) q
    · rcases pk_ix c (n := 8) (by omega) with h | h | ⟨p, hp, rfl⟩
      · exact absurd (Or.inr (Or.inl (Or.inl h))) q
      · exact absurd (Or.inr (Or.inl (Or.inr h))) q
      · rcases pk_ix d (n := 100) (by omega) with h | h | ⟨v, hv, rfl⟩
        · exact absurd (Or.inr (Or.inr (Or.inl h))) q
        · exact absurd (Or.inr (Or.inr (Or.inr h))) q
        · refine Or.inr ⟨i, p, v, hi, hp, hv, rfl, rfl, rfl, ?_⟩
          unfold gWrite
          rw [if_neg q, nL_cl (by omega), nL_cl (by omega), nL_cl (by omega)]
theorem gc_write (hc : RC (M j) S) (hv : Inv b S) (a c d : Int32) : CG j M (f_X6_writePage j M a c d) (gWrite S a c d) := by
  rcases g_write (S := S) a c d with ⟨z, e⟩ | ⟨i, p, v, hi, hp, hv1, rfl, rfl, rfl, e⟩
  · rw [e]
    refine CG_bad hc ?_
    rw [f_X6_writePage]
    by_cases y : a < 0
    · rw [if_pos y]
    · rw [if_neg y]
      by_cases y2 : (4 : Int32) ≤ a
      · rw [if_pos y2]
      · rw [if_neg y2]
        by_cases y3 : c < 0
        · rw [if_pos y3]
        · rw [if_neg y3]
          by_cases y4 : (8 : Int32) ≤ c
          · rw [if_neg (show ¬ c < (8 : Int32) from fun q => by
              rw [Int32.le_iff_toInt_le] at y4
              rw [Int32.lt_iff_toInt_lt] at q
              omega)]
          · have y5 : c < (8 : Int32) := by
              rw [Int32.le_iff_toInt_le] at y4
              rw [Int32.lt_iff_toInt_lt]
              omega
            rw [if_pos y5]
            by_cases y6 : d < 0
            · rw [if_pos y6]
            · rw [if_neg y6, if_neg (show ¬ d < (100 : Int32) from fun q => by
                rcases z with z | z | z | z
                · exact z.elim y y2
                · exact z.elim y3 y4
                · exact y6 z
                · rw [Int32.le_iff_toInt_le] at z
                  rw [Int32.lt_iff_toInt_lt] at q
                  omega)]
  · rw [e]
    exact OKc.g (co_write hc hv.1 hi hp hv1)
theorem gm_write (hm : RQ (M 11 29) S) (hv : Inv b S) (a c d : Int32) : OKw M (f_X8_write M a c d) S (gWrite S a c d) := by
  rcases g_write (S := S) a c d with ⟨z, e⟩ | ⟨i, p, v, hi, hp, hv1, rfl, rfl, rfl, e⟩
  · rw [e]
    refine OKw_bad ?_
    rw [f_X8_write]
    rcases pk_ix a (n := 4) (by omega) with h | h | ⟨i, hi, rfl⟩
    · rw [m_no M (Or.inl h), bO_some, if_pos rfl]
    · rw [show f_X8_in M a 0 3 = some 0 from m_no M (Or.inr (ge_nle h (m := 3) (by omega) (by omega)).2), bO_some, if_pos rfl]
    · rw [m_yes3 M (v := i) (by omega), bO_some, if_neg (by decide)]
      rcases pk_ix c (n := 8) (by omega) with h | h | ⟨p, hp, rfl⟩
      · rw [m_no M (Or.inl h), bO_some, if_pos rfl]
      · rw [show f_X8_in M c 0 7 = some 0 from m_no M (Or.inr (ge_nle h (m := 7) (by omega) (by omega)).2), bO_some, if_pos rfl]
      · rw [m_yes7 M (v := p) (by omega), bO_some, if_neg (by decide)]
        rcases z with z | z | z | z
        · exact absurd z (show ¬ (nI i < 0 ∨ (4 : Int32) ≤ nI i) from ix_in hi (by decide))
        · exact absurd z (show ¬ (nI p < 0 ∨ (8 : Int32) ≤ nI p) from ix_in hp (by decide))
        · rw [m_no M (Or.inl z), bO_some, if_pos rfl]
        · rw [show f_X8_in M d 0 99 = some 0 from m_no M (Or.inr (ge_nle (n := 100) z (m := 99) (by omega) (by omega)).2), bO_some, if_pos rfl]
  · rw [e]
    exact (m_write hm hv hi hp hv1).w
theorem gi_write (hv : Inv b S) (hbb : b + 500 < 2 ^ 27) (a c d : Int32) : Inv (b + 500) (gWrite S a c d).2 := by
  rcases g_write (S := S) a c d with ⟨z, e⟩ | ⟨i, p, v, hi, hp, hv1, rfl, rfl, rfl, e⟩
  · rw [e]
    exact Inv_le hv (by omega) hbb
  · rw [e]
    exact iv_write hv hi hp hv1 hbb
theorem gc_dro (hc : RC (M j) S) (hv : Inv b S) : CG j M (f_X6_dropOldRecords j M) (aDro S) := OKc.g (co_dro hc hv.1 (drb_le hv.2.1).1)
theorem gc_rest (hj : j ≠ 7) (hc : RC (M j) S) (hv : Inv b S) : CG j M (f_X5_run j M) (aRest S) := by
  obtain ⟨M', a1, a2, a3, -⟩ := c_rest hj hc hv
  exact ⟨M', a1, a2, a3⟩
end GE
