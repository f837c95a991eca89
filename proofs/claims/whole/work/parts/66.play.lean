/-! texts: how their orders are done -/
def aOrd (S : St) (l a0 a1 a2 : Nat) : Int32 × St :=
  if l = 98 then gBegin S (nI a0) else if l = 119 then gWrite S (nI a0) (nI a1) (nI a2) else if l = 115 then gSettle S (nI a0) else if l = 116 then gTake S (nI a0) else if l = 111 then gOut S (nI a0) else if l = 99 then aChk S else if l = 120 then gStop S 0 else aRest S
abbrev OUT : Type := St × Nat × Nat × Nat × Nat
def RNt (c : Nat → Nat) (tl : Nat) : Nat → Nat → St → Nat → OUT → Prop
  | 0, _, _, _, _ => False
  | f + 1, n, S, k, o => (tl ≤ n ∧ o = (S, 0, 0, 0, k)) ∨ (n < tl ∧ ∃ R, PR c n R ∧ ((R.1 = false ∧ o = (S, 1, n, R.2.1 - n, k)) ∨ (R.1 = true ∧
      (((aOrd S (c n) R.2.2.1 R.2.2.2.1 R.2.2.2.2).1 < 0 ∧ o = (S, (if (aOrd S (c n) R.2.2.1 R.2.2.2.1 R.2.2.2.2).1 = -1000001 then 2 else 3), n, 0, k)) ∨
       (¬ (aOrd S (c n) R.2.2.1 R.2.2.2.1 R.2.2.2.2).1 < 0 ∧ RNt c tl f R.2.1 (aOrd S (c n) R.2.2.1 R.2.2.2.1 R.2.2.2.2).2 (k + 1) o)))))
section PL
variable {M M0 M' : Mem} {S : St} {tl n L m b h k : Nat} {T : Nat → Nat} {P : Nat → St} {R : PRt} {o : OUT}
theorem RNt_ex : ∀ (f n : Nat) (S : St) (k : Nat), n ≤ tl → tl < n + f → ∃ o, RNt (sgn T tl) tl f n S k o
  | 0, n, S, k, h1, h2 => by omega
  | f + 1, n, S, k, h1, h2 => by
    by_cases q : tl ≤ n
    · exact ⟨_, Or.inl ⟨q, rfl⟩⟩
    · obtain ⟨R, hR⟩ := PR_ex (sgn T tl) n
      cases e : R.1
      · exact ⟨_, Or.inr ⟨by omega, R, hR, Or.inl ⟨e, rfl⟩⟩⟩
      · obtain ⟨z1, z2, -⟩ := PR_ok hR e
        by_cases z : (aOrd S (sgn T tl n) R.2.2.1 R.2.2.2.1 R.2.2.2.2).1 < 0
        · exact ⟨_, Or.inr ⟨by omega, R, hR, Or.inr ⟨e, Or.inl ⟨z, rfl⟩⟩⟩⟩
        · obtain ⟨o, ho⟩ := RNt_ex f R.2.1 (aOrd S (sgn T tl n) R.2.2.1 R.2.2.2.1 R.2.2.2.2).2 (k + 1) z2 (by omega)
          exact ⟨o, Or.inr ⟨by omega, R, hR, Or.inr ⟨e, Or.inr ⟨z, ho⟩⟩⟩⟩
theorem iv_ord (hv : Inv b S) (hbb : b + 500 < 2 ^ 27) (l a0 a1 a2 : Nat) : Inv (b + 500) (aOrd S l a0 a1 a2).2 := by
  unfold aOrd
  split
  · exact gi_begin hv hbb _
  · split
    · exact gi_write hv hbb _ _ _
    · split
      · exact gi_settle hv hbb _
      · split
        · exact gi_take hv hbb _
        · split
          · exact gi_out hv hbb _
          · split
            · exact iv_chk hv hbb
            · split
              · exact gi_stop hv hbb _
              · exact iv_rest hv hbb
theorem RNt_iv : ∀ (f n : Nat) (S : St) (k b : Nat), RNt (sgn T tl) tl f n S k o → Inv b S → b + 500 * f < 2 ^ 27 → Inv (b + 500 * f) o.1 ∧ o.2.2.2.2 ≤ k + f
  | 0, n, S, k, b, h, _, _ => h.elim
  | f + 1, n, S, k, b, h, hv, hb => by
    rcases h with ⟨h1, rfl⟩ | ⟨h1, R, hR, ⟨h2, rfl⟩ | ⟨h2, ⟨h3, rfl⟩ | ⟨h3, h4⟩⟩⟩
    · exact ⟨Inv_le hv (by omega) hb, by show k ≤ _; omega⟩
    · exact ⟨Inv_le hv (by omega) hb, by show k ≤ _; omega⟩
    · exact ⟨Inv_le hv (by omega) hb, by show k ≤ _; omega⟩
    · have hb' : b + 500 < 2 ^ 27 := Nat.lt_of_le_of_lt (by omega) hb
      have hv' := iv_ord hv hb' (sgn T tl n) R.2.2.1 R.2.2.2.1 R.2.2.2.2
      have hb2 : b + 500 + 500 * f < 2 ^ 27 := Nat.lt_of_le_of_lt (by omega) hb
      obtain ⟨a, c⟩ := RNt_iv f _ _ (k + 1) (b + 500) h4 hv' hb2
      exact ⟨by rw [show b + 500 * (f + 1) = b + 500 + 500 * f by omega]; exact a, by omega⟩
theorem PR_let (hR : PR (sgn T tl) n R) (e : R.1 = true) : sgn T tl n = 98 ∨ sgn T tl n = 99 ∨ sgn T tl n = 111 ∨ sgn T tl n = 114 ∨ sgn T tl n = 115 ∨ sgn T tl n = 116 ∨ sgn T tl n = 119 ∨ sgn T tl n = 120 := by
  rcases hR with ⟨h1, -⟩ | ⟨h1, -⟩ | ⟨h1, -⟩ | ⟨h1, rfl⟩
  · omega
  · omega
  · omega
  · cases e
theorem c_ord {l a0 a1 a2 : Nat} (hc : RC (M 1) S) (hv : Inv b S) (hl : l = 98 ∨ l = 99 ∨ l = 111 ∨ l = 114 ∨ l = 115 ∨ l = 116 ∨ l = 119 ∨ l = 120) (e3 : M 9 25 3 = nI l) (e4 : ¬ (l = 99 ∨ l = 120 ∨ l = 114) → M 9 25 4 = nI a0) (e5 : l = 119 → M 9 25 5 = nI a1 ∧ M 9 25 6 = nI a2) : CG 1 M (f_X7_doOrder M) (aOrd S l a0 a1 a2) := by
  rw [f_X7_doOrder, e3]
  rcases hl with rfl | rfl | rfl | rfl | rfl | rfl | rfl | rfl
  · have eo : aOrd S 98 a0 a1 a2 = gBegin S (nI a0) := rfl
    rw [if_pos (by decide), e4 (by omega), eo]
    obtain ⟨M', a1', a2', a3'⟩ := gc_begin hc hv (nI a0)
    exact ⟨M', by rw [a1', bP_some], a2', a3'⟩
  · have eo : aOrd S 99 a0 a1 a2 = aChk S := rfl
    rw [if_neg (by decide), if_pos (by decide), eo]
    obtain ⟨M', a1', a2', a3'⟩ := (co_chk hc hv.1).g
    exact ⟨M', by rw [a1', bP_some], a2', a3'⟩
  · have eo : aOrd S 111 a0 a1 a2 = gOut S (nI a0) := rfl
    rw [if_neg (by decide), if_neg (by decide), if_neg (by decide), if_neg (by decide), if_neg (by decide), if_neg (by decide), if_neg (by decide), if_neg (by decide), if_neg (by decide), if_neg (by decide), if_neg (by decide), if_neg (by decide), if_neg (by decide), if_pos (by decide), e4 (by omega), eo]
    obtain ⟨M', a1', a2', a3'⟩ := gc_out hc hv (nI a0)
    exact ⟨M', by rw [a1', bP_some], a2', a3'⟩
  · have eo : aOrd S 114 a0 a1 a2 = aRest S := rfl
    rw [if_neg (by decide), if_neg (by decide), if_neg (by decide), if_neg (by decide), if_neg (by decide), if_neg (by decide), if_neg (by decide), if_neg (by decide), if_neg (by decide), if_neg (by decide), if_neg (by decide), if_neg (by decide), if_neg (by decide), if_neg (by decide), if_neg (by decide), if_neg (by decide), if_pos (by decide), f_X7_doOrder_L218, eo]
    obtain ⟨M', a1', a2', a3'⟩ := gc_rest (by omega) hc hv
    exact ⟨M', by rw [a1', bP_some], a2', a3'⟩
  · have eo : aOrd S 115 a0 a1 a2 = gSettle S (nI a0) := rfl
    rw [if_neg (by decide), if_neg (by decide), if_neg (by decide), if_neg (by decide), if_neg (by decide), if_neg (by decide), if_neg (by decide), if_neg (by decide), if_neg (by decide), if_neg (by decide), if_neg (by decide), if_neg (by decide), if_neg (by decide), if_neg (by decide), if_neg (by decide), if_neg (by decide), if_neg (by decide), if_pos (by decide), e4 (by omega), eo]
    obtain ⟨M', a1', a2', a3'⟩ := gc_settle hc hv (nI a0)
    exact ⟨M', by rw [a1', bP_some], a2', a3'⟩
  · have eo : aOrd S 116 a0 a1 a2 = gTake S (nI a0) := rfl
    rw [if_neg (by decide), if_neg (by decide), if_neg (by decide), if_neg (by decide), if_neg (by decide), if_neg (by decide), if_neg (by decide), if_neg (by decide), if_neg (by decide), if_neg (by decide), if_neg (by decide), if_neg (by decide), if_neg (by decide), if_neg (by decide), if_neg (by decide), if_neg (by decide), if_neg (by decide), if_neg (by decide), if_pos (by decide), e4 (by omega), eo]
    obtain ⟨M', a1', a2', a3'⟩ := gc_take hc hv (nI a0)
    exact ⟨M', by rw [a1', bP_some], a2', a3'⟩
  · have eo : aOrd S 119 a0 a1 a2 = gWrite S (nI a0) (nI a1) (nI a2) := rfl
    rw [if_neg (by decide), if_neg (by decide), if_neg (by decide), if_neg (by decide), if_neg (by decide), if_neg (by decide), if_neg (by decide), if_neg (by decide), if_neg (by decide), if_neg (by decide), if_neg (by decide), if_neg (by decide), if_neg (by decide), if_neg (by decide), if_neg (by decide), if_neg (by decide), if_neg (by decide), if_neg (by decide), if_neg (by decide), if_neg (by decide), if_neg (by decide), if_pos (by decide), e4 (by omega), (e5 rfl).1, (e5 rfl).2, eo]
    obtain ⟨M', a1', a2', a3'⟩ := gc_write hc hv (nI a0) (nI a1) (nI a2)
    exact ⟨M', by rw [a1', bP_some], a2', a3'⟩
  · have eo : aOrd S 120 a0 a1 a2 = gStop S 0 := rfl
    rw [if_neg (by decide), if_neg (by decide), if_neg (by decide), if_neg (by decide), if_neg (by decide), if_neg (by decide), if_neg (by decide), if_neg (by decide), if_neg (by decide), if_neg (by decide), if_neg (by decide), if_neg (by decide), if_neg (by decide), if_neg (by decide), if_neg (by decide), if_neg (by decide), if_neg (by decide), if_neg (by decide), if_neg (by decide), if_neg (by decide), if_neg (by decide), if_neg (by decide), if_pos (by decide), eo]
    obtain ⟨M', a1', a2', a3'⟩ := gc_stop hc hv 0
    exact ⟨M', by rw [a1', bP_some], a2', a3'⟩
theorem OKw_run {x : Option (Int32 × Mem)} {r : Int32 × St} (hr : M 11 28 5 = 1) (hm : RQ (M 11 29) S) (hx : OKw M x S r) : ∃ M', x = some (r.1, M') ∧ RQ (M' 11 29) r.2 ∧ FW M M' ∧ (r.1 < 0 → r.2 = S) := by
  rcases hx with ⟨a1, a2, a3⟩ | ⟨a1, a2⟩
  · exact ⟨M, a3, by rw [a2]; exact hm, FW.rf, fun _ => a2⟩
  · obtain ⟨M', b1, b2, b3⟩ := a2 M (by rw [f_X8_changes, hr, if_neg (by decide)]) rfl
    exact ⟨M', b1, b2, b3, fun z => absurd z a1⟩
theorem m_ord {l a0 a1 a2 : Nat} (hr : M 11 28 5 = 1) (hm : RQ (M 11 29) S) (hv : Inv b S) (hbb : b + 500 < 2 ^ 27) (hl : l = 98 ∨ l = 99 ∨ l = 111 ∨ l = 114 ∨ l = 115 ∨ l = 116 ∨ l = 119 ∨ l = 120) (e4 : ¬ (l = 99 ∨ l = 120 ∨ l = 114) → M 11 35 0 = nI a0) (e5 : l = 119 → M 11 35 1 = nI a1 ∧ M 11 35 2 = nI a2) : ∃ M', f_X8_calls M (nI l) = some ((aOrd S l a0 a1 a2).1, M') ∧ RQ (M' 11 29) (aOrd S l a0 a1 a2).2 ∧ FW M M' ∧ ((aOrd S l a0 a1 a2).1 < 0 → (aOrd S l a0 a1 a2).2 = S) := by
  rw [f_X8_calls]
  rcases hl with rfl | rfl | rfl | rfl | rfl | rfl | rfl | rfl
  · have eo : aOrd S 98 a0 a1 a2 = gBegin S (nI a0) := rfl
    rw [if_pos (by decide), e4 (by omega), eo]
    obtain ⟨M', a1', a2', a3', a4'⟩ := OKw_run hr hm (gm_begin hm hv hbb (nI a0))
    exact ⟨M', by rw [a1', bP_some], a2', a3', a4'⟩
  · have eo : aOrd S 99 a0 a1 a2 = aChk S := rfl
    rw [if_neg (by decide), if_pos (by decide), eo]
    obtain ⟨M', a1', a2', a3', a4'⟩ := OKw_run hr hm ((m_chk hm hv).w)
    exact ⟨M', by rw [a1', bP_some], a2', a3', a4'⟩
  · have eo : aOrd S 111 a0 a1 a2 = gOut S (nI a0) := rfl
    rw [if_neg (by decide), if_neg (by decide), if_neg (by decide), if_neg (by decide), if_neg (by decide), if_neg (by decide), if_neg (by decide), if_neg (by decide), if_neg (by decide), if_neg (by decide), if_neg (by decide), if_neg (by decide), if_neg (by decide), if_pos (by decide), e4 (by omega), eo]
    obtain ⟨M', a1', a2', a3', a4'⟩ := OKw_run hr hm (gm_out hm hv hbb (nI a0))
    exact ⟨M', by rw [a1', bP_some], a2', a3', a4'⟩
  · have eo : aOrd S 114 a0 a1 a2 = aRest S := rfl
    rw [if_neg (by decide), if_neg (by decide), if_neg (by decide), if_neg (by decide), if_neg (by decide), if_neg (by decide), if_neg (by decide), if_neg (by decide), if_neg (by decide), if_neg (by decide), if_neg (by decide), if_neg (by decide), if_neg (by decide), if_neg (by decide), if_neg (by decide), if_neg (by decide), if_pos (by decide), f_X8_calls_L186, eo]
    obtain ⟨M', a1', a2', a3', a4'⟩ := OKw_run hr hm (m_rest hm hv hbb)
    exact ⟨M', by rw [a1', bP_some], a2', a3', a4'⟩
  · have eo : aOrd S 115 a0 a1 a2 = gSettle S (nI a0) := rfl
    rw [if_neg (by decide), if_neg (by decide), if_neg (by decide), if_neg (by decide), if_neg (by decide), if_neg (by decide), if_neg (by decide), if_neg (by decide), if_neg (by decide), if_neg (by decide), if_neg (by decide), if_neg (by decide), if_neg (by decide), if_neg (by decide), if_neg (by decide), if_neg (by decide), if_neg (by decide), if_pos (by decide), e4 (by omega), eo]
    obtain ⟨M', a1', a2', a3', a4'⟩ := OKw_run hr hm (gm_settle hm hv hbb (nI a0))
    exact ⟨M', by rw [a1', bP_some], a2', a3', a4'⟩
  · have eo : aOrd S 116 a0 a1 a2 = gTake S (nI a0) := rfl
    rw [if_neg (by decide), if_neg (by decide), if_neg (by decide), if_neg (by decide), if_neg (by decide), if_neg (by decide), if_neg (by decide), if_neg (by decide), if_neg (by decide), if_neg (by decide), if_neg (by decide), if_neg (by decide), if_neg (by decide), if_neg (by decide), if_neg (by decide), if_neg (by decide), if_neg (by decide), if_neg (by decide), if_pos (by decide), e4 (by omega), eo]
    obtain ⟨M', a1', a2', a3', a4'⟩ := OKw_run hr hm (gm_take hm hv hbb (nI a0))
    exact ⟨M', by rw [a1', bP_some], a2', a3', a4'⟩
  · have eo : aOrd S 119 a0 a1 a2 = gWrite S (nI a0) (nI a1) (nI a2) := rfl
    rw [if_neg (by decide), if_neg (by decide), if_neg (by decide), if_neg (by decide), if_neg (by decide), if_neg (by decide), if_neg (by decide), if_neg (by decide), if_neg (by decide), if_neg (by decide), if_neg (by decide), if_neg (by decide), if_neg (by decide), if_neg (by decide), if_neg (by decide), if_neg (by decide), if_neg (by decide), if_neg (by decide), if_neg (by decide), if_neg (by decide), if_neg (by decide), if_pos (by decide), e4 (by omega), (e5 rfl).1, (e5 rfl).2, eo]
    obtain ⟨M', a1', a2', a3', a4'⟩ := OKw_run hr hm (gm_write hm hv (nI a0) (nI a1) (nI a2))
    exact ⟨M', by rw [a1', bP_some], a2', a3', a4'⟩
  · have eo : aOrd S 120 a0 a1 a2 = gStop S 0 := rfl
    rw [if_neg (by decide), if_neg (by decide), if_neg (by decide), if_neg (by decide), if_neg (by decide), if_neg (by decide), if_neg (by decide), if_neg (by decide), if_neg (by decide), if_neg (by decide), if_neg (by decide), if_neg (by decide), if_neg (by decide), if_neg (by decide), if_neg (by decide), if_neg (by decide), if_neg (by decide), if_neg (by decide), if_neg (by decide), if_neg (by decide), if_neg (by decide), if_neg (by decide), if_pos (by decide), eo]
    obtain ⟨M', a1', a2', a3', a4'⟩ := OKw_run hr hm (gm_stop hm hv hbb 0)
    exact ⟨M', by rw [a1', bP_some], a2', a3', a4'⟩
theorem t10 (M : Mem) (i : Nat) (v : Int32) (j : Nat) : st M 10 27 i v 10 27 j = if j = i then v else M 10 27 j := by
  rw [st_get]
  by_cases e : j = i
  · rw [if_pos ⟨rfl, rfl, e⟩, if_pos e]
  · rw [if_neg (fun q => e q.2.2), if_neg e]
theorem TC.g (h : TC M tl T) (e : M' 9 = M 9) : TC M' tl T := by
  unfold TC
  rw [e]
  exact h
theorem FT.g (h : FT M M') {i : Nat} (hi : i ≠ 9) : M' i = M i := by
  funext r j
  exact h i r j (by omega)
theorem ge0 {x : Int32} : (0 : Int32) ≤ x ↔ ¬ x < 0 := by
  rw [Int32.lt_iff_toInt_lt, Int32.le_iff_toInt_le]
  omega
/-- what the class's trial leaves -/
def TR (tl : Nat) (T : Nat → Nat) (o : OUT) (M M' : Mem) : Prop := (∀ i, i ≠ 1 → i ≠ 7 → i ≠ 9 → i ≠ 10 → M' i = M i) ∧ TC M' tl T ∧ M' 10 27 6 = nI o.2.1 ∧ (o.2.1 ≠ 0 → M' 10 27 5 = nI o.2.2.1) ∧ (o.2.1 = 1 → M' 9 25 7 = nI o.2.2.2.1) ∧ (o.2.1 = 0 → RC (M' 1) o.1 ∧ M' 10 27 7 = nI o.2.2.2.2)
theorem c_loop : ∀ (f n : Nat) (S : St) (k b i fu : Nat) (M : Mem), RNt (sgn T tl) tl f n S k o → TC M tl T → M 9 25 2 = nI n → RC (M 1) S → Inv b S → b + 500 * f < 2 ^ 27 → M 10 27 7 = nI k → M 10 27 6 = 0 → 2 * i ≤ n → n ≤ tl → f ≤ fu → ∃ M', itr (f_X7_tryText_L31) (fun _ _ => none) fu M (nI i) = some M' ∧ TR tl T o M M' := by
  intro f
  induction f with
  | zero => intro n S k b i fu M h; exact h.elim
  | succ f ih =>
    intro n S k b i fu M h hT h2 hc hv hb h7 h6 hi hn hf
    obtain ⟨g, rfl⟩ : ∃ g, fu = g + 1 := ⟨fu - 1, by omega⟩
    have h80 := hT.1
    rw [itr_s, f_X7_tryText_L31, if_neg (by rw [nl80, nL_le (by omega) (by omega)]; omega), hT.2.1, h2]
    rcases h with ⟨q, rfl⟩ | ⟨q, R, hR, hq⟩
    · rw [if_pos (by rw [nL_le (by omega) (by omega)]; exact q)]
      exact ⟨M, rfl, fun _ _ _ _ _ => rfl, hT, h6, fun z => absurd rfl z, fun z => (nomatch z), fun _ => ⟨hc, h7⟩⟩
    · rw [if_neg (by rw [nL_le (by omega) (by omega)]; omega), bd]
      have T8 : TC (st M 10 27 5 (nI n)) tl T := hT.g (st_fr (by omega))
      obtain ⟨M10, e10, f10, t10', k2, kt, kf⟩ := t_read T8 (by rw [st_fr (by omega)]; exact h2) q hR
      have g10 : ∀ i, i ≠ 9 → i ≠ 10 → M10 i = M i := fun i a c => by rw [f10.g a, st_fr c]
      have z5 : ∀ j, M10 10 27 j = if j = 5 then nI n else M 10 27 j := fun j => by rw [f10.g (by omega), t10]
      rw [e10, bP_some]
      rcases hq with ⟨r1, rfl⟩ | ⟨r1, hq⟩
      · rw [r1, if_pos (show b01 false = 0 from rfl), f_X7_tryText_L87, bd, t10, if_pos rfl, if_neg (by decide)]
        refine ⟨_, rfl, fun i a1 a2 a3 a4 => by rw [st_fr a4]; exact g10 i a3 a4, t10'.g (st_fr (by omega)), by rw [t10, if_pos rfl]; rfl, fun _ => by rw [t10, if_neg (by omega), z5, if_pos rfl], fun _ => by rw [st_fr (by omega)]; exact kf r1, fun z => (nomatch z)⟩
      · rw [r1, if_neg (show ¬ b01 true = 0 by decide)]
        obtain ⟨k3, k4, k5⟩ := kt r1
        obtain ⟨z1, z2, z3, z4, z6⟩ := PR_ok hR r1
        obtain ⟨M17, e17, c17, f17⟩ := c_ord (b := b) (by rw [g10 1 (by omega) (by omega)]; exact hc) hv (PR_let hR r1) k3 k4 k5
        obtain ⟨r, er⟩ : ∃ r, r = aOrd S (sgn T tl n) R.2.2.1 R.2.2.2.1 R.2.2.2.2 := ⟨_, rfl⟩
        rw [← er] at e17 c17 hq
        have hb' : b + 500 < 2 ^ 27 := Nat.lt_of_le_of_lt (by omega) hb
        have hv' := iv_ord hv hb' (sgn T tl n) R.2.2.1 R.2.2.2.1 R.2.2.2.2
        rw [← er] at hv'
        have g17 : ∀ i, i ≠ 1 → i ≠ 7 → i ≠ 9 → i ≠ 10 → M17 i = M i := fun i a1 a2 a3 a4 => by rw [f17 i a1 a2, g10 i a3 a4]
        have y5 : ∀ j, M17 10 27 j = if j = 5 then nI n else M 10 27 j := fun j => by rw [f17 10 (by omega) (by omega), z5]
        have T17 : TC M17 tl T := t10'.g (f17 9 (by omega) (by omega))
        rw [e17, bP_some, f_X7_reasonOf]
        rcases hq with ⟨q1, rfl⟩ | ⟨q1, hq⟩
        · have fin : ∀ z : Nat, z ≠ 0 → z ≠ 1 → z < 10 → ∃ M', f_X7_tryText_L87 (itr (f_X7_tryText_L31) (fun _ _ => none) g) M17 (nI i) (nI z) = some M' ∧ TR tl T (S, z, n, 0, k) M M' := fun z z0 z1 zb => by
            rw [f_X7_tryText_L87, bd, t10, if_pos rfl, if_neg (by rw [nl0, nL_eq (by omega) (by omega)]; exact z0)]
            exact ⟨_, rfl, fun i a1 a2 a3 a4 => by rw [st_fr a4]; exact g17 i a1 a2 a3 a4, T17.g (st_fr (by omega)), by rw [t10, if_pos rfl], fun _ => by rw [t10, if_neg (by omega), y5, if_pos rfl], fun y => absurd y z1, fun y => absurd y z0⟩
          by_cases y : r.1 = -1000001
          · rw [if_pos y, bO_some, if_pos y]
            exact fin 2 (by omega) (by omega) (by omega)
          · rw [if_neg y, if_neg (fun z => ge0.mp z q1), bO_some, if_neg y]
            exact fin 3 (by omega) (by omega) (by omega)
        · rw [if_neg (fun y => q1 (by rw [y]; decide)), if_pos (ge0.mpr q1), bO_some, f_X7_tryText_L87, bd, t10, if_pos rfl, if_pos rfl, bd, t10, if_neg (by omega), y5, if_neg (by omega), h7, nI_1, bd, nI_1]
          obtain ⟨M', a1, a2, a3, a4, a5, a6, a7⟩ := ih R.2.1 r.2 (k + 1) (b + 500) (i + 1) g (st (st M17 10 27 6 0) 10 27 7 (nI (k + 1))) hq (T17.g (by rw [st_fr (by omega), st_fr (by omega)])) (by rw [st_fr (by omega), st_fr (by omega), f17 9 (by omega) (by omega)]; exact k2) (by rw [st_fr (by omega), st_fr (by omega)]; exact c17) hv' (by omega) (by rw [t10, if_pos rfl]) (by rw [t10, if_neg (by omega), t10, if_pos rfl]) (by omega) z2 (by omega)
          exact ⟨M', a1, fun i b1 b2 b3 b4 => by rw [a2 i b1 b2 b3 b4, st_fr b4, st_fr b4]; exact g17 i b1 b2 b3 b4, a3, a4, a5, a6, a7⟩
theorem c_try (hc : RC (M 0) S) (hv : Inv b S) (hb : b + 50000 < 2 ^ 27) (hT : TC M tl T) (hR : RNt (sgn T tl) tl 81 0 S 0 o) : ∃ M', f_X7_tryText M = some M' ∧ TR tl T o M M' := by
  obtain ⟨hN, h5⟩ := Inv_n hv
  obtain ⟨M2, e2, c2, f2⟩ := cl_copy (j := 0) (k := 1) (by omega) hc hN h5
  have T2 : TC M2 tl T := hT.g (f2 9 (by omega))
  have T5 : TC (st (st (st M2 10 27 6 0) 10 27 7 0) 9 25 2 0) tl T := (T2.g (by rw [st_fr (by omega), st_fr (by omega)])).s (by omega)
  obtain ⟨M', a1, a2, a3, a4, a5, a6, a7⟩ := c_loop 81 0 S 0 b 0 FU (st (st (st M2 10 27 6 0) 10 27 7 0) 9 25 2 0) hR T5 (by rw [t9, if_pos rfl]; rfl) (by rw [st_fr (by omega), st_fr (by omega), st_fr (by omega)]; exact c2) hv (by omega) (by rw [st_fr (by omega), t10, if_pos rfl]; rfl) (by rw [st_fr (by omega), t10, if_neg (by omega), t10, if_pos rfl]) (by omega) (by omega) (by decide)
  refine ⟨M', ?_, fun i b1 b2 b3 b4 => by rw [a2 i b1 b2 b3 b4, st_fr b3, st_fr b4, st_fr b4, f2 i b1], a3, a4, a5, a6, a7⟩
  rw [f_X7_tryText, e2, bO_some, bd, bd, bd]
  exact a1
/-- what playing leaves in the model -/
def FX (M M' : Mem) : Prop := ∀ g r i, ¬ (g = 11 ∧ (r = 29 ∨ r = 34 ∨ r = 35 ∨ (r = 28 ∧ (i = 5 ∨ (9 ≤ i ∧ i ≤ 14))))) → M' g r i = M g r i
def TS (o : OUT) (M M' : Mem) : Prop := FX M M' ∧ M' 11 28 12 = nI o.2.1 ∧ M' 11 28 5 = 0 ∧ (o.2.1 = 1 → M' 11 28 13 = nI o.2.2.2.1) ∧ (o.2.1 = 0 → RQ (M' 11 29) o.1 ∧ M' 11 28 14 = nI o.2.2.2.2)
theorem t28 (M : Mem) (i : Nat) (v : Int32) (j : Nat) : st M 11 28 i v 11 28 j = if j = i then v else M 11 28 j := by
  rw [st_get]
  by_cases e : j = i
  · rw [if_pos ⟨rfl, rfl, e⟩, if_pos e]
  · rw [if_neg (fun q => e q.2.2), if_neg e]
theorem FX.rf : FX M M := fun _ _ _ _ => rfl
theorem FX.tr {M1 M2 : Mem} (h : FX M M1) (h2 : FX M1 M2) : FX M M2 := fun g r i q => (h2 g r i q).trans (h g r i q)
theorem FX.s {i : Nat} {v : Int32} (h : FX M0 M) (hi : i = 5 ∨ (9 ≤ i ∧ i ≤ 14)) : FX M0 (st M 11 28 i v) := fun g r j q => by
  rw [st_get, if_neg (by omega)]
  exact h g r j q
theorem FQ.x (h : FQ M M') : FX M M' := fun g r i q => h g r i (by omega)
theorem FW.x (h : FW M M') : FX M M' := fun g r i q => h g r i (by omega)
theorem TM.x (h : TM M tl T) (f : FX M M') : TM M' tl T := by
  obtain ⟨h1, h2, h3⟩ := h
  exact ⟨h1, by rw [f 11 28 7 (by omega)]; exact h2, fun i hi => ⟨(h3 i hi).1, by rw [f 11 33 i (by omega)]; exact (h3 i hi).2⟩⟩
theorem m_stop132 (y : Int32) {z : Nat} (h12 : M 11 28 12 = nI z) (z0 : z ≠ 0) (zb : z < 10) : f_X8_plays_L132 M y = some (y, st M 11 28 5 0) := by
  rw [f_X8_plays_L132, bd, show st M 11 28 5 0 11 28 12 = nI z by rw [t28, if_neg (by omega)]; exact h12, if_neg (by rw [nl0, nL_eq (by omega) (by omega)]; exact z0)]
theorem m_loop : ∀ (f n : Nat) (S : St) (k b fu : Nat) (y : Int32) (M : Mem), RNt (sgn T tl) tl f n S k o → TM M tl T → M 11 28 11 = nI n → RQ (M 11 29) S → Inv b S → b + 500 * f < 2 ^ 27 → M 11 28 5 = 1 → M 11 28 14 = nI k → M 11 28 12 = 0 → n ≤ tl → f < fu → ∃ M', itr (f_X8_plays_L22) (fun _ _ => none) fu M y = some (if o.2.1 = 0 then -1000004 else nI o.2.2.1, M') ∧ TS o M M' := by
  intro f
  induction f with
  | zero => intro n S k b fu y M h; exact h.elim
  | succ f ih =>
    intro n S k b fu y M h hT h2 hm hv hb h5 h14 h12 hn hf
    obtain ⟨g, rfl⟩ : ∃ g, fu = g + 1 := ⟨fu - 1, by omega⟩
    obtain ⟨g', rfl⟩ : ∃ g', g = g' + 1 := ⟨g - 1, by omega⟩
    have h80 := hT.1
    rw [itr_s, f_X8_plays_L22, hT.2.1, h2]
    rcases h with ⟨q, rfl⟩ | ⟨q, R, hR, hq⟩
    · rw [if_pos (by rw [nL_le (by omega) (by omega)]; exact q), f_X8_plays_L132, bd, show st M 11 28 5 0 11 28 12 = 0 by rw [t28, if_neg (by omega)]; exact h12, if_pos rfl]
      exact ⟨_, rfl, FX.rf.s (by omega), by rw [t28, if_neg (by omega)]; exact h12, by rw [t28, if_pos rfl], fun z => (nomatch z), fun _ => ⟨by rw [st29 (by omega)]; exact hm, by rw [t28, if_neg (by omega)]; exact h14⟩⟩
    · have hs : sgn T tl n = T n := by unfold sgn; rw [if_pos q]
      rw [if_neg (by rw [nL_le (by omega) (by omega)]; omega), h12, if_pos rfl, bd, gd_in (by omega) (by omega), nL_cl (by omega), (hT.2.2 n q).2, ← hs, bd]
      obtain ⟨M13, e13, ⟨k1, k2, k3⟩, kt⟩ := m_form hT h2 q hR
      have ge : n ≤ R.2.1 := by
        rcases hR with ⟨h1, ⟨h2, rfl⟩ | ⟨h2, rfl⟩⟩ | ⟨h1, ⟨h2, rfl⟩ | ⟨h2, ⟨h3, rfl⟩ | ⟨h3, rfl⟩⟩⟩ | ⟨h1, ⟨d1, rfl⟩ | ⟨d1, ⟨d2, rfl⟩ | ⟨d2, ⟨d3, rfl⟩ | ⟨d3, ⟨d4, rfl⟩ | ⟨d4, ⟨d5, rfl⟩ | ⟨d5, ⟨d6, ⟨d7, rfl⟩ | ⟨d7, rfl⟩⟩ | ⟨d6, ⟨d7, rfl⟩ | ⟨d7, rfl⟩⟩⟩⟩⟩⟩⟩⟩ | ⟨h1, rfl⟩ <;> first | exact Nat.le_add_right n _ | exact Nat.le_refl n
      have f14 : FX M (st M13 11 28 13 (nI (R.2.1 - n))) := k3.x.s (by omega)
      rw [e13, bP_some, k2, nL_sub ge, bd]
      -- an error is told in one turn more
      have fin : ∀ (z : Nat) (M1 : Mem), z ≠ 0 → z < 10 → FX M M1 → (z = 1 → M1 11 28 13 = nI (R.2.1 - n)) → ∃ M', f_X8_plays_L116 (itr (f_X8_plays_L22) (fun _ _ => none) (g' + 1)) M1 (nI n) (nI z) = some (nI n, M') ∧ TS (S, z, n, (if z = 1 then R.2.1 - n else 0), k) M M' := fun z M1 z0 zb f1 z13 => by
        rw [f_X8_plays_L116, bd, bd, itr_s, f_X8_plays_L22]
        obtain ⟨M20, e20⟩ : ∃ M20, M20 = st (st M1 11 28 12 (nI z)) 11 28 14 (st M1 11 28 12 (nI z) 11 28 14 + 1) := ⟨_, rfl⟩
        rw [← e20]
        have y12 : M20 11 28 12 = nI z := by rw [e20, t28, if_neg (by omega), t28, if_pos rfl]
        have y13 : M20 11 28 13 = M1 11 28 13 := by rw [e20, t28, if_neg (by omega), t28, if_neg (by omega)]
        have f20 : FX M M20 := by rw [e20]; exact (f1.s (by omega)).s (by omega)
        have st' := m_stop132 (nI n) y12 z0 zb
        have res : TS (S, z, n, (if z = 1 then R.2.1 - n else 0), k) M (st M20 11 28 5 0) := ⟨f20.s (by omega), by rw [t28, if_neg (by omega)]; exact y12, by rw [t28, if_pos rfl], fun e => by
          have e : z = 1 := e
          rw [t28, if_neg (by omega), y13, z13 e]
          show _ = nI (if z = 1 then R.2.1 - n else 0)
          rw [if_pos e], fun e => absurd e z0⟩
        refine ⟨_, ?_, res⟩
        by_cases w : M20 11 28 7 ≤ M20 11 28 11
        · rw [if_pos w, st']
        · rw [if_neg w, y12, if_neg (by rw [nl0, nL_eq (by omega) (by omega)]; exact z0), st']
      rcases hq with ⟨r1, rfl⟩ | ⟨r1, hq⟩
      · rw [r1, if_pos (show b01 false = 0 from rfl), f_X8_plays_L84, if_pos (show b01 false = 0 from rfl)]
        obtain ⟨M', a1, a2⟩ := fin 1 _ (by omega) (by omega) f14 (fun _ => by rw [t28, if_pos rfl])
        exact ⟨M', a1, a2⟩
      · rw [r1, if_neg (show ¬ b01 true = 0 by decide)]
        obtain ⟨k4, k5⟩ := kt r1
        obtain ⟨z1, z2, z3, z4, z6⟩ := PR_ok hR r1
        have e35 : ∀ j, st M13 11 28 13 (nI (R.2.1 - n)) 11 35 j = M13 11 35 j := fun j => by rw [st_get, if_neg (by omega)]
        obtain ⟨M22, e22, c22, f22, s22⟩ := m_ord (M := st M13 11 28 13 (nI (R.2.1 - n))) (b := b) (l := sgn T tl n) (a0 := R.2.2.1) (a1 := R.2.2.2.1) (a2 := R.2.2.2.2) (by rw [t28, if_neg (by omega), k3 11 28 5 (by omega)]; exact h5) (by
          rw [st29 (by omega)]
          have : M13 11 29 = M 11 29 := by funext j; exact k3 11 29 j (by omega)
          rw [this]; exact hm) hv (Nat.lt_of_le_of_lt (by omega) hb) (PR_let hR r1) (fun z => by rw [e35]; exact k4 z) (fun z => ⟨by rw [e35]; exact (k5 z).1, by rw [e35]; exact (k5 z).2⟩)
        obtain ⟨r, er⟩ : ∃ r, r = aOrd S (sgn T tl n) R.2.2.1 R.2.2.2.1 R.2.2.2.2 := ⟨_, rfl⟩
        rw [← er] at e22 c22 hq s22
        have hb' : b + 500 < 2 ^ 27 := Nat.lt_of_le_of_lt (by omega) hb
        have hv' := iv_ord hv hb' (sgn T tl n) R.2.2.1 R.2.2.2.1 R.2.2.2.2
        rw [← er] at hv'
        have f22' : FX M M22 := f14.tr f22.x
        rw [e22, bP_some, f_X8_plays_L84, if_neg (show ¬ b01 true = 0 by decide)]
        rcases hq with ⟨q1, rfl⟩ | ⟨q1, hq⟩
        · rw [if_pos q1]
          by_cases y' : r.1 = -1000001
          · rw [if_pos y', if_pos y']
            obtain ⟨M', a1, a2⟩ := fin 2 M22 (by omega) (by omega) f22' (fun z => by omega)
            exact ⟨M', a1, a2⟩
          · rw [if_neg y', if_neg y']
            obtain ⟨M', a1, a2⟩ := fin 3 M22 (by omega) (by omega) f22' (fun z => by omega)
            exact ⟨M', a1, a2⟩
        · rw [if_neg q1, f_X8_plays_L116, bd, bd, t28, if_neg (by omega), f22 11 28 14 (by omega), t28, if_neg (by omega), k3 11 28 14 (by omega), h14, nI_1]
          have fA : FX M (st (st M22 11 28 12 0) 11 28 14 (nI (k + 1))) := (f22'.s (by omega)).s (by omega)
          obtain ⟨M', a1, a2, a3, a4, a5, a6⟩ := ih R.2.1 r.2 (k + 1) (b + 500) (g' + 1) (nI n) (st (st M22 11 28 12 0) 11 28 14 (nI (k + 1))) hq (hT.x fA) (by rw [t28, if_neg (by omega), t28, if_neg (by omega), f22 11 28 11 (by omega), t28, if_neg (by omega)]; exact k2) (by rw [st29 (by omega), st29 (by omega)]; exact c22) hv' (by omega) (by rw [t28, if_neg (by omega), t28, if_neg (by omega), f22 11 28 5 (by omega), t28, if_neg (by omega), k3 11 28 5 (by omega)]; exact h5) (by rw [t28, if_pos rfl]) (by rw [t28, if_neg (by omega), t28, if_pos rfl]) z2 (by omega)
          exact ⟨M', a1, fA.tr a2, a3, a4, a5, a6⟩
theorem m_plays (hm : RQ (M 11 29) S) (hv : Inv b S) (hb : b + 50000 < 2 ^ 27) (hT : TM M tl T) (hR : RNt (sgn T tl) tl 81 0 S 0 o) : ∃ M', f_X8_plays M = some (if o.2.1 = 0 then -1000004 else nI o.2.2.1, M') ∧ TS o M M' := by
  have fA : FX M (st (st (st (st M 11 28 5 1) 11 28 11 0) 11 28 12 0) 11 28 14 0) := (((FX.rf.s (by omega)).s (by omega)).s (by omega)).s (by omega)
  obtain ⟨M', a1, a2, a3, a4, a5, a6⟩ := m_loop 81 0 S 0 b FU 0 (st (st (st (st M 11 28 5 1) 11 28 11 0) 11 28 12 0) 11 28 14 0) hR (hT.x fA) (by rw [t28, if_neg (by omega), t28, if_neg (by omega), t28, if_pos rfl]; rfl) (by rw [st29 (by omega), st29 (by omega), st29 (by omega), st29 (by omega)]; exact hm) hv (by omega) (by rw [t28, if_neg (by omega), t28, if_neg (by omega), t28, if_neg (by omega), t28, if_pos rfl]) (by rw [t28, if_pos rfl]; rfl) (by rw [t28, if_neg (by omega), t28, if_pos rfl]) (by omega) (by decide)
  refine ⟨M', ?_, fA.tr a2, a3, a4, a5, a6⟩
  rw [f_X8_plays, bd, bd, bd, bd]
  exact a1
theorem RNt_lt : ∀ (f n : Nat) (S : St) (k : Nat), RNt (sgn T tl) tl f n S k o → n ≤ tl → o.2.2.1 ≤ tl ∧ o.2.2.2.1 ≤ tl + 10 ∧ o.2.1 ≤ 3
  | 0, n, S, k, h, _ => h.elim
  | f + 1, n, S, k, h, hn => by
    rcases h with ⟨h1, rfl⟩ | ⟨h1, R, hR, ⟨h2, rfl⟩ | ⟨h2, ⟨h3, rfl⟩ | ⟨h3, h4⟩⟩⟩
    · exact ⟨Nat.zero_le _, Nat.zero_le _, Nat.zero_le _⟩
    · refine ⟨hn, ?_, by show 1 ≤ 3; omega⟩
      show R.2.1 - n ≤ tl + 10
      have : R.2.1 ≤ n + 8 := by
        rcases hR with ⟨h1, ⟨h2, rfl⟩ | ⟨h2, rfl⟩⟩ | ⟨h1, ⟨h2, rfl⟩ | ⟨h2, ⟨h3, rfl⟩ | ⟨h3, rfl⟩⟩⟩ | ⟨h1, ⟨d1, rfl⟩ | ⟨d1, ⟨d2, rfl⟩ | ⟨d2, ⟨d3, rfl⟩ | ⟨d3, ⟨d4, rfl⟩ | ⟨d4, ⟨d5, rfl⟩ | ⟨d5, ⟨d6, ⟨d7, rfl⟩ | ⟨d7, rfl⟩⟩ | ⟨d6, ⟨d7, rfl⟩ | ⟨d7, rfl⟩⟩⟩⟩⟩⟩⟩⟩ | ⟨h1, rfl⟩ <;> first | exact Nat.add_le_add_left (by decide) n | exact Nat.le_add_right n 8
      omega
    · refine ⟨hn, Nat.zero_le _, ?_⟩
      show (if _ then 2 else 3) ≤ 3
      split <;> omega
    · exact RNt_lt f _ _ _ h4 (PR_ok hR h2).2.1
end PL
