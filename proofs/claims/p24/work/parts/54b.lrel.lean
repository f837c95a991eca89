/-! the law's rows against the abstract store -/
def LG (s : Nat → Int32) (S : St) : Prop := s 0 = nI (S 0 0) ∧ s 1 = nI (S 0 1) ∧ s 2 = nI (S 0 2) ∧ s 3 = nI (S 0 5) ∧ s 4 = nI (S 0 9)
def LQ (O : Nat → Bool) (s : Nat → Int32) (S : St) : Prop := ∀ g, g < 4 → s (4 * g) = b01 (O g) ∧ (O g = true → s (4 * g + 1) = nI (S 6 g) ∧ s (4 * g + 2) = nI (S 7 g) ∧ s (4 * g + 3) = nI (S 8 g))
def LPg (s : Nat → Int32) (S : St) : Prop := ∀ p, p < 8 → (s (6 * p) = nI (S 1 p) ∧ S 1 p < 128) ∧ s (6 * p + 1) = nI (S 2 p) ∧ s (6 * p + 2) = b01 ((S 0 6).testBit p) ∧ ((S 0 6).testBit p = true → (s (6 * p + 3) = nI (S 3 p) ∧ S 3 p < 128) ∧ s (6 * p + 4) = nI (S 4 p)) ∧ ((S 0 7).testBit p = true → s (6 * p + 5) = nI (S 5 p))
/-- a record in one number -/
def RF (w : Nat) (S : St) (n : Nat) : Prop := w < 2 ^ 43 ∧ w % 8 = S 9 n ∧ (S 9 n ≠ 5 → w / 8 % 8 = S 10 n) ∧ (S 9 n = 1 ∨ S 9 n = 3 → w / 64 % 8 = S 11 n ∧ w / 512 % 128 = S 12 n ∧ w / 65536 % 128 = S 13 n) ∧ (S 9 n = 3 → w / 8388608 % 256 = S 14 n) ∧ (S 9 n = 5 → w / 2147483648 % 16 = S 12 n ∧ w / 34359738368 % 256 = S 13 n)
def LR (f : Nat → Nat) (S : St) : Prop := ∀ j, j < S 0 1 → RF (f j) S (S 0 0 + j)
def LN (s : Nat → Int32) (S : St) : Prop := S 0 3 ≠ 0 → ∀ p, p < 8 → s p = nI (S 15 p)
def LO (O : Nat → Bool) (M : Mem) (S : St) : Prop := LG (M 11 28) S ∧ LQ O (M 11 29) S ∧ LPg (M 11 30) S ∧ LR (wd M) S ∧ LN (M 11 32) S
def LSt (M : Mem) (S : St) : Prop := LO (fun g => (S 0 8).testBit g) M S
section LC
variable {s s' : Nat → Int32} {S T : St} {O : Nat → Bool}
theorem LG_cg (h : LG s S) (e0 : T 0 0 = S 0 0) (e1 : T 0 1 = S 0 1) (e2 : T 0 2 = S 0 2) (e5 : T 0 5 = S 0 5) (e9 : T 0 9 = S 0 9) : LG s T := by
  unfold LG
  rw [e0, e1, e2, e5, e9]
  exact h
theorem LPg_cg (h : LPg s S) (eT : ∀ f p, p < 8 → (f = 1 ∨ f = 2 ∨ f = 3 ∨ f = 4 ∨ f = 5) ∨ f = 0 ∧ (p = 6 ∨ p = 7) → T f p = S f p) : LPg s T := by
  intro p hp
  rw [eT 1 p hp (by omega), eT 2 p hp (by omega), eT 3 p hp (by omega), eT 4 p hp (by omega), eT 5 p hp (by omega), eT 0 6 (by omega) (by omega), eT 0 7 (by omega) (by omega)]
  exact h p hp
theorem LQ_cg (h : LQ O s S) (eT : ∀ f g, g < 4 → (f = 6 ∨ f = 7 ∨ f = 8) → T f g = S f g) : LQ O s T := by
  intro g hg
  rw [eT 6 g hg (by omega), eT 7 g hg (by omega), eT 8 g hg (by omega)]
  exact h g hg
theorem RF_cg {w n : Nat} (h : RF w S n) (eT : ∀ f, 9 ≤ f → f ≤ 14 → T f n = S f n) : RF w T n := by
  unfold RF
  rw [eT 9 (by omega) (by omega), eT 10 (by omega) (by omega), eT 11 (by omega) (by omega), eT 12 (by omega) (by omega), eT 13 (by omega) (by omega), eT 14 (by omega) (by omega)]
  exact h
theorem LR_cg {f : Nat → Nat} (h : LR f S) (e0 : T 0 0 = S 0 0) (e1 : T 0 1 = S 0 1) (eT : ∀ f i, 9 ≤ f → f ≤ 14 → T f i = S f i) : LR f T := by
  intro j hj
  rw [e0]
  rw [e1] at hj
  exact RF_cg (h j hj) (fun f a c => eT f _ a c)
theorem LN_cg (h : LN s S) (e3 : T 0 3 = S 0 3) (e : ∀ p, p < 8 → T 15 p = S 15 p) : LN s T := by
  intro q p hp
  rw [e3] at q
  rw [e p hp]
  exact h q p hp
end LC
/-- what may change -/
def FQ (R : Nat → Prop) (M M' : Mem) : Prop := ∀ k r, ¬ (k = 11 ∧ R r) → M' k r = M k r
theorem FQ.rf {R : Nat → Prop} {M : Mem} : FQ R M M := fun _ _ _ => rfl
theorem FQ.tr {R : Nat → Prop} {M M1 M2 : Mem} (h : FQ R M M1) (h2 : FQ R M1 M2) : FQ R M M2 := fun k r q => (h2 k r q).trans (h k r q)
theorem FQ.st {R : Nat → Prop} {M M1 : Mem} {r i : Nat} {v : Int32} (h : FQ R M M1) (hr : R r) : FQ R M (st M1 11 r i v) := fun k r' q => by
  rw [sgr_ne (fun z => q ⟨z.1, by rw [z.2]; exact hr⟩)]
  exact h k r' q
theorem FQ.wk {R R' : Nat → Prop} {M M' : Mem} (h : FQ R M M') (e : ∀ r, R r → R' r) : FQ R' M M' := fun k r q => h k r (fun z => q ⟨z.1, e r z.2⟩)
theorem FQ.stl {R : Nat → Prop} {M M1 : Mem} {i : Nat} {v : Int64} (h : FQ R M M1) (hr : R 31) : FQ R M (stl M1 i v) := fun k r' q => by
  rw [stl_ne (fun z => q ⟨z.1, by rw [z.2]; exact hr⟩)]
  exact h k r' q
abbrev R30 : Nat → Prop := fun r => r = 30
abbrev R28 : Nat → Prop := fun r => r = 28
abbrev RA : Nat → Prop := fun r => r = 28 ∨ r = 31
abbrev RB : Nat → Prop := fun r => r = 28 ∨ r = 30 ∨ r = 31
theorem FQ.o {R : Nat → Prop} {M M' : Mem} (h : FQ R M M') : ∀ g, g ≠ 11 → M' g = M g := fun g hg => by
  funext r
  exact h g r (fun z => hg z.1)
theorem LO_fr {O : Nat → Bool} {M M' : Mem} {S : St} (h : LO O M S) (e : M' 11 = M 11) : LO O M' S := by
  obtain ⟨h1, h2, h3, h4, h5⟩ := h
  unfold LO
  rw [wd_cg (congrFun e 31), e]
  exact ⟨h1, h2, h3, h4, h5⟩
section LM
variable {M : Mem} {S : St} {O : Nat → Bool} {b p g n : Nat}
theorem p6 (p c : Nat) : (6 : Int32) * nI p + nI c = nI (6 * p + c) := by rw [nl6, pk_mul, nI_add]
theorem p60 (p : Nat) : (6 : Int32) * nI p = nI (6 * p) := by rw [nl6, pk_mul]
theorem g4 (p c : Nat) : (4 : Int32) * nI p + nI c = nI (4 * p + c) := by rw [nl4, pk_mul, nI_add]
theorem g40 (p : Nat) : (4 : Int32) * nI p = nI (4 * p) := by rw [nl4, pk_mul]
theorem g6c {α : Type} {x : Option α} (p c : Nat) (hp : p < 8) (hc : c < 6) : gd (inb ((6 : Int32) * nI p + nI c) 48) x = x := by
  rw [p6]; exact gd_in (by omega) (by omega)
theorem g60 {α : Type} {x : Option α} (p : Nat) (hp : p < 8) : gd (inb ((6 : Int32) * nI p) 48) x = x := by
  rw [p60]; exact gd_in (by omega) (by omega)
theorem c6 (p c : Nat) (hp : p < 8) (hc : c < 6) : ((6 : Int32) * nI p + nI c).toNatClampNeg = 6 * p + c := by
  rw [p6]; exact nL_cl (by omega)
theorem c60 (p : Nat) (hp : p < 8) : ((6 : Int32) * nI p).toNatClampNeg = 6 * p := by
  rw [p60]; exact nL_cl (by omega)
theorem l_value (h : LPg (M 11 30) S) (hp : p < 8) : f_L_value M (nI p) = some (nI (val S p)) := by
  obtain ⟨⟨h0, -⟩, h1, h2, h3, h4⟩ := h p hp
  rw [f_L_value, nl2, nl3, g6c p 2 hp (by omega), c6 p 2 hp (by omega), h2, val]
  cases q : (S 0 6).testBit p
  · rw [if_neg (show ¬ (b01 false = 1) by decide), if_neg (by decide), g60 p hp, c60 p hp, h0]
  · rw [if_pos (show b01 true = 1 from rfl), if_pos rfl, g6c p 3 hp (by omega), c6 p 3 hp (by omega), (h3 q).1.1]
theorem l_mark (h : LPg (M 11 30) S) (hp : p < 8) : f_L_mark M (nI p) = some (nI (mrk S p)) := by
  obtain ⟨⟨h0, -⟩, h1, h2, h3, h4⟩ := h p hp
  rw [f_L_mark, nl1, nl2, nl4, g6c p 2 hp (by omega), c6 p 2 hp (by omega), h2, mrk]
  cases q : (S 0 6).testBit p
  · rw [if_neg (show ¬ (b01 false = nI 1) by decide), if_neg (by decide), g6c p 1 hp (by omega), c6 p 1 hp (by omega), h1]
  · rw [if_pos (show b01 true = nI 1 from rfl), if_pos rfl, g6c p 4 hp (by omega), c6 p 4 hp (by omega), (h3 q).2]
/-- is a page not as it is on the disk -/
theorem l_mark1 (h : LPg (M 11 30) S) (hB : Bd b S) (hb : b < 2 ^ 29) (hp : p < 8) (hd : PP S p) : M 11 30 (6 * p + 1) = nI (S 2 p) ∧ ((nI (mrk S p) = nI (S 2 p)) = ((S 0 7).testBit p = false)) := by
  have m1 := mrk_le hB (p := p)
  have m2 := hB 2 p
  refine ⟨(h p hp).2.1, ?_⟩
  rw [nL_eq (by omega) (by omega)]
  have e : (S 0 7).testBit p = true ↔ mrk S p ≠ S 2 p := by
    rw [hd.1]
    unfold mrk
    cases q : (S 0 6).testBit p
    · rw [if_neg (by decide)]
      exact ⟨fun z => (nomatch z.1), fun z => absurd rfl z⟩
    · rw [if_pos rfl]
      exact ⟨fun z => z.2, fun z => ⟨rfl, z⟩⟩
  apply propext
  constructor
  · intro q
    cases z : (S 0 7).testBit p
    · rfl
    · exact absurd q (e.mp z)
  · intro q
    apply Classical.byContradiction
    intro z
    rw [e.mpr z] at q
    exact nomatch q
theorem l_last (h : LG (M 11 28) S) (hF : 1 ≤ S 0 0) : f_L_last M = some (nI (S 0 0 + S 0 1 - 1)) := by
  rw [f_L_last, h.1, h.2.1, nI_add, nl1, nL_sub (by omega)]
theorem l_of1 (M : Mem) (h : M 11 28 0 = nI (S 0 0)) (hn : S 0 0 ≤ n) (hn2 : n < S 0 0 + 64) (hw : wd M (n - S 0 0) < 2 ^ 43) {y4 z0 : Int32} {d k : Nat} (hD : (((y4 : Int32).toInt64 &&& 63).toBitVec.smod 64).toNat = d) (hz : z0.toBitVec.toNat = 2 ^ k - 1) (hk : k ≤ 32) : f_L_of_L106 M (nI n) y4 z0 = some (nI (wd M (n - S 0 0) / 2 ^ d % 2 ^ k)) := by
  have e : ∀ x : Nat, (nI x).toBitVec.toNat % 2 ^ k = x % 2 ^ k := fun x => by
    show x % 2 ^ 32 % 2 ^ k = _
    exact Nat.mod_mod_of_dvd x (Nat.pow_dvd_pow 2 hk)
  rw [f_L_of_L106, h, nL_sub hn, gd_in (by omega) (by omega), nL_cl (by omega), wd_l, lg_shrp hD (by omega), lN_i, pk_and _ k hz, e]
theorem l_ofs (M : Mem) (h : M 11 28 0 = nI (S 0 0)) (hn : S 0 0 ≤ n) (hn2 : n < S 0 0 + 64) (hw : wd M (n - S 0 0) < 2 ^ 43) :
    f_L_of M (nI n) 0 = some (nI (wd M (n - S 0 0) % 8)) ∧ f_L_of M (nI n) 1 = some (nI (wd M (n - S 0 0) / 8 % 8)) ∧ f_L_of M (nI n) 2 = some (nI (wd M (n - S 0 0) / 64 % 8)) ∧ f_L_of M (nI n) 3 = some (nI (wd M (n - S 0 0) / 512 % 128)) ∧ f_L_of M (nI n) 4 = some (nI (wd M (n - S 0 0) / 65536 % 128)) ∧ f_L_of M (nI n) 5 = some (nI (wd M (n - S 0 0) / 8388608 % 256)) ∧ f_L_of M (nI n) 6 = some (nI (wd M (n - S 0 0) / 2147483648 % 16)) ∧ f_L_of M (nI n) 7 = some (nI (wd M (n - S 0 0) / 34359738368 % 256)) := by
  have A (y4 z0 : Int32) (d k : Nat) (hD : (((y4 : Int32).toInt64 &&& 63).toBitVec.smod 64).toNat = d) (hz : z0.toBitVec.toNat = 2 ^ k - 1) (hk : k ≤ 32) := l_of1 (n := n) M h hn hn2 hw hD hz hk
  refine ⟨?_, ?_, ?_, ?_, ?_, ?_, ?_, ?_⟩
  · rw [f_L_of, if_pos (by decide), f_L_of_L70, if_neg (by decide), A 0 7 0 3 (by decide) (by decide) (by omega)]
    simp
  · rw [f_L_of, if_neg (by decide), if_pos (by decide), f_L_of_L70, if_neg (by decide), A 3 7 3 3 (by decide) (by decide) (by omega)]
  · rw [f_L_of, if_neg (by decide), if_neg (by decide), if_pos (by decide), f_L_of_L70, if_neg (by decide), A 6 7 6 3 (by decide) (by decide) (by omega)]
  · rw [f_L_of, if_neg (by decide), if_neg (by decide), if_neg (by decide), if_pos (by decide), f_L_of_L70, if_pos (by decide), if_neg (by decide), A 9 127 9 7 (by decide) (by decide) (by omega)]
  · rw [f_L_of, if_neg (by decide), if_neg (by decide), if_neg (by decide), if_neg (by decide), if_pos (by decide), f_L_of_L70, if_pos (by decide), if_neg (by decide), A 16 127 16 7 (by decide) (by decide) (by omega)]
  · rw [f_L_of, if_neg (by decide), if_neg (by decide), if_neg (by decide), if_neg (by decide), if_neg (by decide), if_pos (by decide), f_L_of_L70, if_pos (by decide), if_pos (by decide), if_neg (by decide), A 23 255 23 8 (by decide) (by decide) (by omega)]
  · rw [f_L_of, if_neg (by decide), if_neg (by decide), if_neg (by decide), if_neg (by decide), if_neg (by decide), if_neg (by decide), if_pos (by decide), f_L_of_L70, if_pos (by decide), if_pos (by decide), if_pos (by decide), A 31 15 31 4 (by decide) (by decide) (by omega)]
  · rw [f_L_of, if_neg (by decide), if_neg (by decide), if_neg (by decide), if_neg (by decide), if_neg (by decide), if_neg (by decide), if_neg (by decide), f_L_of_L70, if_pos (by decide), if_pos (by decide), if_neg (by decide), A 35 255 35 8 (by decide) (by decide) (by omega)]
/-- the cells of a record -/
theorem l_rec (h : LG (M 11 28) S) (hR : LR (wd M) S) (hN : S 0 1 ≤ 64) (hn : S 0 0 ≤ n) (hn2 : n < S 0 0 + S 0 1) :
    f_L_of M (nI n) 0 = some (nI (S 9 n)) ∧ (∃ g, g < 8 ∧ f_L_of M (nI n) 1 = some (nI g) ∧ (S 9 n ≠ 5 → g = S 10 n)) ∧ (∃ p, p < 8 ∧ f_L_of M (nI n) 2 = some (nI p) ∧ (S 9 n = 1 ∨ S 9 n = 3 → p = S 11 n)) ∧
    (S 9 n = 1 ∨ S 9 n = 3 → (f_L_of M (nI n) 3 = some (nI (S 12 n)) ∧ S 12 n < 128) ∧ f_L_of M (nI n) 4 = some (nI (S 13 n)) ∧ S 13 n < 128) ∧ (S 9 n = 3 → f_L_of M (nI n) 5 = some (nI (S 14 n)) ∧ S 14 n < 256) ∧ (S 9 n = 5 → f_L_of M (nI n) 6 = some (nI (S 12 n)) ∧ f_L_of M (nI n) 7 = some (nI (S 13 n))) := by
  obtain ⟨r0, r1, r2, r3, r4, r5⟩ := hR (n - S 0 0) (by omega)
  rw [show S 0 0 + (n - S 0 0) = n by omega] at r1 r2 r3 r4 r5
  obtain ⟨a0, a1, a2, a3, a4, a5, a6, a7⟩ := l_ofs M h.1 hn (by omega) r0
  refine ⟨by rw [a0, r1], ⟨_, Nat.mod_lt _ (by decide), a1, r2⟩, ⟨_, Nat.mod_lt _ (by decide), a2, fun q => (r3 q).1⟩, fun q => ⟨⟨by rw [a3, (r3 q).2.1], ?_⟩, by rw [a4, (r3 q).2.2], ?_⟩, fun q => ⟨by rw [a5, r4 q], ?_⟩, fun q => ⟨by rw [a6, (r5 q).1], by rw [a7, (r5 q).2]⟩⟩
  · rw [← (r3 q).2.1]; exact Nat.mod_lt _ (by decide)
  · rw [← (r3 q).2.2]; exact Nat.mod_lt _ (by decide)
  · rw [← r4 q]; exact Nat.mod_lt _ (by decide)
/-- what adding a record packs -/
def pak (k g p o v t : Nat) : Nat := k + g * 8 + p * 64 + o * 512 + v * 65536 + t * 8388608
theorem pak_e {k g p o v t : Nat} (hk : k < 8) (hg : g < 8) (hp : p < 8) (ho : o < 128) (hv : v < 128) (ht : t < 256) : ((((((nI k ||| (nI g <<< ((3 : Int32) &&& 31))) ||| (nI p <<< ((6 : Int32) &&& 31))) ||| (nI o <<< ((9 : Int32) &&& 31)))).toInt64 ||| ((nI v).toInt64 <<< (((16 : Int32) : Int32).toInt64 &&& 63))) ||| ((nI t).toInt64 <<< (((23 : Int32) : Int32).toInt64 &&& 63))) = lN (pak k g p o v t) := by
  rw [pk_shlN (n := g) _ 3 (by decide) (by omega), pk_shlN (n := p) _ 6 (by decide) (by omega), pk_shlN (n := o) _ 9 (by decide) (by omega)]
  rw [lo_orp (k := 3) rfl (by omega), lo_orp (k := 6) rfl (by omega), lo_orp (k := 9) rfl (by omega), nI_l (by omega), nI_l (by omega), nI_l (by omega)]
  rw [lg_shlp (a := v) (k := 16) (by decide) (by omega) rfl (by omega), lg_shlp (a := t) (k := 23) (by decide) (by omega) rfl (by omega)]
  rw [lg_orp (k := 16) rfl (by omega) (by omega), lg_orp (k := 23) rfl (by omega) (by omega)]
  rfl
theorem l_add1 (h : LG (M 11 28) S) (hF : 1 ≤ S 0 0) (hN : S 0 1 < 64) {k g p o v t : Nat} (hk : k < 8) (hg : g < 8) (hp : p < 8) (ho : o < 128) (hv : v < 128) (ht : t < 256) : f_L_add M (nI k) (nI g) (nI p) (nI o) (nI v) (nI t) = some (nI (S 0 0 + S 0 1), st (stl M (S 0 1) (lN (pak k g p o v t))) 11 28 1 (nI (S 0 1 + 1))) := by
  have h28 : ∀ v, stl M (S 0 1) v 11 28 = M 11 28 := fun v => stl_ne (fun z => by omega)
  rw [f_L_add, h.2.1, gd_in (by omega) (by omega), nL_cl (by omega), pak_e hk hg hp ho hv ht, bd, h28, h.2.1, bd, nI_1, f_L_last, bO, sgr_at, if_neg (by decide), sgr_at, if_pos rfl, h28, h.1, nI_add, nl1, nL_sub (by omega)]
  rfl
theorem LO_app (h : LO O M S) (hN : S 0 1 < 64) (hL : S 0 3 < S 0 0 + S 0 1) {kd w : Nat} (gg pg a v t : Nat) (hk : kd ≠ 5) (hw : w < 2 ^ 43) (e0 : w % 8 = kd) (e1 : w / 8 % 8 = gg) (e2 : kd = 1 ∨ kd = 3 → w / 64 % 8 = pg ∧ w / 512 % 128 = a ∧ w / 65536 % 128 = v) (e3 : kd = 3 → w / 8388608 % 256 = t) : LO O (st (stl M (S 0 1) (lN w)) 11 28 1 (nI (S 0 1 + 1))) (app S kd gg pg a v t) := by
  obtain ⟨⟨n0, n1, n2, n3, n4⟩, hq, hp, hr, hn⟩ := h
  have h28 : ∀ j, j ≠ 1 → st (stl M (S 0 1) (lN w)) 11 28 1 (nI (S 0 1 + 1)) 11 28 j = M 11 28 j := fun j q => by
    rw [sgr_at, if_neg q, stl_ne (fun z => by omega)]
  have ho : ∀ r, r ≠ 28 → r ≠ 31 → st (stl M (S 0 1) (lN w)) 11 28 1 (nI (S 0 1 + 1)) 11 r = M 11 r := fun r a1 a2 => by
    rw [sgr_ne (fun z => a1 z.2), stl_ne (fun z => a2 z.2)]
  have hwd : ∀ j, wd (st (stl M (S 0 1) (lN w)) 11 28 1 (nI (S 0 1 + 1))) j = if j = S 0 1 then w else wd M j := fun j => by
    rw [wd_cg (M := stl M (S 0 1) (lN w)) (sgr_ne (fun z => by omega)), wd_stl _ _ _ (by omega)]
  refine ⟨⟨?_, ?_, ?_, ?_, ?_⟩, ?_, ?_, fun j hj => ?_, ?_⟩
  · rw [h28 0 (by omega), app_F]; exact n0
  · rw [sgr_at, if_pos rfl, app_N]
  · rw [h28 2 (by omega), app_o (by omega) (by omega)]; exact n2
  · rw [h28 3 (by omega), app_o (by omega) (by omega)]; exact n3
  · rw [h28 4 (by omega), app_o (by omega) (by omega)]; exact n4
  · rw [ho 29 (by omega) (by omega)]
    exact LQ_cg hq (fun f p _ hf => app_o (by omega) (by omega))
  · rw [ho 30 (by omega) (by omega)]
    exact LPg_cg hp (fun f p _ hf => app_o (by omega) (by omega))
  · rw [app_N] at hj
    rw [app_F, hwd]
    by_cases q : j = S 0 1
    · subst q
      rw [if_pos rfl]
      obtain ⟨r1, r2, r3, r4, r5, r6⟩ := app_r (S := S) (a1 := kd) (a2 := gg) (a3 := pg) (a4 := a) (a5 := v) (a6 := t) (n := S 0 0 + S 0 1)
      rw [if_pos rfl] at r1 r2 r3 r4 r5 r6
      unfold RF
      rw [r1, r2, r3, r4, r5, r6]
      exact ⟨hw, e0, fun _ => e1, e2, e3, fun z => absurd z hk⟩
    · rw [if_neg q]
      refine RF_cg (hr j (by omega)) (fun f' a1 a2 => ?_)
      obtain ⟨r1, r2, r3, r4, r5, r6⟩ := app_r (S := S) (a1 := kd) (a2 := gg) (a3 := pg) (a4 := a) (a5 := v) (a6 := t) (n := S 0 0 + j)
      have z : ¬ (S 0 0 + j = S 0 0 + S 0 1) := by omega
      rw [if_neg z] at r1 r2 r3 r4 r5 r6
      rcases (show f' = 9 ∨ f' = 10 ∨ f' = 11 ∨ f' = 12 ∨ f' = 13 ∨ f' = 14 by omega) with e | e | e | e | e | e <;> rw [e] <;> assumption
  · rw [ho 32 (by omega) (by omega)]
    exact LN_cg hn (app_o (by omega) (by omega)) (fun p _ => app_o (by omega) (by omega))
theorem l_app (h : LO O M S) (hF : 1 ≤ S 0 0) (hN : S 0 1 < 64) (hL : S 0 3 < S 0 0 + S 0 1) {kd gg pg a v t : Nat} (hk : kd ≤ 4) (hg : gg < 4) (hp : pg < 8) (ha : a < 128) (hv : v < 128) (ht : t < 256) : ∃ M', f_L_add M (nI kd) (nI gg) (nI pg) (nI a) (nI v) (nI t) = some (nI (S 0 0 + S 0 1), M') ∧ LO O M' (app S kd gg pg a v t) ∧ FQ RA M M' := by
  refine ⟨_, l_add1 h.1 hF hN (by omega) (by omega) hp ha hv ht, LO_app h hN hL gg pg a v t (by omega) ?_ ?_ ?_ (fun _ => ⟨?_, ?_, ?_⟩) (fun _ => ?_), FQ.st (FQ.stl FQ.rf (Or.inr rfl)) (Or.inl rfl)⟩ <;> unfold pak <;> omega
theorem l_force (h : LO O M S) (hB : Bd b S) (hb : b < 2 ^ 29) {n : Nat} (hn : n < 2 ^ 30) : ∃ M', f_L_force M (nI n) = some (nI (n - S 0 2), M') ∧ LO O M' (frc S n) ∧ FQ R28 M M' := by
  have h2 := hB 0 2
  obtain ⟨⟨n0, n1, n2, n3, n4⟩, hq, hp, hr, hl⟩ := h
  have R : LO O (st M 11 28 2 (nI (S 0 2 + (n - S 0 2)))) (frc S n) := by
    have lo : ∀ j, j ≠ 2 → st M 11 28 2 (nI (S 0 2 + (n - S 0 2))) 11 28 j = M 11 28 j := fun j a => by rw [sgr_at, if_neg a]
    have ho : ∀ r, r ≠ 28 → st M 11 28 2 (nI (S 0 2 + (n - S 0 2))) 11 r = M 11 r := fun r a1 => sgr_ne (fun z => a1 z.2)
    refine ⟨⟨?_, ?_, ?_, ?_, ?_⟩, ?_, ?_, ?_, ?_⟩
    · rw [lo 0 (by omega), frc_o (by omega)]; exact n0
    · rw [lo 1 (by omega), frc_o (by omega)]; exact n1
    · rw [sgr_at, if_pos rfl, frc, up_at]
    · rw [lo 3 (by omega), frc_o (by omega)]; exact n3
    · rw [lo 4 (by omega), frc_o (by omega)]; exact n4
    · rw [ho 29 (by omega)]; exact LQ_cg hq (fun f p _ hf => frc_o (by omega))
    · rw [ho 30 (by omega)]; exact LPg_cg hp (fun f p _ hf => frc_o (by omega))
    · rw [wd_cg (ho 31 (by omega))]; exact LR_cg hr (frc_o (by omega)) (frc_o (by omega)) (fun f i a c => frc_o (by omega))
    · rw [ho 32 (by omega)]; exact LN_cg hl (frc_o (by omega)) (fun p _ => frc_o (by omega))
  refine ⟨_, ?_, R, FQ.st FQ.rf rfl⟩
  rw [f_L_force, n2]
  by_cases q : n ≤ S 0 2
  · rw [if_pos (by rw [nL_le (by omega) (by omega)]; exact q), f_L_force_L16, n2, bd, show n - S 0 2 = 0 by omega, nl0, nI_add]
  · rw [if_neg (by rw [nL_le (by omega) (by omega)]; exact q), nL_sub (by omega), f_L_force_L16, n2, bd, nI_add]
theorem l_come (h : LO O M S) (hB : Bd b S) (hb : b < 2 ^ 29) (hs : Sm S) (hp8 : p < 8) (hd : PP S p) {v n : Nat} (hv : v < 128) (hn29 : n < 2 ^ 29) : ∃ M', f_L_come M (nI p) (nI v) (nI n) = some M' ∧ LO O M' (put S p v n) ∧ FQ R30 M M' := by
  obtain ⟨hn, hq, hp, hr, hl⟩ := h
  have b6 := (tset8 _ hs.1 p hp8).2
  have b7 := (tset8 _ hs.2.1 p hp8).2
  obtain ⟨g6, g7, g3, g4, g5⟩ := put_g (S := S) (p := p) (v := v) (n := n)
  have W : ∀ z : Int32, z = nI (put S p v n 5 p) → ∃ M', f_L_come_L35 M (nI p) (nI v) (nI n) z ((6 : Int32) * nI p + (5 : Int32)) = some M' ∧ LO O M' (put S p v n) ∧ FQ R30 M M' := by
    intro z hz
    have F : FQ R30 M (st (st (st (st M 11 30 (6 * p + 5) z) 11 30 (6 * p + 2) 1) 11 30 (6 * p + 3) (nI v)) 11 30 (6 * p + 4) (nI n)) := FQ.st (FQ.st (FQ.st (FQ.st FQ.rf rfl) rfl) rfl) rfl
    refine ⟨_, ?_, ?_, F⟩
    · rw [f_L_come_L35, nl2, nl3, nl4, nl5, g6c p 5 hp8 (by omega), c6 p 5 hp8 (by omega), bd, g6c p 2 hp8 (by omega), c6 p 2 hp8 (by omega), bd, g6c p 3 hp8 (by omega), c6 p 3 hp8 (by omega), bd, g6c p 4 hp8 (by omega), c6 p 4 hp8 (by omega), bd]
    · have lo : ∀ j, ¬ (6 * p + 2 ≤ j ∧ j ≤ 6 * p + 5) → st (st (st (st M 11 30 (6 * p + 5) z) 11 30 (6 * p + 2) 1) 11 30 (6 * p + 3) (nI v)) 11 30 (6 * p + 4) (nI n) 11 30 j = M 11 30 j := fun j a => by
        rw [sgr_at, if_neg (by omega), sgr_at, if_neg (by omega), sgr_at, if_neg (by omega), sgr_at, if_neg (by omega)]
      refine ⟨?_, ?_, fun q hq8 => ?_, ?_, ?_⟩
      · rw [F 11 28 (by omega)]
        exact LG_cg hn (put_o (by omega)) (put_o (by omega)) (put_o (by omega)) (put_o (by omega)) (put_o (by omega))
      · rw [F 11 29 (by omega)]
        exact LQ_cg hq (fun f i _ hf => put_o (by omega))
      · obtain ⟨⟨h0, h00⟩, h1, h2, h3, h4⟩ := hp q hq8
        rw [g6, g7, b6 q hq8, b7 q hq8, g3, g4, put_o (f := 1) (by omega), put_o (f := 2) (by omega)]
        by_cases e : q = p
        · subst e
          rw [lo _ (by omega), lo _ (by omega), decide_eq_true rfl, Bool.or_true, if_pos rfl, if_pos rfl]
          refine ⟨⟨h0, h00⟩, h1, ?_, fun _ => ⟨⟨?_, hv⟩, ?_⟩, fun _ => ?_⟩
          · rw [sgr_at, if_neg (by omega), sgr_at, if_neg (by omega), sgr_at, if_pos rfl]; rfl
          · rw [sgr_at, if_neg (by omega), sgr_at, if_pos rfl]
          · rw [sgr_at, if_pos rfl]
          · rw [sgr_at, if_neg (by omega), sgr_at, if_neg (by omega), sgr_at, if_neg (by omega), sgr_at, if_pos rfl]
            exact hz
        · rw [lo _ (by omega), lo _ (by omega), lo _ (by omega), lo _ (by omega), lo _ (by omega), lo _ (by omega), decide_eq_false e, Bool.or_false, Bool.or_false, if_neg e, if_neg e, g5, if_neg (fun z => e z.1)]
          exact ⟨⟨h0, h00⟩, h1, h2, h3, h4⟩
      · rw [wd_cg (F 11 31 (by omega))]
        exact LR_cg hr (put_o (by omega)) (put_o (by omega)) (fun f i a c => put_o (by omega))
      · rw [F 11 32 (by omega)]
        exact LN_cg hl (put_o (by omega)) (fun p _ => put_o (by omega))
  obtain ⟨m1, m2⟩ := l_mark1 hp hB hb hp8 hd
  rw [f_L_come, l_mark hp hp8, bO, nl1, g6c p 1 hp8 (by omega), c6 p 1 hp8 (by omega), m1]
  cases q : (S 0 7).testBit p
  · rw [if_pos (by rw [m2]; exact q)]
    exact W _ (by rw [g5, if_pos ⟨rfl, q⟩])
  · rw [if_neg (by rw [m2, q]; decide), nl5, g6c p 5 hp8 (by omega), c6 p 5 hp8 (by omega)]
    exact W _ (by rw [g5, if_neg (by rw [q]; exact fun z => nomatch z.2)]; exact (hp p hp8).2.2.2.2 q)
end LM
