/-! longs as numbers -/
theorem lu_tn {n : Nat} (h : n < 2 ^ 64) : (UInt64.ofNat n).toNat = n := Nat.mod_eq_of_lt h
theorem lg_orp {k p a b : Nat} (hp : 2 ^ k = p) (ha : a < p) (h : a + b * p < 2 ^ 64) : lN a ||| lN (b * p) = lN (a + b * p) := by
  subst hp
  have h1 : b * 2 ^ k ||| a = b * 2 ^ k + a := by rw [← Nat.shiftLeft_eq, Nat.shiftLeft_add_eq_or_of_lt ha]
  have h3 : UInt64.ofNat (b * 2 ^ k) ||| UInt64.ofNat a = UInt64.ofNat (b * 2 ^ k + a) := UInt64.toNat_inj.mp (by rw [UInt64.toNat_or, lu_tn (by omega), lu_tn (by omega), lu_tn (by omega), h1])
  have h2 := congrArg UInt64.toInt64 h3
  rw [Int64.or_comm, Nat.add_comm]
  exact h2
theorem lg_shlp {a k p : Nat} {y : Int64} (hy : y.toBitVec.smod 64 = BitVec.ofNat 64 k) (hk : k < 64) (hp : 2 ^ k = p) (ha : a < 2 ^ 64) : lN a <<< y = lN (a * p) := by
  subst hp
  apply Int64.toBitVec_inj.mp
  rw [Int64.toBitVec_shiftLeft, hy]
  apply BitVec.eq_of_toNat_eq
  have hb : (lN a).toBitVec.toNat = a := Nat.mod_eq_of_lt ha
  have hk' : (BitVec.ofNat 64 k).toNat = k := Nat.mod_eq_of_lt (by omega)
  have h : ((lN a).toBitVec <<< BitVec.ofNat 64 k).toNat = (a * 2 ^ k) % 2 ^ 64 := by simp only [BitVec.shiftLeft_eq', BitVec.toNat_shiftLeft, hb, hk', Nat.shiftLeft_eq]
  exact h
theorem lg_lI {a : Nat} (h : a < 2 ^ 63) : (lN a).toInt = (a : Int) := lg_ofNat_toInt h
theorem lg_shrp {a d : Nat} {D : Int64} (hD : (D.toBitVec.smod 64).toNat = d) (h : a < 2 ^ 62) : lN a >>> D = lN (a / 2 ^ d) := by
  have hd : a / 2 ^ d ≤ a := Nat.div_le_self _ _
  apply Int64.toInt_inj.mp
  have e : (lN a >>> D).toInt = (lN a).toInt >>> d := by
    rw [← hD]
    exact BitVec.toInt_sshiftRight
  rw [e, lg_lI (by omega), lg_lI (by omega), Int.shiftRight_eq_div_pow]
  norm_cast
theorem lo_or (a b : Nat) : nI a ||| nI b = nI (a ||| b) := by
  apply Int32.toBitVec_inj.1
  show BitVec.ofNat 32 a ||| BitVec.ofNat 32 b = BitVec.ofNat 32 (a ||| b)
  apply BitVec.eq_of_getLsbD_eq
  intro i hi
  simp [hi]
theorem lo_orp {a b k p : Nat} (hp : 2 ^ k = p) (h : a < p) : nI a ||| nI (b * p) = nI (a + b * p) := by
  subst hp
  rw [lo_or, Nat.or_comm, ← Nat.shiftLeft_eq, ← Nat.shiftLeft_add_eq_or_of_lt h, Nat.add_comm]
theorem jN_jT (v : Int64) : lN (jT v) = v := by
  apply Int64.toBitVec.inj
  show BitVec.ofNat 64 v.toBitVec.toNat = v.toBitVec
  exact BitVec.ofNat_toNat _ _ |>.trans (by simp)
theorem jT_lN {n : Nat} (h : n < 2 ^ 64) : jT (lN n) = n := Nat.mod_eq_of_lt h
/-- the number in the long at j -/
def wd (M : Mem) (j : Nat) : Nat := jT (ldl M j)
theorem wd_l (M : Mem) (j : Nat) : ldl M j = lN (wd M j) := (jN_jT _).symm
theorem sgr_at (M : Mem) (r i : Nat) (v : Int32) (j : Nat) : st M 11 r i v 11 r j = if j = i then v else M 11 r j := by
  rw [st_get]
  by_cases e : j = i
  · rw [if_pos ⟨rfl, rfl, e⟩, if_pos e]
  · rw [if_neg (fun q => e q.2.2), if_neg e]
theorem sgr_ne {M : Mem} {r i : Nat} {v : Int32} {k r' : Nat} (h : ¬ (k = 11 ∧ r' = r)) : st M 11 r i v k r' = M k r' := by
  funext j
  rw [st_get, if_neg (fun q => h ⟨q.1, q.2.1⟩)]
theorem stl_ne {M : Mem} {i : Nat} {v : Int64} {k r' : Nat} (h : ¬ (k = 11 ∧ r' = 31)) : stl M i v k r' = M k r' := sr_ne h
theorem ldl_cg {M M' : Mem} (h : M' 11 31 = M 11 31) : ldl M' = ldl M := by
  funext i
  unfold ldl
  rw [h]
theorem wd_cg {M M' : Mem} (h : M' 11 31 = M 11 31) : wd M' = wd M := by
  funext i
  unfold wd
  rw [ldl_cg h]
theorem ldl_stl (M : Mem) (i : Nat) (v : Int64) (j : Nat) : ldl (stl M i v) j = if j = i then v else ldl M j := by
  show jl (sr M 11 31 (jset (M 11 31) i v) 11 31) j = _
  rw [sr_at, jl_jset]
  rfl
theorem wd_stl (M : Mem) (i w : Nat) (hw : w < 2 ^ 64) (j : Nat) : wd (stl M i (lN w)) j = if j = i then w else wd M j := by
  unfold wd
  rw [ldl_stl]
  split
  · exact jT_lN hw
  · rfl
theorem wd_stl2 (M : Mem) (i k : Nat) (j : Nat) : wd (stl M i (ldl M k)) j = if j = i then wd M k else wd M j := by
  rw [wd_l M k]
  exact wd_stl M i (wd M k) (ldl M k).toBitVec.isLt j
