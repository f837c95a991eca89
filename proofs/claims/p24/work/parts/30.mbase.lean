/-! the abstract store: rows of numbers. Row 0: 0 F first record, 1 N how many, 2 D forced, 3 L latest checkpoint, 4 drop limit, 5 stopped, 6 cached, 7 dirty, 8 open (sets as numbers), 9 done again so far.
    1 disk values, 2 disk marks, 3 values, 4 marks, 5 starts; 6 begins, 7 writes, 8 held; records by their numbers: 9 kind, 10 group, 11 page, 12 old, 13 new, 14 target; 15 starts at the checkpoint -/
abbrev St : Type := Nat → Nat → Nat
def up (S : St) (f i v : Nat) : St := fun f' i' => if f' = f ∧ i' = i then v else S f' i'
def NF : Int32 := -1000004
def eo (k g : Nat) : Int32 := if k = 5 then -1000004 else nI g
def ep (k p : Nat) : Int32 := if k = 1 ∨ k = 3 then nI p else -1000004
def b01 (b : Bool) : Int32 := if b then 1 else 0
/-- the class's store -/
def RC (X : Nat → Nat → Int32) (S : St) : Prop :=
  (X 11 7 = nI (S 0 0) ∧ X 11 8 = nI (S 0 1) ∧ X 11 9 = nI (S 0 2) ∧ X 11 10 = nI (S 0 3) ∧ X 11 11 = nI (S 0 4) ∧ (X 0 3 = nI (S 0 5) ∧ X 0 4 = nI (S 0 9)) ∧ X 1 5 = nI (S 0 6) ∧ X 1 6 = nI (S 0 7) ∧ X 7 3 = nI (S 0 8)) ∧
  (∀ p, p < 8 → X 2 p = nI (S 1 p) ∧ X 3 p = nI (S 2 p) ∧ X 4 p = nI (S 3 p) ∧ X 5 p = nI (S 4 p) ∧ X 6 p = nI (S 5 p) ∧ X 18 p = nI (S 15 p)) ∧
  (∀ g, g < 4 → X 8 g = nI (S 6 g) ∧ X 9 g = nI (S 7 g) ∧ X 10 g = nI (S 8 g)) ∧
  (∀ j, j < S 0 1 → X 12 j = nI (S 9 (S 0 0 + j)) ∧ X 13 j = eo (S 9 (S 0 0 + j)) (S 10 (S 0 0 + j)) ∧ X 14 j = ep (S 9 (S 0 0 + j)) (S 11 (S 0 0 + j)) ∧ X 15 j = nI (S 12 (S 0 0 + j)) ∧ X 16 j = nI (S 13 (S 0 0 + j)) ∧ X 17 j = nI (S 14 (S 0 0 + j)))
/-- the model's row s -/
def RM (s : Nat → Int32) (S : St) : Prop :=
  (s 0 = nI (S 0 0) ∧ s 1 = nI (S 0 1) ∧ s 2 = nI (S 0 2) ∧ s 3 = nI (S 0 5) ∧ s 4 = nI (S 0 9)) ∧
  (∀ p, p < 8 → s (21 + 6 * p) = nI (S 1 p) ∧ s (22 + 6 * p) = nI (S 2 p) ∧ s (23 + 6 * p) = b01 ((S 0 6).testBit p) ∧ ((S 0 6).testBit p = true → s (24 + 6 * p) = nI (S 3 p) ∧ s (25 + 6 * p) = nI (S 4 p)) ∧ ((S 0 7).testBit p = true → s (26 + 6 * p) = nI (S 5 p))) ∧
  (∀ g, g < 4 → s (5 + 4 * g) = b01 ((S 0 8).testBit g) ∧ ((S 0 8).testBit g = true → s (6 + 4 * g) = nI (S 6 g) ∧ s (7 + 4 * g) = nI (S 7 g) ∧ s (8 + 4 * g) = nI (S 8 g))) ∧
  (∀ j, j < S 0 1 → s (69 + 16 * j) = nI (S 9 (S 0 0 + j)) ∧ s (70 + 16 * j) = eo (S 9 (S 0 0 + j)) (S 10 (S 0 0 + j)) ∧ s (71 + 16 * j) = ep (S 9 (S 0 0 + j)) (S 11 (S 0 0 + j)) ∧
    s (72 + 16 * j) = ep (S 9 (S 0 0 + j)) (S 12 (S 0 0 + j)) ∧ s (73 + 16 * j) = ep (S 9 (S 0 0 + j)) (S 13 (S 0 0 + j)) ∧ s (74 + 16 * j) = (if S 9 (S 0 0 + j) = 3 then nI (S 14 (S 0 0 + j)) else -1000004) ∧
    (S 9 (S 0 0 + j) = 5 → s (75 + 16 * j) = nI (S 12 (S 0 0 + j)) ∧ s (76 + 16 * j) = nI (S 13 (S 0 0 + j))) ∧ (S 0 0 + j = S 0 3 → ∀ p, p < 8 → s (77 + 16 * j + p) = nI (S 15 p)))
/-- all numbers are at most b -/
def Bd (b : Nat) (S : St) : Prop := ∀ f i, S f i ≤ b
/-! rows on numbers -/
theorem nl0 : (0 : Int32) = nI 0 := rfl
theorem nl1 : (1 : Int32) = nI 1 := rfl
theorem nl2 : (2 : Int32) = nI 2 := rfl
theorem nl3 : (3 : Int32) = nI 3 := rfl
theorem nl4 : (4 : Int32) = nI 4 := rfl
theorem nl5 : (5 : Int32) = nI 5 := rfl
theorem nl6 : (6 : Int32) = nI 6 := rfl
theorem nl7 : (7 : Int32) = nI 7 := rfl
theorem nl8 : (8 : Int32) = nI 8 := rfl
theorem nl16 : (16 : Int32) = nI 16 := rfl
theorem nl21 : (21 : Int32) = nI 21 := rfl
theorem nl60 : (60 : Int32) = nI 60 := rfl
theorem nl69 : (69 : Int32) = nI 69 := rfl
theorem nl77 : (77 : Int32) = nI 77 := rfl
theorem nl80 : (80 : Int32) = nI 80 := rfl
theorem nl99 : (99 : Int32) = nI 99 := rfl
theorem nl100 : (100 : Int32) = nI 100 := rfl
theorem nl128 : (128 : Int32) = nI 128 := rfl
theorem nL_lt {a b : Nat} (ha : a < 2 ^ 31) (hb : b < 2 ^ 31) : (nI a < nI b) = (a < b) := propext (nI_ltI ha hb)
theorem nL_le {a b : Nat} (ha : a < 2 ^ 31) (hb : b < 2 ^ 31) : (nI a ≤ nI b) = (a ≤ b) := propext (nI_leI ha hb)
theorem nL_eq {a b : Nat} (ha : a < 2 ^ 31) (hb : b < 2 ^ 31) : (nI a = nI b) = (a = b) := propext (nI_eq ha hb)
theorem nL_neg {a : Nat} (ha : a < 2 ^ 31) : (nI a < 0) = False := eq_false (nI_pos ha)
theorem nL_cl {a : Nat} (ha : a < 2 ^ 31) : (nI a).toNatClampNeg = a := nI_clamp ha
theorem nL_in {a n : Nat} (ha : a < 2 ^ 31) : inb (nI a) n = (a < n) := by
  apply propext
  unfold inb
  rw [nI_toInt ha]
  omega
theorem nL_sub {a b : Nat} (h : b ≤ a) : nI a - nI b = nI (a - b) := pk_sub h
theorem nL_subneg {a b : Nat} (hb : b < 2 ^ 30) (h : a < b) : (nI a - nI b < 0) = True := eq_true (pk_sneg hb h)
theorem nL_NF {a : Nat} (ha : a < 2 ^ 31) : (nI a = -1000004) = False := by
  apply eq_false
  intro h
  have h1 := congrArg Int32.toInt h
  rw [nI_toInt ha, show (-1000004 : Int32).toInt = -1000004 from rfl] at h1
  omega
theorem nL_NF2 {a : Nat} (ha : a < 2 ^ 31) : ((-1000004 : Int32) = nI a) = False := by
  rw [← nL_NF ha]
  exact propext ⟨Eq.symm, Eq.symm⟩
theorem NF_lt {a : Nat} (ha : a < 2 ^ 31) : ((-1000004 : Int32) < nI a) = True := by
  apply eq_true
  rw [Int32.lt_iff_toInt_lt, nI_toInt ha, show (-1000004 : Int32).toInt = -1000004 from rfl]
  omega
theorem NF_le {a : Nat} (ha : a < 2 ^ 31) : (nI a ≤ (-1000004 : Int32)) = False := by
  apply eq_false
  rw [Int32.le_iff_toInt_le, nI_toInt ha, show (-1000004 : Int32).toInt = -1000004 from rfl]
  omega
theorem nL_max {a b : Nat} (ha : a < 2 ^ 30) (hb : b < 2 ^ 30) : (if (0 : Int32) < nI a - nI b then nI a - nI b else 0) = nI (a - b) := by
  by_cases h : b < a
  · rw [nL_sub (by omega), if_pos (by rw [nl0, nL_lt (by omega) (by omega)]; omega)]
  · by_cases h2 : a = b
    · subst h2
      rw [nL_sub (Nat.le_refl _), Nat.sub_self]
      rfl
    · have h3 := pk_sneg hb (show a < b by omega)
      rw [if_neg (by rw [Int32.lt_iff_toInt_lt] at h3 ⊢; omega), show a - b = 0 by omega]
      rfl
/-! sets of pages and of groups as numbers -/
theorem bit8 : ∀ m, m < 256 → ∀ p, p < 8 → ((nI m >>> (nI p &&& 31)) &&& 1) = b01 (m.testBit p) := by decide +kernel
theorem bset8 : ∀ m, m < 256 → ∀ p, p < 8 → (nI m ||| ((1 : Int32) <<< (nI p &&& 31))) = nI (m ||| 2 ^ p) := by decide +kernel
theorem bclr8 : ∀ m, m < 256 → ∀ p, p < 8 → (nI m &&& (((1 : Int32) <<< (nI p &&& 31)) ^^^ (-1 : Int32))) = nI (m &&& (255 - 2 ^ p)) := by decide +kernel
theorem bone8 : ∀ p, p < 8 → ((1 : Int32) <<< (nI p &&& 31)) = nI (2 ^ p) := by decide +kernel
theorem tset8 : ∀ m, m < 256 → ∀ p, p < 8 → (m ||| 2 ^ p) < 256 ∧ ∀ q, q < 8 → (m ||| 2 ^ p).testBit q = (m.testBit q || decide (q = p)) := by decide +kernel
theorem tclr8 : ∀ m, m < 256 → ∀ p, p < 8 → (m &&& (255 - 2 ^ p)) < 256 ∧ ∀ q, q < 8 → (m &&& (255 - 2 ^ p)).testBit q = (m.testBit q && !decide (q = p)) := by decide +kernel
theorem band8 : ∀ m, m < 256 → ∀ p, p < 8 → ((nI m &&& nI (2 ^ p)) = 0) = (m.testBit p = false) := by
  have h : ∀ m, m < 256 → ∀ p, p < 8 → decide ((nI m &&& nI (2 ^ p)) = 0) = !m.testBit p := by decide +kernel
  intro m hm p hp
  have := h m hm p hp
  apply propext
  constructor
  · intro h1
    rw [decide_eq_true h1] at this
    simpa using this.symm
  · intro h1
    rw [h1] at this
    exact of_decide_eq_true (by simpa using this)
theorem b01_1 (b : Bool) : (b01 b = 1) = (b = true) := by cases b <;> decide
theorem b01_0 (b : Bool) : (b01 b = 0) = (b = false) := by cases b <;> decide
theorem isB_b01 (b : Bool) : isB (b01 b) := by cases b <;> decide
theorem up_at {S : St} {f i v : Nat} : up S f i v f i = v := by simp [up]
theorem Bd_up {b : Nat} {S : St} {f i v : Nat} (h : Bd b S) (hv : v ≤ b) : Bd b (up S f i v) := by
  intro f' i'
  unfold up
  split
  · exact hv
  · exact h f' i'
theorem Bd_le {b b' : Nat} {S : St} (h : Bd b S) (hb : b ≤ b') : Bd b' S := fun f i => Nat.le_trans (h f i) hb
