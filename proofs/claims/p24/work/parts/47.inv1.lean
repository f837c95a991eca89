/-! what every journal keeps: counting, last boundaries, invariants -/
noncomputable def cI (P : Prop) : Nat := @ite Nat P (Classical.propDecidable P) 1 0
theorem cI_1 {P : Prop} (h : P) : cI P = 1 := if_pos h
theorem cI_0 {P : Prop} (h : ¬ P) : cI P = 0 := if_neg h
theorem cI_le (P : Prop) : cI P ≤ 1 := by
  by_cases h : P
  · rw [cI_1 h]; exact Nat.le_refl _
  · rw [cI_0 h]; omega
theorem cI_mono {P Q : Prop} (h : P → Q) : cI P ≤ cI Q := by
  by_cases q : P
  · rw [cI_1 q, cI_1 (h q)]; exact Nat.le_refl _
  · rw [cI_0 q]; omega
noncomputable def cnt (P : Nat → Prop) (lo : Nat) : Nat → Nat
  | 0 => 0
  | d + 1 => cnt P lo d + cI (P (lo + d))
theorem cnt_le (P : Nat → Prop) (lo : Nat) : ∀ d, cnt P lo d ≤ d
  | 0 => Nat.le_refl _
  | d + 1 => by
    have h1 := cnt_le P lo d
    have h2 := cI_le (P (lo + d))
    rw [cnt]; omega
theorem cnt_mono {P Q : Nat → Prop} {lo : Nat} : ∀ d, (∀ n, lo ≤ n → n < lo + d → P n → Q n) → cnt P lo d ≤ cnt Q lo d
  | 0, _ => Nat.le_refl _
  | d + 1, h => by
    have h1 := cnt_mono d (fun n a b => h n a (by omega))
    have h2 := cI_mono (h (lo + d) (by omega) (by omega))
    rw [cnt, cnt]; omega
theorem cnt_cg {P Q : Nat → Prop} {lo : Nat} (d : Nat) (h : ∀ n, lo ≤ n → n < lo + d → (P n ↔ Q n)) : cnt P lo d = cnt Q lo d :=
  Nat.le_antisymm (cnt_mono d (fun n a b => (h n a b).mp)) (cnt_mono d (fun n a b => (h n a b).mpr))
theorem cnt_one {P Q : Nat → Prop} {lo : Nat} (t : Nat) : ∀ d, (∀ n, lo ≤ n → n < lo + d → n ≠ t → P n → Q n) → cnt P lo d ≤ cnt Q lo d + 1
  | 0, _ => Nat.zero_le _
  | d + 1, h => by
    by_cases e : lo + d = t
    · have h1 := cnt_mono (P := P) (Q := Q) (lo := lo) d (fun n a b => h n a (by omega) (by omega))
      have h2 := cI_le (P (lo + d))
      rw [cnt, cnt]; omega
    · have h1 := cnt_one (P := P) (Q := Q) (lo := lo) t d (fun n a b => h n a (by omega))
      have h2 := cI_mono (h (lo + d) (by omega) (by omega) e)
      rw [cnt, cnt]; omega
theorem cnt_less {P Q : Nat → Prop} {lo t : Nat} : ∀ d, lo ≤ t → t < lo + d → Q t → ¬ P t → (∀ n, lo ≤ n → n < lo + d → P n → Q n) → cnt P lo d + 1 ≤ cnt Q lo d
  | 0, h1, h2, _, _, _ => by omega
  | d + 1, h1, h2, q, np, h => by
    by_cases e : lo + d = t
    · have a1 := cnt_mono (P := P) (Q := Q) (lo := lo) d (fun n a b => h n a (by omega))
      rw [cnt, cnt, e, cI_1 q, cI_0 np]; omega
    · have a1 := cnt_less (P := P) (Q := Q) (lo := lo) d h1 (by omega) q np (fun n a b => h n a (by omega))
      have a2 := cI_mono (h (lo + d) (by omega) (by omega))
      rw [cnt, cnt]; omega
theorem cnt_add (P : Nat → Prop) (lo e : Nat) : ∀ d, cnt P lo (e + d) = cnt P lo e + cnt P (lo + e) d
  | 0 => rfl
  | d + 1 => by
    rw [show e + (d + 1) = (e + d) + 1 by omega, cnt, cnt, cnt_add P lo e d, Nat.add_assoc lo e d, Nat.add_assoc]
/-- the record n begins, settles or ends the group g -/
abbrev bd4 (S : St) (g n : Nat) : Prop := (S 9 n = 0 ∨ S 9 n = 2 ∨ S 9 n = 4) ∧ S 10 n = g
/-- n is the last of those among lo .. hi - 1 -/
def LB (S : St) (g lo hi n : Nat) : Prop := lo ≤ n ∧ n < hi ∧ bd4 S g n ∧ ∀ m, n < m → m < hi → ¬ bd4 S g m
def OJ (S : St) (g lo hi : Nat) : Prop := ∃ n, LB S g lo hi n ∧ S 9 n = 0
def alv (S : St) (h n : Nat) : Prop := (S 9 n = 1 ∧ ∀ m, n < m → m < h → ¬ (S 9 m = 3 ∧ S 14 m = n)) ∨ (S 9 n = 0 ∧ ∀ m, n < m → m < h → ¬ bd4 S (S 10 n) m)
noncomputable def phi (S : St) (F N : Nat) : Nat := N + cnt (alv S (F + N)) F N
def K3 (S : St) : Prop := ∀ n, S 0 0 ≤ n → n < S 0 0 + S 0 1 → S 9 n = 3 → S 14 n < n ∧ (S 0 0 ≤ S 14 n → S 9 (S 14 n) = 1 ∧ S 10 (S 14 n) = S 10 n)
def ALT (S : St) : Prop := ∀ n, S 0 0 ≤ n → n < S 0 0 + S 0 1 → S 9 n = 2 ∨ S 9 n = 4 → ∀ m, LB S (S 10 n) (S 0 0) n m → S 9 m = 0
def DL (S : St) : Prop := S 0 4 ≤ S 0 3 ∧ (∀ g, g < 4 → ∀ n, LB S g (S 0 0) (S 0 3) n → S 9 n = 0 → S 0 4 ≤ n) ∧ (∀ p, p < 8 → S 15 p ≠ 0 → S 0 4 ≤ S 15 p) ∧ (S 0 4 = S 0 3 ∨ (∃ g, g < 4 ∧ ∃ n, LB S g (S 0 0) (S 0 3) n ∧ S 9 n = 0 ∧ S 0 4 = n) ∨ ∃ p, p < 8 ∧ S 15 p ≠ 0 ∧ S 0 4 = S 15 p)
def CK (S : St) : Prop := S 0 0 ≤ S 0 3 ∧ S 0 3 ≤ S 0 2 ∧ S 9 (S 0 3) = 5 ∧ (∀ n, S 0 3 < n → n < S 0 0 + S 0 1 → S 9 n ≠ 5) ∧ S 12 (S 0 3) < 16 ∧ (∀ g, g < 4 → ((S 12 (S 0 3)).testBit g = true ↔ OJ S g (S 0 0) (S 0 3))) ∧ DL S ∧ (∀ p, p < 8 → S 15 p = 0 ∨ S 0 0 ≤ S 15 p)
def JI (S : St) : Prop :=
  (WF S ∧ 1 ≤ S 0 0 ∧ S 0 0 ≤ S 0 2 + 1 ∧ S 0 2 < S 0 0 + S 0 1) ∧
  (S 0 3 = 0 → S 0 0 = 1 ∧ ∀ n, S 0 0 ≤ n → n < S 0 0 + S 0 1 → S 9 n ≠ 5) ∧ (S 0 3 ≠ 0 → CK S) ∧ K3 S ∧ ALT S ∧ phi S (S 0 0) (S 0 1) ≤ 120 ∧ (∀ p, p < 8 → S 2 p ≤ S 0 2)
/-- what the pages keep -/
def PI (S : St) : Prop := ∀ p, p < 8 → ((S 0 7).testBit p = true ↔ ((S 0 6).testBit p = true ∧ S 4 p ≠ S 2 p)) ∧ ((S 0 6).testBit p = true → S 2 p ≤ S 4 p ∧ S 4 p < S 0 0 + S 0 1) ∧ ((S 0 7).testBit p = true → S 0 0 ≤ S 5 p ∧ S 5 p < S 0 0 + S 0 1 ∧ (S 0 3 ≠ 0 → S 0 4 ≤ S 5 p))
/-- what an open group keeps -/
def GC (S : St) (g : Nat) : Prop := LB S g (S 0 0) (S 0 0 + S 0 1) (S 6 g) ∧ S 9 (S 6 g) = 0 ∧ (S 0 3 ≠ 0 → S 0 4 ≤ S 6 g) ∧ (∀ n, S 6 g < n → n < S 0 0 + S 0 1 → S 9 n = 3 → S 10 n ≠ g) ∧ S 7 g = cnt (fun n => S 9 n = 1 ∧ S 10 n = g) (S 6 g) (S 0 0 + S 0 1 - S 6 g)
def DJ (S : St) : Prop := ∀ g g' p, g < 4 → g' < 4 → p < 8 → g ≠ g' → (S 0 8).testBit g = true → (S 0 8).testBit g' = true → (S 8 g).testBit p = true → (S 8 g').testBit p = true → False
def Rn (S : St) : Prop := (∀ g, g < 4 → ((S 0 8).testBit g = true → GC S g) ∧ (OJ S g (S 0 0) (S 0 0 + S 0 1) → (S 0 8).testBit g = true)) ∧ DJ S
def Inv (b : Nat) (S : St) : Prop := Nm b S ∧ JI S ∧ PI S ∧ (S 0 5 = 0 → Rn S) ∧ (S 0 5 ≠ 0 → S 0 6 = 0 ∧ S 0 7 = 0 ∧ S 0 8 = 0 ∧ S 0 2 + 1 = S 0 0 + S 0 1)
section LBs
variable {S T : St} {g lo hi n m : Nat}
theorem LB_uq (h : LB S g lo hi n) (h2 : LB S g lo hi m) : n = m := by
  obtain ⟨a1, a2, a3, a4⟩ := h
  obtain ⟨b1, b2, b3, b4⟩ := h2
  rcases Nat.lt_trichotomy n m with e | e | e
  · exact absurd b3 (a4 m e b2)
  · exact e
  · exact absurd a3 (b4 n e a2)
theorem LB_ex : ∀ (d : Nat), (∀ m, lo ≤ m → m < lo + d → ¬ bd4 S g m) ∨ ∃ n, LB S g lo (lo + d) n
  | 0 => Or.inl (fun m a b => by omega)
  | d + 1 => by
    by_cases q : bd4 S g (lo + d)
    · exact Or.inr ⟨lo + d, by omega, by omega, q, fun m a b => by omega⟩
    · rcases LB_ex d with h | ⟨n, a1, a2, a3, a4⟩
      · refine Or.inl (fun m a b => ?_)
        by_cases e : m = lo + d
        · rw [e]; exact q
        · exact h m a (by omega)
      · refine Or.inr ⟨n, a1, by omega, a3, fun m a b => ?_⟩
        by_cases e : m = lo + d
        · rw [e]; exact q
        · exact a4 m a (by omega)
theorem LB_cg (e : ∀ n, lo ≤ n → n < hi → T 9 n = S 9 n ∧ T 10 n = S 10 n) (h : LB S g lo hi n) : LB T g lo hi n := by
  obtain ⟨a1, a2, a3, a4⟩ := h
  refine ⟨a1, a2, ?_, fun m b1 b2 b3 => a4 m b1 b2 ?_⟩
  · unfold bd4
    rw [(e n a1 a2).1, (e n a1 a2).2]
    exact a3
  · have := e m (by omega) b2
    unfold bd4 at b3
    rw [this.1, this.2] at b3
    exact b3
theorem LB_up (e : ∀ n, lo ≤ n → n < hi → T 9 n = S 9 n ∧ T 10 n = S 10 n) (hn : ¬ bd4 T g hi) (h : LB S g lo hi n) : LB T g lo (hi + 1) n := by
  obtain ⟨a1, a2, a3, a4⟩ := LB_cg e h
  refine ⟨a1, by omega, a3, fun m b1 b2 => ?_⟩
  by_cases q : m = hi
  · rw [q]; exact hn
  · exact a4 m b1 (by omega)
theorem LB_dn (e : ∀ n, lo ≤ n → n < hi → T 9 n = S 9 n ∧ T 10 n = S 10 n) (hn : ¬ bd4 T g hi) (h : LB T g lo (hi + 1) n) : LB S g lo hi n := by
  obtain ⟨a1, a2, a3, a4⟩ := h
  have q : n ≠ hi := fun q => hn (by rw [← q]; exact a3)
  have h : LB T g lo hi n := ⟨a1, by omega, a3, fun m b1 b2 => a4 m b1 (by omega)⟩
  exact LB_cg (S := T) (T := S) (fun n b1 b2 => ⟨(e n b1 b2).1.symm, (e n b1 b2).2.symm⟩) h
theorem OJ_cg (e : ∀ n, lo ≤ n → n < hi → T 9 n = S 9 n ∧ T 10 n = S 10 n) (h : OJ S g lo hi) : OJ T g lo hi := by
  obtain ⟨n, h1, h2⟩ := h
  exact ⟨n, LB_cg e h1, by rw [(e n h1.1 h1.2.1).1]; exact h2⟩
theorem sy2 (e : ∀ n, lo ≤ n → n < hi → T 9 n = S 9 n ∧ T 10 n = S 10 n) : ∀ n, lo ≤ n → n < hi → S 9 n = T 9 n ∧ S 10 n = T 10 n := fun n a b => ⟨(e n a b).1.symm, (e n a b).2.symm⟩
theorem OJ_up (e : ∀ n, lo ≤ n → n < hi → T 9 n = S 9 n ∧ T 10 n = S 10 n) (hn : ¬ bd4 T g hi) : OJ T g lo (hi + 1) ↔ OJ S g lo hi := by
  constructor
  · rintro ⟨n, h1, h2⟩
    have h3 := LB_dn e hn h1
    exact ⟨n, h3, by rw [← (e n h3.1 h3.2.1).1]; exact h2⟩
  · rintro ⟨n, h1, h2⟩
    exact ⟨n, LB_up e hn h1, by rw [(e n h1.1 h1.2.1).1]; exact h2⟩
theorem LB_new (h1 : lo ≤ hi) (h : bd4 S g hi) : LB S g lo (hi + 1) hi := ⟨h1, by omega, h, fun m a b => by omega⟩
theorem LB_lo {lo' : Nat} (h : LB S g lo' hi n) (hl : lo ≤ n) : LB S g lo hi n := ⟨hl, h.2⟩
theorem phi_le (S : St) (F N : Nat) : phi S F N ≤ 2 * N := by
  have := cnt_le (alv S (F + N)) F N
  unfold phi; omega
theorem phi_drop (S : St) (F e d : Nat) : phi S (F + e) d ≤ phi S F (e + d) := by
  have h := cnt_add (alv S (F + (e + d))) F e d
  unfold phi
  rw [show F + e + d = F + (e + d) by omega]
  omega
/-- one record fewer at the end -/
theorem phi_cut1 (S : St) (F N : Nat) : phi S F N ≤ phi S F (N + 1) := by
  have key : ∃ t, ∀ n, F ≤ n → n < F + N → n ≠ t → alv S (F + N) n → alv S (F + N + 1) n := by
    by_cases k3 : S 9 (F + N) = 3
    · refine ⟨S 14 (F + N), fun n a b e h => ?_⟩
      rcases h with ⟨h1, h2⟩ | ⟨h1, h2⟩
      · refine Or.inl ⟨h1, fun m c1 c2 => ?_⟩
        by_cases q : m = F + N
        · rw [q]; exact fun z => e z.2.symm
        · exact h2 m c1 (by omega)
      · refine Or.inr ⟨h1, fun m c1 c2 => ?_⟩
        by_cases q : m = F + N
        · rw [q]; intro z; unfold bd4 at z; omega
        · exact h2 m c1 (by omega)
    · have c3 : ∀ n, alv S (F + N) n → S 9 n = 1 → alv S (F + N + 1) n := by
        intro n h hk
        rcases h with ⟨h1, h2⟩ | ⟨h1, h2⟩
        · refine Or.inl ⟨h1, fun m c1 c2 => ?_⟩
          by_cases q : m = F + N
          · rw [q]; exact fun z => k3 z.1
          · exact h2 m c1 (by omega)
        · omega
      rcases LB_ex (S := S) (g := S 10 (F + N)) (lo := F) N with h | ⟨t, a1, a2, a3, a4⟩
      · refine ⟨0, fun n a b e h' => ?_⟩
        rcases h' with h' | ⟨h1, h2⟩
        · exact c3 n (Or.inl h') h'.1
        · refine Or.inr ⟨h1, fun m c1 c2 => ?_⟩
          by_cases q : m = F + N
          · rw [q]
            intro z
            exact h n a b ⟨Or.inl h1, z.2.symm⟩
          · exact h2 m c1 (by omega)
      · refine ⟨t, fun n a b e h' => ?_⟩
        rcases h' with h' | ⟨h1, h2⟩
        · exact c3 n (Or.inl h') h'.1
        · refine Or.inr ⟨h1, fun m c1 c2 => ?_⟩
          by_cases q : m = F + N
          · rw [q]
            intro z
            rcases Nat.lt_trichotomy n t with l | l | l
            · exact h2 t l a2 ⟨a3.1, a3.2.trans z.2⟩
            · exact e l
            · exact a4 n l b ⟨Or.inl h1, z.2.symm⟩
          · exact h2 m c1 (by omega)
  obtain ⟨t, ht⟩ := key
  have h1 := cnt_one (P := alv S (F + N)) (Q := alv S (F + N + 1)) (lo := F) t N (fun n a b e => ht n a b e)
  unfold phi
  rw [show F + (N + 1) = F + N + 1 by omega, cnt]
  omega
theorem phi_cut (S : St) (F N : Nat) : ∀ d, phi S F N ≤ phi S F (N + d)
  | 0 => Nat.le_refl _
  | d + 1 => Nat.le_trans (phi_cut S F N d) (phi_cut1 S F (N + d))
theorem alv_cg {h : Nat} (e : ∀ n, n < h → T 9 n = S 9 n ∧ T 10 n = S 10 n ∧ T 14 n = S 14 n) (hn : n < h) (q : alv S h n) : alv T h n := by
  obtain ⟨e9, e10, e14⟩ := e n hn
  unfold alv bd4
  rw [e9, e10]
  rcases q with ⟨q1, q2⟩ | ⟨q1, q2⟩
  · refine Or.inl ⟨q1, fun m a b => ?_⟩
    rw [(e m b).1, (e m b).2.2]
    exact q2 m a b
  · refine Or.inr ⟨q1, fun m a b => ?_⟩
    rw [(e m b).1, (e m b).2.1]
    exact q2 m a b
theorem phi_cg {F N : Nat} (e : ∀ n, n < F + N → T 9 n = S 9 n ∧ T 10 n = S 10 n ∧ T 14 n = S 14 n) : phi T F N = phi S F N := by
  unfold phi
  rw [cnt_cg N (fun n a b => ⟨alv_cg (fun m c => ⟨(e m c).1.symm, (e m c).2.1.symm, (e m c).2.2.symm⟩) b, alv_cg e b⟩)]
/-- a record that takes a live one back, or ends its group, costs nothing -/
theorem phi_pay {F N t : Nat} (e : ∀ n, n < F + N → T 9 n = S 9 n ∧ T 10 n = S 10 n ∧ T 14 n = S 14 n) (h1 : F ≤ t) (h2 : t < F + N) (ha : alv S (F + N) t) (hd : ¬ alv T (F + N + 1) t) (hk : T 9 (F + N) ≠ 0 ∧ T 9 (F + N) ≠ 1) : phi T F (N + 1) ≤ phi S F N := by
  have h := cnt_less (P := alv T (F + N + 1)) (Q := alv S (F + N)) (lo := F) N h1 h2 ha hd (fun n a b q => by
    refine alv_cg (fun m c => ⟨(e m c).1.symm, (e m c).2.1.symm, (e m c).2.2.symm⟩) b ?_
    rcases q with ⟨q1, q2⟩ | ⟨q1, q2⟩
    · exact Or.inl ⟨q1, fun m c1 c2 => q2 m c1 (by omega)⟩
    · exact Or.inr ⟨q1, fun m c1 c2 => q2 m c1 (by omega)⟩)
  have h3 : cI (alv T (F + N + 1) (F + N)) = 0 := cI_0 (by
    rintro (⟨q, -⟩ | ⟨q, -⟩)
    · exact hk.2 q
    · exact hk.1 q)
  unfold phi
  rw [show F + (N + 1) = F + N + 1 by omega, cnt, h3]
  omega
end LBs
