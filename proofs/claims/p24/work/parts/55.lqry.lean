/-! what the law reads off its rows -/
theorem bP_some {α β : Type} {v : α} {M : Mem} {k : α → Mem → Option β} : bP (some (v, M)) k = k v M := rfl
theorem bO_some {α β : Type} {v : α} {k : α → Option β} : bO (some v) k = k v := rfl
def bs (c : Bool) (p : Nat) : Int32 := if c then (1 : Int32) <<< (nI p &&& 31) else 0
theorem sum8 : ∀ m, m < 256 → ((((((((0 + bs (m.testBit 0) 0) + bs (m.testBit 1) 1) + bs (m.testBit 2) 2) + bs (m.testBit 3) 3) + bs (m.testBit 4) 4) + bs (m.testBit 5) 5) + bs (m.testBit 6) 6) + bs (m.testBit 7) 7) = nI m := by decide +kernel
theorem sum4 : ∀ m, m < 16 → (((b01 (m.testBit 0) + (2 : Int32) * b01 (m.testBit 1)) + (4 : Int32) * b01 (m.testBit 2)) + (8 : Int32) * b01 (m.testBit 3)) = nI m := by decide +kernel
theorem sub4 : ∀ m, m < 16 → ∀ g, g < 4 → m.testBit g = true → 2 ^ g ≤ m ∧ m - 2 ^ g = (m &&& (255 - 2 ^ g)) := by decide +kernel
theorem Inv_dj {b : Nat} {S : St} {p : Nat} (hv : Inv b S) (hp : p < 8) : ∀ g g', g < 4 → g' < 4 → hb S g p = true → hb S g' p = true → g = g' := by
  intro g g' hg hg' h1 h2
  obtain ⟨-, hj, hpi, hr, hst⟩ := hv
  unfold hb at h1 h2
  rw [Bool.and_eq_true] at h1 h2
  by_cases e : g = g'
  · exact e
  · by_cases q : S 0 5 = 0
    · exact ((hr q).2 g g' p hg hg' hp e h1.1 h2.1 h1.2 h2.2).elim
    · obtain ⟨-, -, z, -⟩ := hst q
      have := h1.1
      rw [z, Nat.zero_testBit] at this
      exact nomatch this
theorem Inv_L {b : Nat} {S : St} (h : Inv b S) : S 0 3 < S 0 0 + S 0 1 := by
  by_cases q : S 0 3 = 0
  · have := h.1.2.2.2.2.1
    omega
  · have h1 := (h.2.1.2.2.1 q).2.1
    have h2 := h.2.1.1.2.2.2
    omega
def hof (S : St) (p : Nat) : Int32 := if hb S 0 p then nI 0 else if hb S 1 p then nI 1 else if hb S 2 p then nI 2 else if hb S 3 p then nI 3 else -1
section LQ1
variable {M : Mem} {S T : St} {O : Nat → Bool} {b p g n t : Nat}
theorem l_holder (h : LQ (fun g => (S 0 8).testBit g) (M 11 29) S) (hs : Sm S) (hp : p < 8) (hd : ∀ g g', g < 4 → g' < 4 → hb S g p = true → hb S g' p = true → g = g') : f_L_holder M (nI p) = some (hof S p) := by
  have stp : ∀ g n y, g < 4 → itr (f_L_holder_L4 M) (fun _ _ _ => none) (n + 1) (nI p) y (nI g) = itr (f_L_holder_L4 M) (fun _ _ _ => none) n (nI p) (if hb S g p then nI g else y) (nI (g + 1)) := fun g n y hg => by
    obtain ⟨h0, ho⟩ := h g hg
    have h0 : M 11 29 (4 * g) = b01 ((S 0 8).testBit g) := h0
    rw [itr_s, f_L_holder_L4, if_neg (by rw [nl4, nL_le (by omega) (by omega)]; omega), g40, gd_in (by omega) (by omega), nL_cl (by omega), h0, hb]
    cases q : (S 0 8).testBit g
    · rw [if_neg (show ¬ b01 false = 1 by decide), f_L_holder_L37, f_L_holder_L38, bd, nI_1]; rfl
    · rw [if_pos (show b01 true = 1 from rfl), nl3, nI_add, gd_in (by omega) (by omega), nL_cl (by omega), (ho q).2.2, bit8 _ (hs.2.2.2.1 g hg) p hp]
      cases q2 : (S 8 g).testBit p
      · rw [if_neg (show ¬ b01 false = 1 by decide), f_L_holder_L37, f_L_holder_L38, bd, nI_1]; rfl
      · rw [if_pos (show b01 true = 1 from rfl), f_L_holder_L38, bd, nI_1]; rfl
  rw [f_L_holder, show FU = 9995 + 1 + 1 + 1 + 1 + 1 from rfl, show itr (f_L_holder_L4 M) (fun _ _ _ => none) (9995 + 1 + 1 + 1 + 1 + 1) (nI p) (-1) 0 = itr (f_L_holder_L4 M) (fun _ _ _ => none) (9995 + 1 + 1 + 1 + 1 + 1) (nI p) (-1) (nI 0) from rfl, stp 0 _ _ (by omega), stp 1 _ _ (by omega), stp 2 _ _ (by omega), stp 3 _ _ (by omega), itr_s, f_L_holder_L4, if_pos (by decide)]
  congr 1
  unfold hof
  cases h0 : hb S 0 p
  · cases h1 : hb S 1 p
    · cases h2 : hb S 2 p <;> cases h3 : hb S 3 p <;> first | rfl | (have := hd 2 3 (by omega) (by omega) h2 h3; omega)
    · cases h2 : hb S 2 p
      · cases h3 : hb S 3 p
        · rfl
        · have := hd 1 3 (by omega) (by omega) h1 h3; omega
      · have := hd 1 2 (by omega) (by omega) h1 h2; omega
  · cases h1 : hb S 1 p
    · cases h2 : hb S 2 p
      · cases h3 : hb S 3 p
        · rfl
        · have := hd 0 3 (by omega) (by omega) h0 h3; omega
      · have := hd 0 2 (by omega) (by omega) h0 h2; omega
    · have := hd 0 1 (by omega) (by omega) h0 h1; omega
theorem l_dirty (h : LPg (M 11 30) S) (hs : S 0 7 < 256) (hB : Bd b S) (hb : b < 2 ^ 29) (hd : PI S) : f_L_dirty M = some (nI (S 0 7)) := by
  have stp : ∀ p n y, p < 8 → itr (f_L_dirty_L4 M) (fun _ _ => none) (n + 1) y (nI p) = itr (f_L_dirty_L4 M) (fun _ _ => none) n (y + bs ((S 0 7).testBit p) p) (nI (p + 1)) := fun p n y hp => by
    obtain ⟨m1, m2⟩ := l_mark1 h hB hb hp (hd p hp)
    rw [itr_s, f_L_dirty_L4, if_neg (by rw [nl8, nL_le (by omega) (by omega)]; omega), l_mark h hp, bO_some, nl1, g6c p 1 hp (by omega), c6 p 1 hp (by omega), m1]
    cases q : (S 0 7).testBit p
    · rw [if_pos (by rw [m2]; exact q), f_L_dirty_L34, bd, bd, nI_1]; rfl
    · rw [if_neg (by rw [m2, q]; decide), f_L_dirty_L34, bd, bd, nI_1]; rfl
  rw [f_L_dirty, show FU = 9991 + 1 + 1 + 1 + 1 + 1 + 1 + 1 + 1 + 1 from rfl, show itr (f_L_dirty_L4 M) (fun _ _ => none) (9991 + 1 + 1 + 1 + 1 + 1 + 1 + 1 + 1 + 1) 0 0 = itr (f_L_dirty_L4 M) (fun _ _ => none) (9991 + 1 + 1 + 1 + 1 + 1 + 1 + 1 + 1 + 1) 0 (nI 0) from rfl, stp 0 _ _ (by omega), stp 1 _ _ (by omega), stp 2 _ _ (by omega), stp 3 _ _ (by omega), stp 4 _ _ (by omega), stp 5 _ _ (by omega), stp 6 _ _ (by omega), stp 7 _ _ (by omega), itr_s, f_L_dirty_L4, if_pos (by decide), sum8 _ hs]
theorem l_open (h : LQ (fun g => (S 0 8).testBit g) (M 11 29) S) (hs : S 0 8 < 16) : f_L_open M = some (nI (S 0 8)) := by
  have e0 := (h 0 (by omega)).1
  have e1 := (h 1 (by omega)).1
  have e2 := (h 2 (by omega)).1
  have e3 := (h 3 (by omega)).1
  rw [f_L_open, show M 11 29 0 = b01 ((S 0 8).testBit 0) from e0, show M 11 29 4 = b01 ((S 0 8).testBit 1) from e1, show M 11 29 8 = b01 ((S 0 8).testBit 2) from e2, show M 11 29 12 = b01 ((S 0 8).testBit 3) from e3, sum4 _ hs]
theorem l_latest (h : LG (M 11 28) S) (hR : LR (wd M) S) (hB : Bd b S) (hb : b < 2 ^ 28) (hN : S 0 1 ≤ 64) (hj : JI S) : f_L_latest M = some (nI (S 0 3)) := by
  obtain ⟨⟨w, f1, f2', f3⟩, l0, l1, k3, al, ph, dm⟩ := hj
  have y0 := hB 0 0
  have y3 := hB 0 3
  have five : ∀ n, S 0 0 ≤ n → n < S 0 0 + S 0 1 → S 9 n = 5 → n ≤ S 0 3 := fun n a c e => by
    by_cases q : S 0 3 = 0
    · exact absurd e ((l0 q).2 n a c)
    · by_cases q2 : n ≤ S 0 3
      · exact q2
      · exact absurd e ((l1 q).2.2.2.1 n (by omega) c)
  have lp : ∀ d n fu y, n + d = S 0 0 + S 0 1 → S 0 0 ≤ n → d < fu → (S 0 3 < n → y = S 0 3) → itr (f_L_latest_L6 M) (fun _ _ => none) fu (nI y) (nI n) = some (nI (S 0 3)) := by
    intro d
    induction d with
    | zero =>
      intro n fu y hn h1 hf hy
      obtain ⟨f, rfl⟩ : ∃ f, fu = f + 1 := ⟨fu - 1, by omega⟩
      have hL : S 0 3 < n := by
        by_cases q : S 0 3 = 0
        · omega
        · have := (l1 q).2.1
          omega
      rw [itr_s, f_L_latest_L6, l_last h f1, bO_some, if_pos (by rw [nL_lt (by omega) (by omega)]; omega), hy hL]
    | succ d ih =>
      intro n fu y hn h1 hf hy
      obtain ⟨f, rfl⟩ : ∃ f, fu = f + 1 := ⟨fu - 1, by omega⟩
      have w1 := (w n h1 (by omega)).1
      rw [itr_s, f_L_latest_L6, l_last h f1, bO_some, if_neg (by rw [nL_lt (by omega) (by omega)]; omega), (l_rec h hR hN h1 (by omega)).1, bO_some]
      by_cases k5 : S 9 n = 5
      · rw [if_pos (by rw [k5]; rfl), f_L_latest_L30, bd, nI_1]
        refine ih (n + 1) f n (by omega) (by omega) (by omega) (fun z => ?_)
        have := five n h1 (by omega) k5
        omega
      · rw [if_neg (by rw [nl5, nL_eq (by omega) (by omega)]; exact k5), f_L_latest_L30, bd, nI_1]
        refine ih (n + 1) f y (by omega) (by omega) (by omega) (fun z => ?_)
        by_cases e : S 0 3 = n
        · exact absurd (by rw [← e]; exact (l1 (by omega)).2.2.1) k5
        · exact hy (by omega)
  rw [f_L_latest, h.1, bd]
  refine lp (S 0 1) (S 0 0) FU 0 rfl (Nat.le_refl _) (by show _ < 10000; omega) (fun z => ?_)
  by_cases q : S 0 3 = 0
  · exact q.symm
  · have := (l1 q).1
    omega
theorem l_drop (h : LG (M 11 28) S) (hR : LR (wd M) S) (hn : LN (M 11 32) S) (hB : Bd b S) (hb : b < 2 ^ 28) (hN : S 0 1 ≤ 64) (hj : JI S) : f_L_drop M = some (nI (drb S)) := by
  have y0 := hB 0 0
  have y3 := hB 0 3
  have y4 := hB 0 4
  rw [f_L_drop, l_latest h hR hB hb hN hj, bO_some]
  unfold drb
  by_cases q : S 0 3 = 0
  · rw [if_pos (by rw [q]; rfl), if_pos q]; rfl
  rw [if_neg (by rw [nl0, nL_eq (by omega) (by omega)]; exact q), if_neg q]
  obtain ⟨⟨w, f1, f2', f3⟩, l0, l1, k3, al, ph, dm⟩ := hj
  obtain ⟨c1, c2, c3, c4, c5, c6, ⟨d1, d2, d3, d4⟩, c8⟩ := l1 q
  have of6 : f_L_of M (nI (S 0 3)) 6 = some (nI (S 12 (S 0 3))) := ((l_rec h hR hN c1 (by omega)).2.2.2.2.2 c3).1
  -- the groups
  have lp2 : ∀ d fu v m, d ≤ S 0 3 - S 0 0 → d < fu → S 0 4 ≤ v → v ≤ S 0 3 → m < 16 → (∀ g, g < 4 → (m.testBit g = true ↔ ∃ n, n < S 0 0 + d ∧ LB S g (S 0 0) (S 0 3) n ∧ S 9 n = 0)) → (∀ g, g < 4 → ∀ n, S 0 0 + d ≤ n → LB S g (S 0 0) (S 0 3) n → S 9 n = 0 → v ≤ n) → (∀ p, p < 8 → S 15 p ≠ 0 → v ≤ S 15 p) → itr (f_L_drop_L73 M) (fun _ _ _ => none) fu (nI v) (nI m) (nI (S 0 0 + d - 1)) = some (nI (S 0 4 - S 0 0)) := by
    intro d
    induction d with
    | zero =>
      intro fu v m hd hf v1 v2 hm hb2 v3 v4
      obtain ⟨f, rfl⟩ : ∃ f, fu = f + 1 := ⟨fu - 1, by omega⟩
      have ev : v = S 0 4 := by
        rcases d4 with d4 | ⟨g, hg, n, z1, z2, z3⟩ | ⟨p, hp, z1, z2⟩
        · omega
        · have := v3 g hg n z1.1 z1 z2
          omega
        · have := v4 p hp z1
          omega
      have z : S 0 0 ≤ S 0 4 := by
        rcases d4 with d4 | ⟨g, hg, n, z1, z2, z3⟩ | ⟨p, hp, z1, z2⟩
        · omega
        · have := z1.1; omega
        · have := c8 p hp; omega
      rw [itr_s, f_L_drop_L73, if_pos (by rw [h.1, nL_lt (by omega) (by omega)]; omega), h.1, ev, nL_sub z]
    | succ d ih =>
      intro fu v m hd hf v1 v2 hm hb2 v3 v4
      obtain ⟨f, rfl⟩ : ∃ f, fu = f + 1 := ⟨fu - 1, by omega⟩
      have ek : S 0 0 + (d + 1) - 1 = S 0 0 + d := by omega
      rw [ek]
      obtain ⟨w1, w2, w3⟩ := w (S 0 0 + d) (by omega) (by omega)
      obtain ⟨o0, ⟨g1, hg1, o1, o1e⟩, -⟩ := l_rec h hR hN (n := S 0 0 + d) (by omega) (by omega)
      have em : nI (S 0 0 + d) + (-1 : Int32) = nI (S 0 0 + d - 1) := by
        rw [show S 0 0 + d = (S 0 0 + d - 1) + 1 by omega, pk_m1]
        rfl
      rw [itr_s, f_L_drop_L73, if_neg (by rw [h.1, nL_lt (by omega) (by omega)]; omega), o1, bO_some, o0, bO_some]
      have no : ¬ (S 9 (S 0 0 + d) = 0 ∧ m.testBit (S 10 (S 0 0 + d)) = true) → f_L_drop_L138 M (itr (f_L_drop_L73 M) (fun _ _ _ => none) f) (nI v) (nI m) (nI (S 0 0 + d)) = some (nI (S 0 4 - S 0 0)) := fun z => by
        have nk : ∀ g, g < 4 → LB S g (S 0 0) (S 0 3) (S 0 0 + d) → S 9 (S 0 0 + d) = 0 → False := fun g hg a1 a2 => by
          have e := a1.2.2.1.2
          exact z ⟨a2, by rw [e]; exact (hb2 g hg).mpr ⟨_, by omega, a1, a2⟩⟩
        rw [f_L_drop_L138, bd, em]
        refine ih f v m (by omega) (by omega) v1 v2 hm (fun g hg => (hb2 g hg).trans ⟨fun ⟨n, a1, a2, a3⟩ => ?_, fun ⟨n, a1, a2, a3⟩ => ⟨n, by omega, a2, a3⟩⟩) (fun g hg n a1 a2 a3 => ?_) v4
        · by_cases e : n = S 0 0 + d
          · rw [e] at a2 a3; exact (nk g hg a2 a3).elim
          · exact ⟨n, by omega, a2, a3⟩
        · by_cases e : n = S 0 0 + d
          · rw [e] at a2 a3; exact (nk g hg a2 a3).elim
          · exact v3 g hg n (by omega) a2 a3
      by_cases k0 : S 9 (S 0 0 + d) = 0
      · have eg := o1e (by omega)
        have hg := w2 (by omega)
        rw [if_pos (by rw [k0]; rfl), eg, bit8 _ (by omega) _ (by omega)]
        by_cases o : m.testBit (S 10 (S 0 0 + d)) = true
        · rw [if_pos (by rw [b01_1]; exact o), bone8 _ (by omega), nL_sub (sub4 m hm _ hg o).1, (sub4 m hm _ hg o).2, bd]
          obtain ⟨n0, n1, n2, n3⟩ := (hb2 _ hg).mp o
          have en : n0 = S 0 0 + d := by
            by_cases e : n0 = S 0 0 + d
            · exact e
            · exact absurd ⟨Or.inl k0, rfl⟩ (n2.2.2.2 (S 0 0 + d) (by omega) (by omega))
          subst en
          have dB := d2 _ hg _ n2 n3
          have t4 := tset4 m hm _ hg
          have tb := (tclr8 m (by omega) _ (show S 10 (S 0 0 + d) < 8 by omega)).2
          have nb : ∀ g, g < 4 → ((m &&& (255 - 2 ^ S 10 (S 0 0 + d))).testBit g = true ↔ ∃ n, n < S 0 0 + d ∧ LB S g (S 0 0) (S 0 3) n ∧ S 9 n = 0) := fun g hg' => by
            rw [tb g (by omega)]
            by_cases e : g = S 10 (S 0 0 + d)
            · rw [decide_eq_true e, Bool.not_true, Bool.and_false]
              exact ⟨fun z => (nomatch z), fun ⟨n, a1, a2, a3⟩ => by
                subst e
                have := LB_uq a2 n2
                omega⟩
            · rw [decide_eq_false e, Bool.not_false, Bool.and_true]
              refine (hb2 g hg').trans ⟨fun ⟨n, a1, a2, a3⟩ => ⟨n, ?_, a2, a3⟩, fun ⟨n, a1, a2, a3⟩ => ⟨n, by omega, a2, a3⟩⟩
              by_cases en : n = S 0 0 + d
              · rw [en] at a2
                exact absurd a2.2.2.1.2.symm e
              · omega
          have go : ∀ v', S 0 4 ≤ v' → v' ≤ S 0 0 + d → v' ≤ v → itr (f_L_drop_L73 M) (fun _ _ _ => none) f (nI v') (nI (m &&& (255 - 2 ^ S 10 (S 0 0 + d)))) (nI (S 0 0 + d - 1)) = some (nI (S 0 4 - S 0 0)) := fun v' u1 u2 u3 => by
            refine ih f v' _ (by omega) (by omega) u1 (by omega) t4.2 nb (fun g hg' n a1 a2 a3 => ?_) (fun p hp hne => by have := v4 p hp hne; omega)
            by_cases en : n = S 0 0 + d
            · omega
            · have := v3 g hg' n (by omega) a2 a3; omega
          by_cases z : v ≤ S 0 0 + d
          · rw [if_pos (by rw [nL_le (by omega) (by omega)]; exact z), f_L_drop_L136, f_L_drop_L138, bd, em]
            exact go v v1 z (Nat.le_refl _)
          · rw [if_neg (by rw [nL_le (by omega) (by omega)]; exact z), f_L_drop_L136, f_L_drop_L138, bd, em]
            exact go _ dB (Nat.le_refl _) (by omega)
        · rw [if_neg (by rw [b01_1]; exact o)]
          exact no (fun z => o z.2)
      · rw [if_neg (by rw [nl0, nL_eq (by omega) (by omega)]; exact k0)]
        exact no (fun z => k0 z.1)
  -- the pages
  have lp1 : ∀ d i fu v, i + d = 8 → d < fu → S 0 4 ≤ v → v ≤ S 0 3 → (∀ p, p < i → S 15 p ≠ 0 → v ≤ S 15 p) → itr (f_L_drop_L18 M) (fun _ _ _ => none) fu (nI (S 0 3)) (nI v) (nI i) = some (nI (S 0 4 - S 0 0)) := by
    intro d
    induction d with
    | zero =>
      intro i fu v hi hf v1 v2 v4
      obtain ⟨f, rfl⟩ : ∃ f, fu = f + 1 := ⟨fu - 1, by omega⟩
      have hi : i = 8 := by omega
      subst hi
      rw [itr_s, f_L_drop_L18, if_pos (by decide), of6, bO_some, nl1, nL_sub (by omega), bd]
      have := lp2 (S 0 3 - S 0 0) FU v (S 12 (S 0 3)) (Nat.le_refl _) (by show _ < 10000; omega) v1 v2 c5 (fun g hg => (c6 g hg).trans ⟨fun ⟨n, a1, a2⟩ => ⟨n, by have := a1.2.1; omega, a1, a2⟩, fun ⟨n, a1, a2, a3⟩ => ⟨n, a2, a3⟩⟩) (fun g hg n a1 a2 a3 => by have := a2.2.1; omega) v4
      rw [show S 0 0 + (S 0 3 - S 0 0) - 1 = S 0 3 - 1 by omega] at this
      exact this
    | succ d ih =>
      intro i fu v hi hf v1 v2 v4
      obtain ⟨f, rfl⟩ : ∃ f, fu = f + 1 := ⟨fu - 1, by omega⟩
      have y15 := hB 15 i
      rw [itr_s, f_L_drop_L18, if_neg (by rw [nl8, nL_le (by omega) (by omega)]; omega), gd_in (by omega) (by omega), gd_in (by omega) (by omega), gd_in (by omega) (by omega), nL_cl (by omega), hn q i (by omega)]
      have sk : (S 15 i = 0 ∨ v ≤ S 15 i) → f_L_drop_L48 M (itr (f_L_drop_L18 M) (fun _ _ _ => none) f) (nI (S 0 3)) (nI v) (nI i) = some (nI (S 0 4 - S 0 0)) := fun z => by
        rw [f_L_drop_L48, f_L_drop_L50, bd, nI_1]
        refine ih (i + 1) f v (by omega) (by omega) v1 v2 (fun p hp hne => ?_)
        by_cases e : p = i
        · rw [e] at hne ⊢; omega
        · exact v4 p (by omega) hne
      by_cases z : S 15 i = 0
      · rw [if_pos (by rw [z]; decide)]
        exact sk (Or.inl z)
      · rw [if_neg (by rw [nl0, nL_le (by omega) (by omega)]; omega)]
        by_cases z2 : v ≤ S 15 i
        · rw [if_pos (by rw [nL_le (by omega) (by omega)]; exact z2)]
          exact sk (Or.inr z2)
        · rw [if_neg (by rw [nL_le (by omega) (by omega)]; exact z2), f_L_drop_L50, bd, nI_1]
          refine ih (i + 1) f (S 15 i) (by omega) (by omega) (d3 i (by omega) z) (by omega) (fun p hp hne => ?_)
          by_cases e : p = i
          · rw [e]; exact Nat.le_refl _
          · have := v4 p (by omega) hne
            omega
  exact lp1 8 0 FU (S 0 3) rfl (by decide) d1 (Nat.le_refl _) (fun p hp => by omega)
end LQ1
