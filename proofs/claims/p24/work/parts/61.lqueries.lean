/-! what the class tells -/
section QU
variable {M : Mem} {S : St} {b h p g n tl : Nat} {P : Nat → St}
theorem k_page (hc : RC (M 0) S) (hv : Inv b S) (hp : p < 8) : f_X7_pageOf M (nI p) 0 = some (nI (val S p)) ∧ f_X7_pageOf M (nI p) 1 = some (nI (mrk S p)) ∧ f_X7_pageOf M (nI p) 2 = some (nI (S 1 p)) ∧ f_X7_pageOf M (nI p) 3 = some (nI (S 2 p)) ∧ f_X7_pageOf M (nI p) 4 = some (b01 ((S 0 6).testBit p)) ∧ f_X7_pageOf M (nI p) 5 = some (b01 ((S 0 7).testBit p)) ∧ f_X7_pageOf M (nI p) 6 = some (if (S 0 7).testBit p then nI (S 5 p) else -1000004) ∧ f_X7_pageOf M (nI p) 7 = some (hol S p) ∧ f_X7_pageOf M (nI p) 9 = some (-1000001) := by
  have n9 := hv.1.2.2.2.2.2.2.2.2
  obtain ⟨c1, c2, c3, c4, c5, c6⟩ := hc.2.1 p hp
  have hcY := hc.1.2.2.2.2.2.2.2.1
  have hcC := hc.1.2.2.2.2.2.2.1
  have tl : ∀ {w : Int32}, f_X4_tell 0 M (nI p) w = (if w = (0 : Int32) then bO (f_X4_valueOf 0 M (nI p)) (fun v4 => some v4) else if w = (1 : Int32) then bO (f_X4_markOf 0 M (nI p)) (fun v6 => some v6) else if w = (2 : Int32) then gd (inb (nI p) 8) (some (M 0 2 (nI p).toNatClampNeg)) else if w = (3 : Int32) then gd (inb (nI p) 8) (some (M 0 3 (nI p).toNatClampNeg)) else if w = (4 : Int32) then some (((M 0 1 5) >>> (nI p &&& 31)) &&& (1 : Int32)) else if w = (5 : Int32) then some (((M 0 1 6) >>> (nI p &&& 31)) &&& (1 : Int32)) else bO (f_X4_startOf 0 M (nI p)) (fun v13 => some v13)) := fun {w} => by
    rw [f_X4_tell, if_neg (by rw [nL_neg (by omega)]; exact id), if_pos (by rw [nl8, nL_lt (by omega) (by omega)]; exact hp)]
  have hd : ∀ w : Int32, f_X7_pageOf M (nI p) w = (if w < 0 then some (-1000001 : Int32) else (if w ≤ (8 : Int32) then (if w = (7 : Int32) then bO (f_X0_holderOf 0 M (nI p)) (fun v6 => some v6) else if w = (8 : Int32) then bO (f_X2_settledValueOf 0 M (nI p)) (fun v8 => some v8) else bO (f_X4_tell 0 M (nI p) w) (fun v9 => some v9)) else some (-1000001 : Int32))) := fun w => by
    rw [f_X7_pageOf, if_neg (by rw [nL_neg (by omega)]; exact id), if_neg (by rw [nl8, nL_le (by omega) (by omega)]; omega)]
  refine ⟨?_, ?_, ?_, ?_, ?_, ?_, ?_, ?_, ?_⟩
  · rw [hd, if_neg (by decide), if_pos (by decide), if_neg (by decide), if_neg (by decide), tl, if_pos (by decide), cl_valueOf hc n9 hp, bO_some, bO_some]
  · rw [hd, if_neg (by decide), if_pos (by decide), if_neg (by decide), if_neg (by decide), tl, if_neg (by decide), if_pos (by decide), cl_markOf hc n9 hp, bO_some, bO_some]
  · rw [hd, if_neg (by decide), if_pos (by decide), if_neg (by decide), if_neg (by decide), tl, if_neg (by decide), if_neg (by decide), if_pos (by decide), gd_in hp (by omega), nL_cl (by omega), bO_some, c1]
  · rw [hd, if_neg (by decide), if_pos (by decide), if_neg (by decide), if_neg (by decide), tl, if_neg (by decide), if_neg (by decide), if_neg (by decide), if_pos (by decide), gd_in hp (by omega), nL_cl (by omega), bO_some, c2]
  · rw [hd, if_neg (by decide), if_pos (by decide), if_neg (by decide), if_neg (by decide), tl, if_neg (by decide), if_neg (by decide), if_neg (by decide), if_neg (by decide), if_pos (by decide), bO_some, hcC, bit8 _ n9.1 p hp]
  · rw [hd, if_neg (by decide), if_pos (by decide), if_neg (by decide), if_neg (by decide), tl, if_neg (by decide), if_neg (by decide), if_neg (by decide), if_neg (by decide), if_neg (by decide), if_pos (by decide), bO_some, hcY, bit8 _ n9.2.1 p hp]
  · rw [hd, if_neg (by decide), if_pos (by decide), if_neg (by decide), if_neg (by decide), tl, if_neg (by decide), if_neg (by decide), if_neg (by decide), if_neg (by decide), if_neg (by decide), if_neg (by decide), cl_startOf hc n9 hp, bO_some, bO_some]
  · rw [hd, if_neg (by decide), if_pos (by decide), if_pos (by decide), cl_holder hc n9 hp, bO_some]
  · rw [hd, if_neg (by decide), if_neg (by decide)]
theorem k_page8 (M : Mem) : f_X7_pageOf M 8 0 = some (-1000001) ∧ f_X7_groupOf M 4 0 = some (-1000001) := by
  constructor
  · rw [f_X7_pageOf, if_neg (by decide), if_pos (by decide)]
  · rw [f_X7_groupOf, if_neg (by decide), if_pos (by decide)]
theorem k_group (hc : RC (M 0) S) (hv : Inv b S) (hg : g < 4) : f_X7_groupOf M (nI g) 0 = some (b01 ((S 0 8).testBit g)) ∧ f_X7_groupOf M (nI g) 1 = some (if (S 0 8).testBit g then nI (S 6 g) else -1000004) ∧ f_X7_groupOf M (nI g) 2 = some (if (S 0 8).testBit g then nI (S 7 g) else -1000004) ∧ f_X7_groupOf M (nI g) 3 = some (if (S 0 8).testBit g then nI (S 8 g) else -1000004) ∧ f_X7_groupOf M (nI g) 4 = some (-1000001) := by
  have n9 := hv.1.2.2.2.2.2.2.2.2
  obtain ⟨b1, b2, b3⟩ := cl_beginOf hc hg
  have io := cl_isOpen hc n9 hg
  have hd : ∀ w : Int32, f_X7_groupOf M (nI g) w = (if w < 0 then some (-1000001 : Int32) else (if w ≤ (3 : Int32) then bO (f_X0_tell 0 M (nI g) w) (fun v5 => some v5) else some (-1000001 : Int32))) := fun w => by
    rw [f_X7_groupOf, if_neg (by rw [nL_neg (by omega)]; exact id), if_neg (by rw [nl4, nL_le (by omega) (by omega)]; omega)]
  refine ⟨?_, ?_, ?_, ?_, ?_⟩
  · rw [hd, if_neg (by decide), if_pos (by decide), f_X0_tell, if_pos (by decide), io, bO_some]
    cases (S 0 8).testBit g <;> rfl
  · rw [hd, if_neg (by decide), if_pos (by decide), f_X0_tell, if_neg (by decide), io, bO_some]
    cases q : (S 0 8).testBit g
    · rfl
    · rw [if_neg (by decide), if_pos (by decide), b1, bO_some, bO_some]; rfl
  · rw [hd, if_neg (by decide), if_pos (by decide), f_X0_tell, if_neg (by decide), io, bO_some]
    cases q : (S 0 8).testBit g
    · rfl
    · rw [if_neg (by decide), if_neg (by decide), if_pos (by decide), b2, bO_some, bO_some]; rfl
  · rw [hd, if_neg (by decide), if_pos (by decide), f_X0_tell, if_neg (by decide), io, bO_some]
    cases q : (S 0 8).testBit g
    · rfl
    · rw [if_neg (by decide), if_neg (by decide), if_neg (by decide), b3, bO_some, bO_some]; rfl
  · rw [hd, if_neg (by decide), if_neg (by decide)]
theorem k_rec_no (hc : RC (M 0) S) (hv : Inv b S) (h1 : 1 ≤ n) (hn : n < 2 ^ 30) (q : ¬ (S 0 0 ≤ n ∧ n < S 0 0 + S 0 1)) : f_X7_recordOf M (nI n) 0 = some (-1000004) := by
  have n1 := hv.1.1
  have n3 := hv.1.2.2.1
  have n4 := hv.1.2.2.2.1
  rw [f_X7_recordOf, if_neg (by rw [nl1, nL_lt (by omega) (by omega)]; omega), if_neg (by decide), if_pos (by decide), f_X2_tell, cl_has hc n1 (by omega) (by omega) hn, bO_some, decide_eq_false q, if_pos (show b01 false = 0 from rfl), bO_some]
theorem k_rec_0 (M : Mem) : f_X7_recordOf M 0 0 = some (-1000001) := by
  rw [f_X7_recordOf, if_pos (by decide)]
theorem k_rec (hc : RC (M 0) S) (hv : Inv b S) (q1 : S 0 0 ≤ n) (q2 : n < S 0 0 + S 0 1) : f_X7_recordOf M (nI n) 0 = some (nI (S 9 n)) ∧ f_X7_recordOf M (nI n) 1 = some (eo (S 9 n) (S 10 n)) ∧ f_X7_recordOf M (nI n) 2 = some (ep (S 9 n) (S 11 n)) ∧ f_X7_recordOf M (nI n) 3 = some (ep (S 9 n) (S 12 n)) ∧ f_X7_recordOf M (nI n) 4 = some (ep (S 9 n) (S 13 n)) ∧ f_X7_recordOf M (nI n) 5 = some (if S 0 2 < n then 0 else 1) ∧ f_X7_recordOf M (nI n) 6 = some (if S 9 n = 5 then nI (S 12 n) else -1000004) ∧ f_X7_recordOf M (nI n) 7 = some (if S 9 n = 5 then nI (S 13 n) else -1000004) ∧ f_X7_recordOf M (nI n) 8 = some (if S 9 n = 3 then nI (S 14 n) else -1000004) ∧ f_X7_recordOf M (nI n) 9 = some (-1000001) := by
  obtain ⟨⟨n1, ⟨n2, n2'⟩, n3, n4, n5, n6, n7, n8, n9⟩, hj, hpi, hr, hst⟩ := id hv
  have y9 := (hj.1.1 n q1 q2).1
  have y2 := n1 0 2
  obtain ⟨r1, r2, r3, r4, r5, r6⟩ := hc.2.2.2 (n - S 0 0) (by omega)
  rw [show S 0 0 + (n - S 0 0) = n by omega] at r1 r2 r3 r4 r5 r6
  have at' : ∀ rw', f_X2_at 0 rw' M (nI n) = some (M 0 rw' (n - S 0 0)) := fun rw' => cl_atI hc n1 (by omega) (by omega) (by omega) q1 q2
  have hd : ∀ w : Int32, f_X7_recordOf M (nI n) w = (if w < 0 then some (-1000001 : Int32) else (if w ≤ (8 : Int32) then f_X2_tell_L36 0 M (nI n) w (nI (S 9 n)) (if S 9 n = 1 ∨ S 9 n = 3 then 1 else 0) else some (-1000001 : Int32))) := fun w => by
    have e : ∀ x : Option Int32, bO x (fun v4 => some v4) = x := fun x => by cases x <;> rfl
    have z : f_X2_tell 0 M (nI n) w = f_X2_tell_L36 0 M (nI n) w (nI (S 9 n)) (if S 9 n = 1 ∨ S 9 n = 3 then 1 else 0) := by
      rw [f_X2_tell, cl_has hc n1 (by omega) (by omega) (by omega), bO_some, decide_eq_true ⟨q1, q2⟩, if_neg (show ¬ b01 true = 0 by decide), at' 12, bO_some, r1]
      by_cases k1 : S 9 n = 1
      · rw [if_pos (by rw [k1]; rfl), f_X2_tell_L31, if_pos (Or.inl k1)]
      · rw [if_neg (by rw [nl1, nL_eq (by omega) (by omega)]; exact k1)]
        by_cases k3 : S 9 n = 3
        · rw [if_pos (by rw [k3]; rfl), f_X2_tell_L31, if_pos (Or.inr k3)]
        · rw [if_neg (by rw [nl3, nL_eq (by omega) (by omega)]; exact k3), if_neg (by omega)]
    rw [f_X7_recordOf, if_neg (by rw [nl1, nL_lt (by omega) (by omega)]; omega), e, z]
  have F : ∀ w : Int32, (w = 0 ∨ w = 1 ∨ w = 2 ∨ w = 3 ∨ w = 4 ∨ w = 5 ∨ w = 6 ∨ w = 7 ∨ w = 8) → f_X7_recordOf M (nI n) w = f_X2_tell_L36 0 M (nI n) w (nI (S 9 n)) (if S 9 n = 1 ∨ S 9 n = 3 then 1 else 0) := fun w hw => by
    rw [hd]
    rcases hw with rfl | rfl | rfl | rfl | rfl | rfl | rfl | rfl | rfl <;> rw [if_neg (by decide), if_pos (by decide)]
  have k5 : (nI (S 9 n) = (5 : Int32)) = (S 9 n = 5) := by rw [nl5]; exact nL_eq (by omega) (by omega)
  have k3 : (nI (S 9 n) = (3 : Int32)) = (S 9 n = 3) := by rw [nl3]; exact nL_eq (by omega) (by omega)
  refine ⟨?_, ?_, ?_, ?_, ?_, ?_, ?_, ?_, ?_, ?_⟩
  · rw [F 0 (by decide), f_X2_tell_L36, if_pos (by decide)]
  · rw [F 1 (by decide), f_X2_tell_L36, if_neg (by decide), if_pos (by decide), at' 13, bO_some, r2]
  · rw [F 2 (by decide), f_X2_tell_L36, if_neg (by decide), if_neg (by decide), if_pos (by decide), at' 14, bO_some, r3]
  · rw [F 3 (by decide), f_X2_tell_L36, if_neg (by decide), if_neg (by decide), if_neg (by decide), if_pos (by decide), at' 15, r4, ep, bO_some]
    by_cases z : S 9 n = 1 ∨ S 9 n = 3
    · rw [if_pos z, if_pos z, if_neg (by decide)]
    · rw [if_neg z, if_neg z, if_pos rfl]
  · rw [F 4 (by decide), f_X2_tell_L36, if_neg (by decide), if_neg (by decide), if_neg (by decide), if_neg (by decide), if_pos (by decide), at' 16, r5, ep, bO_some]
    by_cases z : S 9 n = 1 ∨ S 9 n = 3
    · rw [if_pos z, if_pos z, if_neg (by decide)]
    · rw [if_neg z, if_neg z, if_pos rfl]
  · rw [F 5 (by decide), f_X2_tell_L36, if_neg (by decide), if_neg (by decide), if_neg (by decide), if_neg (by decide), if_neg (by decide), if_pos (by decide), hc.1.2.2.1]
    by_cases z : S 0 2 < n
    · rw [if_pos (by rw [nL_lt (by omega) (by omega)]; exact z), if_pos z]
    · rw [if_neg (by rw [nL_lt (by omega) (by omega)]; exact z), if_neg z]
  · rw [F 6 (by decide), f_X2_tell_L36, if_neg (by decide), if_neg (by decide), if_neg (by decide), if_neg (by decide), if_neg (by decide), if_neg (by decide), if_pos (by decide), at' 15, r4, bO_some]
    by_cases z : S 9 n = 5
    · rw [if_pos (by rw [k5]; exact z), if_pos z]
    · rw [if_neg (by rw [k5]; exact z), if_neg z]
  · rw [F 7 (by decide), f_X2_tell_L36, if_neg (by decide), if_neg (by decide), if_neg (by decide), if_neg (by decide), if_neg (by decide), if_neg (by decide), if_neg (by decide), if_pos (by decide), at' 16, r5, bO_some]
    by_cases z : S 9 n = 5
    · rw [if_pos (by rw [k5]; exact z), if_pos z]
    · rw [if_neg (by rw [k5]; exact z), if_neg z]
  · rw [F 8 (by decide), f_X2_tell_L36, if_neg (by decide), if_neg (by decide), if_neg (by decide), if_neg (by decide), if_neg (by decide), if_neg (by decide), if_neg (by decide), if_neg (by decide), at' 17, r6, bO_some]
    by_cases z : S 9 n = 3
    · rw [if_pos (by rw [k3]; exact z), if_pos z]
    · rw [if_neg (by rw [k3]; exact z), if_neg z]
  · rw [hd, if_neg (by decide), if_neg (by decide)]
theorem k_count (hw : WC M S h P) (hv : Inv b S) (ht : M 9 25 1 = 0) : f_X7_count M 0 = some (nI (S 0 1)) ∧ f_X7_count M 1 = some (if S 0 1 = 0 then 0 else nI (S 0 0)) ∧ f_X7_count M 2 = some (if S 0 1 = 0 then 0 else nI (S 0 0 + S 0 1 - 1)) ∧ f_X7_count M 3 = some (nI (S 0 2 + 1 - S 0 0)) ∧ f_X7_count M 4 = some (nI (S 0 8)) ∧ f_X7_count M 5 = some (nI (S 0 6)) ∧ f_X7_count M 6 = some (nI (S 0 7)) ∧ f_X7_count M 7 = some (nI (S 0 5)) ∧ f_X7_count M 8 = some (nI (S 0 3)) ∧ f_X7_count M 9 = some (nI (drb S)) ∧ f_X7_count M 10 = some (nI (S 0 9)) ∧ f_X7_count M 12 = some 0 ∧ f_X7_count M 13 = some (-1000001) ∧ f_X7_count M (-1) = some (-1000001) := by
  obtain ⟨⟨n1, ⟨n2, n2'⟩, n3, n4, n5, n6, n7, n8, n9⟩, hj, hpi, hr, hst⟩ := id hv
  obtain ⟨hc, h4, o, ho, e1, e2, -⟩ := hw
  obtain ⟨x1, x2, x3, x4, x5, ⟨x6, x7⟩, x8, x9, x10⟩ := hc.1
  have y0 := n1 0 0
  have y2 := n1 0 2
  have y1 := n1 0 1
  have z0 : (nI (S 0 1) = (0 : Int32)) = (S 0 1 = 0) := by rw [nl0]; exact nL_eq (by omega) (by omega)
  refine ⟨?_, ?_, ?_, ?_, ?_, ?_, ?_, ?_, ?_, ?_, ?_, ?_, ?_, ?_⟩
  · rw [f_X7_count, if_neg (by decide), if_neg (by decide), if_neg (by decide), if_neg (by decide), if_neg (by decide), if_neg (by decide), if_neg (by decide), if_neg (by decide), if_neg (by decide), f_X7_count_L125, f_X2_tellNumber, if_pos (by decide), bO_some, x2]
  · rw [f_X7_count, if_neg (by decide), if_neg (by decide), if_neg (by decide), if_neg (by decide), if_neg (by decide), if_neg (by decide), if_neg (by decide), if_neg (by decide), if_neg (by decide), f_X7_count_L125, f_X2_tellNumber, if_neg (by decide), if_pos (by decide), x2, x1]
    by_cases z : S 0 1 = 0
    · rw [if_pos (by rw [z0]; exact z), if_pos z, bO_some]
    · rw [if_neg (by rw [z0]; exact z), if_neg z, bO_some]
  · rw [f_X7_count, if_neg (by decide), if_neg (by decide), if_neg (by decide), if_neg (by decide), if_neg (by decide), if_neg (by decide), if_neg (by decide), if_neg (by decide), if_neg (by decide), f_X7_count_L125, f_X2_tellNumber, if_neg (by decide), if_neg (by decide), if_pos (by decide), cl_last hc n1 (by omega), bO_some, bO_some]
    by_cases z : S 0 1 = 0
    · rw [if_pos z, if_pos z]; rfl
    · rw [if_neg z, if_neg z]
  · have e1 : ((nI (S 0 2) - nI (S 0 0)) + (1 : Int32)) = nI (S 0 2 + 1 - S 0 0) := by
      rw [show (nI (S 0 2) - nI (S 0 0)) + (1 : Int32) = (nI (S 0 2) + 1) - nI (S 0 0) by rw [Int32.sub_eq_add_neg, Int32.sub_eq_add_neg, Int32.add_assoc, Int32.add_comm (-nI (S 0 0)) 1, ← Int32.add_assoc], nI_1, nL_sub (by omega)]
    have e2 : (if (0 : Int32) < nI (S 0 2 + 1 - S 0 0) then nI (S 0 2 + 1 - S 0 0) else (0 : Int32)) = nI (S 0 2 + 1 - S 0 0) := by
      by_cases q : S 0 2 + 1 - S 0 0 = 0
      · rw [q]; rfl
      · rw [if_pos (by rw [nl0, nL_lt (by omega) (by omega)]; omega)]
    rw [f_X7_count, if_neg (by decide), if_neg (by decide), if_neg (by decide), if_neg (by decide), if_neg (by decide), if_neg (by decide), if_neg (by decide), if_neg (by decide), if_neg (by decide), f_X7_count_L125, f_X2_tellNumber, if_neg (by decide), if_neg (by decide), if_neg (by decide), if_pos (by decide), x2, x3, x1, e1, e2]
    by_cases z : S 0 1 = 0
    · have := n8 z
      rw [if_pos (by rw [z0]; exact z), bO_some, show S 0 2 + 1 - S 0 0 = 0 by omega]; rfl
    · rw [if_neg (by rw [z0]; exact z), bO_some]
  · rw [f_X7_count, if_pos (by decide), x10]
  · rw [f_X7_count, if_neg (by decide), if_pos (by decide), x8]
  · rw [f_X7_count, if_neg (by decide), if_neg (by decide), if_pos (by decide), x9]
  · rw [f_X7_count, if_neg (by decide), if_neg (by decide), if_neg (by decide), if_pos (by decide), x6]
    rcases (show S 0 5 = 0 ∨ S 0 5 = 1 by have := n9.2.2.2.2; omega) with e | e
    · rw [e]; rfl
    · rw [e]; rfl
  · rw [f_X7_count, if_neg (by decide), if_neg (by decide), if_neg (by decide), if_neg (by decide), if_pos (by decide), f_X7_count_L125, f_X2_tellNumber, if_neg (by decide), if_neg (by decide), if_neg (by decide), if_neg (by decide), if_neg (by decide), if_neg (by decide), if_neg (by decide), if_neg (by decide), if_pos (by decide), bO_some, x4]
  · rw [f_X7_count, if_neg (by decide), if_neg (by decide), if_neg (by decide), if_neg (by decide), if_neg (by decide), if_pos (by decide), f_X7_count_L125, f_X2_tellNumber, if_neg (by decide), if_neg (by decide), if_neg (by decide), if_neg (by decide), if_neg (by decide), if_neg (by decide), if_neg (by decide), if_neg (by decide), if_neg (by decide), if_pos (by decide), cl_droppable hc n1 (by omega), bO_some, bO_some]
  · rw [f_X7_count, if_neg (by decide), if_neg (by decide), if_neg (by decide), if_neg (by decide), if_neg (by decide), if_neg (by decide), if_pos (by decide), x7]
  · rw [f_X7_count, if_neg (by decide), if_neg (by decide), if_neg (by decide), if_neg (by decide), if_neg (by decide), if_neg (by decide), if_neg (by decide), if_neg (by decide), if_pos (by decide), ht]
  · rw [f_X7_count, if_neg (by decide), if_neg (by decide), if_neg (by decide), if_neg (by decide), if_neg (by decide), if_neg (by decide), if_neg (by decide), if_neg (by decide), if_neg (by decide), f_X7_count_L125, f_X2_tellNumber, if_neg (by decide), if_neg (by decide), if_neg (by decide), if_neg (by decide), if_neg (by decide), if_neg (by decide), if_neg (by decide), if_neg (by decide), if_neg (by decide), if_neg (by decide), bO_some]
  · rw [f_X7_count, if_neg (by decide), if_neg (by decide), if_neg (by decide), if_neg (by decide), if_neg (by decide), if_neg (by decide), if_neg (by decide), if_neg (by decide), if_neg (by decide), f_X7_count_L125, f_X2_tellNumber, if_neg (by decide), if_neg (by decide), if_neg (by decide), if_neg (by decide), if_neg (by decide), if_neg (by decide), if_neg (by decide), if_neg (by decide), if_neg (by decide), if_neg (by decide), bO_some]
theorem k_would (hc : RC (M 0) S) (q5 : S 0 5 ≠ 0) (h5 : S 0 5 < 2) : f_X7_would M 0 0 = some (-1000002, M) := by
  rw [f_X7_would, if_pos (by decide), f_X7_would_L16, f_X7_would_L17, if_neg (by decide), if_neg (by decide), if_neg (by decide), if_pos (by decide), f_X7_would_L43, hc.1.2.2.2.2.2.1.1, if_neg (by rw [nl0, nL_eq (by omega) (by omega)]; exact q5)]
end QU
