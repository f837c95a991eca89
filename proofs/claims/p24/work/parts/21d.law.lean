/-! SealedGroupsLaw.acts -/
noncomputable def f_L_acts_L1123  (M : Mem) (y7 : Int32) : Option (Int32 × Mem) :=
gd (¬ (2 : Int32) = 0) (
bP (f_X7_stop M (y7 - y7 / (2 : Int32) * (2 : Int32))) (fun v22 M23 =>
gd (¬ (2 : Int32) = 0) (
bP (f_L_stop M23 (y7 - y7 / (2 : Int32) * (2 : Int32))) (fun v25 M26 =>
(if v22 = v25 then
some ((1 : Int32), M26)
else
some ((0 : Int32), M26))))))
noncomputable def f_L_acts_L1191  (M : Mem) (y9 y14 : Int32) : Option (Int32 × Mem) :=
bP (f_X7_dropOut M y14) (fun v34 M35 =>
(if v34 = y9 then
some ((1 : Int32), M35)
else
some ((0 : Int32), M35)))
noncomputable def f_L_acts_L1214  (K1214 : Mem → Int32 → Int32 → Int32 → Option (Int32 × Mem)) (M : Mem) (y14 y15 y16 : Int32) : Option (Int32 × Mem) :=
(if (8 : Int32) ≤ y16 then
gd (inb (((6 : Int32) * y14) + (2 : Int32)) 48) (
bd (st M 11 30 ((((6 : Int32) * y14) + (2 : Int32))).toNatClampNeg (0 : Int32)) (fun M41 =>
bP (f_X7_dropOut M41 y14) (fun v43 M44 =>
(if v43 = y15 then
some ((1 : Int32), M44)
else
some ((0 : Int32), M44)))))
else
gd (inb (((6 : Int32) * y16) + (2 : Int32)) 48) (
bd ((y15 + (M 11 30 ((((6 : Int32) * y16) + (2 : Int32))).toNatClampNeg))) (fun x47 =>
bd (y16 + (1 : Int32)) (fun x48 =>
K1214 M y14 x47 x48))))
noncomputable def f_L_acts_L1152  (M : Mem) (y7 y9 : Int32) : Option (Int32 × Mem) :=
gd (¬ (4 : Int32) = 0) (
gd (¬ (8 : Int32) = 0) (
bd (((y7 / (4 : Int32)) - (y7 / (4 : Int32)) / (8 : Int32) * (8 : Int32))) (fun x31 =>
gd (inb (((6 : Int32) * x31) + (2 : Int32)) 48) (
(if (M 11 30 ((((6 : Int32) * x31) + (2 : Int32))).toNatClampNeg) = 0 then
f_L_acts_L1191 M y9 x31
else
bO (f_L_mark M x31) (fun v37 =>
gd (inb (((6 : Int32) * x31) + (1 : Int32)) 48) (
(if v37 = (M 11 30 ((((6 : Int32) * x31) + (1 : Int32))).toNatClampNeg) then
itr (f_L_acts_L1214 ) (fun _ _ _ _ => none) FU M x31 (-1 : Int32) (0 : Int32)
else
f_L_acts_L1191 M y9 x31))))))))
noncomputable def f_L_acts_L1018  (K1018 : Mem → Int32 → Int32 → Option (Int32 × Mem)) (M : Mem) (y14 y15 : Int32) : Option (Int32 × Mem) :=
(if (M 11 28 1) ≤ y15 then
bd (st M 11 28 0 ((M 11 28 0) + y14)) (fun M61 =>
bd (st M61 11 28 1 ((M61 11 28 1) - y14)) (fun M62 =>
bP (f_X7_dropRecords M62) (fun v63 M64 =>
(if v63 = y14 then
some ((1 : Int32), M64)
else
some ((0 : Int32), M64)))))
else
gd (inb y15 64) (
gd (inb (y15 - y14) 64) (
bd (stl M ((y15 - y14)).toNatClampNeg (ldl M (y15).toNatClampNeg)) (fun M68 =>
bd (y15 + (1 : Int32)) (fun x69 =>
K1018 M68 y14 x69)))))
noncomputable def f_L_acts_L973  (M : Mem) (y7 y8 y9 y12 : Int32) : Option (Int32 × Mem) :=
(if (25 : Int32) ≤ y8 then
(if y8 = (25 : Int32) then
bP (f_X7_force M) (fun v51 M52 =>
bO (f_L_last M52) (fun v53 =>
bP (f_L_force M52 v53) (fun v54 M55 =>
(if v51 = v54 then
some ((1 : Int32), M55)
else
some ((0 : Int32), M55)))))
else
(if y8 = (26 : Int32) then
f_L_acts_L1123 M y7
else
(if y12 = 0 then
f_L_acts_L1152 M y7 y9
else
gd (¬ (2 : Int32) = 0) (
(if (y7 - y7 / (2 : Int32) * (2 : Int32)) = 0 then
f_L_acts_L1123 M y7
else
f_L_acts_L1152 M y7 y9)))))
else
bO (f_L_latest M) (fun v57 =>
(if v57 = 0 then
bP (f_X7_dropRecords M) (fun v70 M71 =>
(if v70 = y9 then
some ((1 : Int32), M71)
else
some ((0 : Int32), M71)))
else
bO (f_L_drop M) (fun v59 =>
itr (f_L_acts_L1018 ) (fun _ _ _ => none) FU M v59 v59))))
noncomputable def f_L_acts_L915  (K878 : Mem → Int32 → Int32 → Option (Int32 × Mem)) (M : Mem) (y14 y15 z0 z1 : Int32) : Option (Int32 × Mem) :=
gd (inb z1 8) (
bd (st M 11 32 (z1).toNatClampNeg z0) (fun M89 =>
bd (y15 + (1 : Int32)) (fun x91 =>
K878 M89 y14 x91)))
noncomputable def f_L_acts_L878  (K878 : Mem → Int32 → Int32 → Option (Int32 × Mem)) (M : Mem) (y14 y15 : Int32) : Option (Int32 × Mem) :=
(if (8 : Int32) ≤ y15 then
gd (inb (y14 - (M 11 28 0)) 64) (
bO (f_L_open M) (fun v78 =>
bO (f_L_dirty M) (fun v79 =>
gd (inb (y14 - (M 11 28 0)) 64) (
bd (stl M ((y14 - (M 11 28 0))).toNatClampNeg ((ldl M ((y14 - (M 11 28 0))).toNatClampNeg) ||| (((v78).toInt64 <<< (((31 : Int32) : Int32).toInt64 &&& 63)) ||| ((v79).toInt64 <<< (((35 : Int32) : Int32).toInt64 &&& 63))))) (fun M81 =>
bP (f_L_force M81 y14) (fun v82 M83 =>
bP (f_X7_checkpoint M83) (fun v84 M85 =>
(if v84 = y14 then
some ((1 : Int32), M85)
else
some ((0 : Int32), M85)))))))))
else
bO (f_L_dirty M) (fun v87 =>
(if ((v87 >>> (y15 &&& 31)) &&& (1 : Int32)) = (1 : Int32) then
gd (inb (((6 : Int32) * y15) + (5 : Int32)) 48) (
f_L_acts_L915 K878 M y14 y15 (M 11 30 ((((6 : Int32) * y15) + (5 : Int32))).toNatClampNeg) y15)
else
f_L_acts_L915 K878 M y14 y15 (0 : Int32) y15)))
noncomputable def f_L_acts_L720  (M : Mem) (y7 y8 y9 y12 y13 : Int32) : Option (Int32 × Mem) :=
(if (22 : Int32) ≤ y8 then
(if y8 = (22 : Int32) then
(if y12 = 0 then
bP (f_L_add M (5 : Int32) (0 : Int32) (0 : Int32) (0 : Int32) (0 : Int32) (0 : Int32)) (fun v74 M75 =>
itr (f_L_acts_L878 ) (fun _ _ _ => none) FU M75 v74 (0 : Int32))
else
f_L_acts_L973 M y7 y8 y9 y12)
else
f_L_acts_L973 M y7 y8 y9 y12)
else
bO (f_L_mark M y13) (fun v93 =>
gd (inb (((6 : Int32) * y13) + (1 : Int32)) 48) (
(if v93 = (M 11 30 ((((6 : Int32) * y13) + (1 : Int32))).toNatClampNeg) then
bP (f_X7_writeOut M y13) (fun v108 M109 =>
(if v108 = y9 then
gd (inb (((6 : Int32) * y13) + (2 : Int32)) 48) (
(if (M109 11 30 ((((6 : Int32) * y13) + (2 : Int32))).toNatClampNeg) = (1 : Int32) then
some ((1 : Int32), M109)
else
bP (f_X7_dropOut M109 y13) (fun v113 M114 =>
(if v113 = y9 then
some ((1 : Int32), M114)
else
some ((0 : Int32), M114)))))
else
some ((0 : Int32), M109)))
else
bO (f_L_mark M y13) (fun v96 =>
bP (f_L_force M v96) (fun v97 M98 =>
gd (inb (((6 : Int32) * y13) + (3 : Int32)) 48) (
gd (inb ((6 : Int32) * y13) 48) (
bd (st M98 11 30 (((6 : Int32) * y13)).toNatClampNeg (M98 11 30 ((((6 : Int32) * y13) + (3 : Int32))).toNatClampNeg)) (fun M100 =>
gd (inb (((6 : Int32) * y13) + (4 : Int32)) 48) (
gd (inb (((6 : Int32) * y13) + (1 : Int32)) 48) (
bd (st M100 11 30 ((((6 : Int32) * y13) + (1 : Int32))).toNatClampNeg (M100 11 30 ((((6 : Int32) * y13) + (4 : Int32))).toNatClampNeg)) (fun M103 =>
bP (f_X7_writeOut M103 y13) (fun v105 M106 =>
(if v105 = v97 then
some ((1 : Int32), M106)
else
some ((0 : Int32), M106)))))))))))))))
noncomputable def f_L_acts_L673  (K673 : Mem → Int32 → Int32 → Int32 → Int32 → Int32 → Int32 → Option (Int32 × Mem)) (M : Mem) (y7 y8 y9 y12 y13 y14 : Int32) : Option (Int32 × Mem) :=
(if (8 : Int32) ≤ y14 then
f_L_acts_L720 M y7 y8 y9 y12 y13
else
bO (f_L_mark M y13) (fun v116 =>
gd (inb (((6 : Int32) * y13) + (1 : Int32)) 48) (
(if v116 = (M 11 30 ((((6 : Int32) * y13) + (1 : Int32))).toNatClampNeg) then
gd (¬ (3 : Int32) = 0) (
(if (y7 - y7 / (3 : Int32) * (3 : Int32)) ≤ 0 then
f_L_acts_L720 M y7 y8 y9 y12 y13
else
gd (¬ (8 : Int32) = 0) (
bd (((y13 + (1 : Int32)) - (y13 + (1 : Int32)) / (8 : Int32) * (8 : Int32))) (fun x122 =>
bd (y14 + (1 : Int32)) (fun x123 =>
K673 M y7 y8 y9 y12 x122 x123)))))
else
f_L_acts_L720 M y7 y8 y9 y12 y13))))
noncomputable def f_L_acts_L661  (M : Mem) (y7 y8 y9 y12 : Int32) : Option (Int32 × Mem) :=
gd (¬ (4 : Int32) = 0) (
gd (¬ (8 : Int32) = 0) (
bd (((y7 / (4 : Int32)) - (y7 / (4 : Int32)) / (8 : Int32) * (8 : Int32))) (fun x14 =>
itr (f_L_acts_L673 ) (fun _ _ _ _ _ _ _ => none) FU M y7 y8 y9 y12 x14 (0 : Int32))))
noncomputable def f_L_acts_L580  (M : Mem) (y7 y8 y9 y10 y11 y12 : Int32) : Option (Int32 × Mem) :=
(if y8 = (18 : Int32) then
gd (inb (y11 + (2 : Int32)) 16) (
(if (32 : Int32) ≤ ((M 11 28 1) + (M 11 29 ((y11 + (2 : Int32))).toNatClampNeg)) then
f_L_acts_L661 M y7 y8 y9 y12
else
gd (inb y11 16) (
(if (M 11 29 (y11).toNatClampNeg) = 0 then
bP (f_X7_takeBack M y10) (fun v135 M136 =>
(if v135 = y9 then
some ((1 : Int32), M136)
else
some ((0 : Int32), M136)))
else
bP (f_L_back M ((1 : Int32) <<< (y10 &&& 31))) (fun v128 M129 =>
gd (inb y11 16) (
bd (st M129 11 29 (y11).toNatClampNeg (0 : Int32)) (fun M130 =>
bP (f_X7_takeBack M130 y10) (fun v132 M133 =>
(if v132 = v128 then
some ((1 : Int32), M133)
else
some ((0 : Int32), M133))))))))))
else
f_L_acts_L661 M y7 y8 y9 y12)
noncomputable def f_L_acts_L511  (K511 : Mem → Int32 → Int32 → Int32 → Int32 → Option (Int32 × Mem)) (M : Mem) (y10 y11 y13 y14 : Int32) : Option (Int32 × Mem) :=
(if (8 : Int32) ≤ y14 then
bP (f_L_add M (2 : Int32) y10 (0 : Int32) (0 : Int32) (0 : Int32) (0 : Int32)) (fun v142 M143 =>
bP (f_L_force M143 v142) (fun v144 M145 =>
gd (inb y11 16) (
bd (st M145 11 29 (y11).toNatClampNeg (0 : Int32)) (fun M146 =>
bP (f_X7_settle M146 y10) (fun v148 M149 =>
(if v148 = y13 then
some ((1 : Int32), M149)
else
some ((0 : Int32), M149)))))))
else
gd (inb (y11 + (3 : Int32)) 16) (
bd ((y13 + (((M 11 29 ((y11 + (3 : Int32))).toNatClampNeg) >>> (y14 &&& 31)) &&& (1 : Int32)))) (fun x152 =>
bd (y14 + (1 : Int32)) (fun x153 =>
K511 M y10 y11 x152 x153))))
noncomputable def f_L_acts_L469  (M : Mem) (y7 y8 y9 y10 y11 y12 : Int32) : Option (Int32 × Mem) :=
(if (18 : Int32) ≤ y8 then
f_L_acts_L580 M y7 y8 y9 y10 y11 y12
else
(if y12 = 0 then
gd (inb y11 16) (
(if (M 11 29 (y11).toNatClampNeg) = 0 then
bP (f_X7_settle M y10) (fun v154 M155 =>
(if v154 = y9 then
some ((1 : Int32), M155)
else
some ((0 : Int32), M155)))
else
itr (f_L_acts_L511 ) (fun _ _ _ _ _ => none) FU M y10 y11 (0 : Int32) (0 : Int32)))
else
f_L_acts_L580 M y7 y8 y9 y10 y11 y12))
noncomputable def f_L_acts_L372  (M : Mem) (y9 y10 y13 y14 : Int32) : Option (Int32 × Mem) :=
bP (f_X7_write M y10 y13 y14) (fun v167 M168 =>
(if v167 = y9 then
some ((1 : Int32), M168)
else
some ((0 : Int32), M168)))
noncomputable def f_L_acts_L393  (M : Mem) (y10 y11 y13 y14 : Int32) : Option (Int32 × Mem) :=
bO (f_L_value M y13) (fun v171 =>
bP (f_L_add M (1 : Int32) y10 y13 v171 y14 (0 : Int32)) (fun v172 M173 =>
bO (f_L_come M173 y13 y14 v172) (fun M175 =>
gd (inb (y11 + (2 : Int32)) 16) (
gd (inb (y11 + (2 : Int32)) 16) (
bd (st M175 11 29 ((y11 + (2 : Int32))).toNatClampNeg ((M175 11 29 ((y11 + (2 : Int32))).toNatClampNeg) + (1 : Int32))) (fun M177 =>
gd (inb (y11 + (3 : Int32)) 16) (
gd (inb (y11 + (3 : Int32)) 16) (
bd (st M177 11 29 ((y11 + (3 : Int32))).toNatClampNeg ((M177 11 29 ((y11 + (3 : Int32))).toNatClampNeg) ||| ((1 : Int32) <<< (y13 &&& 31)))) (fun M180 =>
bP (f_X7_write M180 y10 y13 y14) (fun v182 M183 =>
(if v182 = v171 then
some ((1 : Int32), M183)
else
some ((0 : Int32), M183))))))))))))
noncomputable def f_L_acts_L314  (M : Mem) (y7 y8 y9 y10 y11 y12 : Int32) : Option (Int32 × Mem) :=
(if (15 : Int32) ≤ y8 then
f_L_acts_L469 M y7 y8 y9 y10 y11 y12
else
(if y12 = 0 then
gd (¬ (4 : Int32) = 0) (
gd (¬ (8 : Int32) = 0) (
bd (((y7 / (4 : Int32)) - (y7 / (4 : Int32)) / (8 : Int32) * (8 : Int32))) (fun x160 =>
gd (¬ (32 : Int32) = 0) (
gd (¬ (100 : Int32) = 0) (
bd (((y7 / (32 : Int32)) - (y7 / (32 : Int32)) / (100 : Int32) * (100 : Int32))) (fun x163 =>
bO (f_L_holder M x160) (fun v164 =>
gd (inb y11 16) (
(if (M 11 29 (y11).toNatClampNeg) = 0 then
f_L_acts_L372 M y9 y10 x160 x163
else
(if v164 < 0 then
f_L_acts_L393 M y10 y11 x160 x163
else
(if v164 = y10 then
f_L_acts_L393 M y10 y11 x160 x163
else
f_L_acts_L372 M y9 y10 x160 x163)))))))))))
else
f_L_acts_L469 M y7 y8 y9 y10 y11 y12))
noncomputable def f_L_acts_L49  (M : Mem) (y7 y8 y9 y10 y11 z0 : Int32) : Option (Int32 × Mem) :=
(if (M 11 28 3) = (1 : Int32) then
(if (10 : Int32) ≤ y8 then
bd (sr M 11 33 (fun _ => 0)) (fun M207 =>
bP (f_L_start M207) (fun v208 M209 =>
bP (f_X7_restart M209) (fun v210 M211 =>
(if v210 = v208 then
some ((1 : Int32), M211)
else
some ((0 : Int32), M211)))))
else
bP (f_X7_begin M y10) (fun v213 M214 =>
(if v213 = y9 then
bP (f_X7_write M214 y10 (0 : Int32) (0 : Int32)) (fun v216 M217 =>
(if v216 = y9 then
bP (f_X7_settle M217 y10) (fun v219 M220 =>
(if v219 = y9 then
bP (f_X7_takeBack M220 y10) (fun v222 M223 =>
(if v222 = y9 then
bP (f_X7_writeOut M223 (0 : Int32)) (fun v225 M226 =>
(if v225 = y9 then
bP (f_X7_dropOut M226 (0 : Int32)) (fun v228 M229 =>
(if v228 = y9 then
bP (f_X7_checkpoint M229) (fun v231 M232 =>
(if v231 = y9 then
bP (f_X7_dropRecords M232) (fun v234 M235 =>
(if v234 = y9 then
bP (f_X7_force M235) (fun v237 M238 =>
(if v237 = y9 then
bP (f_X7_stop M238 (0 : Int32)) (fun v240 M241 =>
(if v240 = y9 then
bP (f_X7_would M241 (0 : Int32) (0 : Int32)) (fun v243 M244 =>
(if v243 = y9 then
some ((1 : Int32), M244)
else
some ((0 : Int32), M244)))
else
some ((0 : Int32), M241)))
else
some ((0 : Int32), M238)))
else
some ((0 : Int32), M235)))
else
some ((0 : Int32), M232)))
else
some ((0 : Int32), M229)))
else
some ((0 : Int32), M226)))
else
some ((0 : Int32), M223)))
else
some ((0 : Int32), M220)))
else
some ((0 : Int32), M217)))
else
some ((0 : Int32), M214))))
else
(if (6 : Int32) ≤ y8 then
f_L_acts_L314 M y7 y8 y9 y10 y11 z0
else
(if z0 = 0 then
gd (inb y11 16) (
(if (M 11 29 (y11).toNatClampNeg) = (1 : Int32) then
bP (f_X7_begin M y10) (fun v203 M204 =>
(if v203 = y9 then
some ((1 : Int32), M204)
else
some ((0 : Int32), M204)))
else
gd (inb y11 16) (
bd (st M 11 29 (y11).toNatClampNeg (1 : Int32)) (fun M189 =>
bP (f_L_add M189 (0 : Int32) y10 (0 : Int32) (0 : Int32) (0 : Int32) (0 : Int32)) (fun v191 M192 =>
gd (inb (y11 + (1 : Int32)) 16) (
bd (st M192 11 29 ((y11 + (1 : Int32))).toNatClampNeg v191) (fun M193 =>
gd (inb (y11 + (2 : Int32)) 16) (
bd (st M193 11 29 ((y11 + (2 : Int32))).toNatClampNeg (0 : Int32)) (fun M195 =>
gd (inb (y11 + (3 : Int32)) 16) (
bd (st M195 11 29 ((y11 + (3 : Int32))).toNatClampNeg (0 : Int32)) (fun M197 =>
bP (f_X7_begin M197 y10) (fun v199 M200 =>
gd (inb (y11 + (1 : Int32)) 16) (
(if v199 = (M200 11 29 ((y11 + (1 : Int32))).toNatClampNeg) then
some ((1 : Int32), M200)
else
some ((0 : Int32), M200)))))))))))))))
else
f_L_acts_L314 M y7 y8 y9 y10 y11 z0)))
noncomputable def f_L_acts  (M : Mem) (a1 : Int32) : Option (Int32 × Mem) :=
bO (f_L_low M (a1 >>> ((5 : Int32) &&& 31)) (10000000 : Int32)) (fun v1 =>
bO (f_L_low M a1 (30 : Int32)) (fun v2 =>
gd (¬ (4 : Int32) = 0) (
bd ((v1 - v1 / (4 : Int32) * (4 : Int32))) (fun x4 =>
bd (((4 : Int32) * x4)) (fun x5 =>
(if (M 11 28 1) < (32 : Int32) then
f_L_acts_L49 M v1 v2 (-1000002 : Int32) x4 x5 (0 : Int32)
else
f_L_acts_L49 M v1 v2 (-1000002 : Int32) x4 x5 (1 : Int32)))))))
theorem pk_L_acts : Pk "SealedGroupsLaw" yL_acts cL_acts 17 (some .boolean) 7 := ⟨wm_372, wm_89, rfl, by decide +kernel⟩
set_option maxHeartbeats 4000000 in
set_option maxRecDepth 100000 in
theorem c_L_acts (l : Launch) (E : En) (hA : AdOK E) (sz : Nat) (hτ : tau E = 0) {M : Mem} {a1 : Int32} {r0 : Int32} {M0 : Mem}  (h : f_L_acts M a1 = some (r0, M0)) : Met l yL_acts (Wm yL_acts cL_acts 17 (some .boolean)) ({ frames := 6, cells := 2, slots := 10, locals := 140 } : Room) (va_Pc [Value.ref (E.2.2 10 27), Value.ref (E.2.2 11 28), Value.ref (E.2.2 11 29), Value.ref (E.2.2 11 30), Value.ref (E.2.2 11 31), Value.ref (E.2.2 11 32), Value.int a1] (WdS E M sz)) (QIs E sz r0 M0) 2 10 (AS E sz) := by
  refine Met.ofW (cc := cL_acts) (maxL := 17) (ret := (some .boolean)) (by decide +kernel) rfl ?_
  intro p e s m args below meth c s₁ B hml hv
  obtain ⟨rfl, hsz, hP, hK⟩ := hv
  subst hsz
  have X : Cx E (AS E s.heap.size) p s m c _ cL_acts 17 RL := ⟨⟨B.exec, B.bytes, hml, findClass_of_methodNamed B.named, fun w hw => atoms_spec (ws := Wm yL_acts cL_acts 17 (some .boolean)) B.pre w (List.mem_cons_of_mem _ hw)⟩, hK, hA, fun _ h => Or.inl h⟩
  have X0 := X
  have hAA : ∀ x : Nat, s.heap.size ≤ x → AS E s.heap.size x := fun x h => Or.inr h
  have tE : tmpl[tau E]? = some (11, 33) := by rw [hτ]; rfl
  have hx := B.exec
  have hb := B.bytes
  have hr := B.returns
  have hlocks := B.notSynchronized
  clear B hml
  have hS : va_S (AS E s.heap.size) s.heap s.heap [] := va_S.rf
  have hl := lv_entry ([Value.ref (E.2.2 10 27), Value.ref (E.2.2 11 28), Value.ref (E.2.2 11 29), Value.ref (E.2.2 11 30), Value.ref (E.2.2 11 31), Value.ref (E.2.2 11 32), Value.int a1]) (n := 17) (Nat.le_of_ble_eq_true rfl)
  rw [lg_entry_eq]
  generalize (lg_sl ([Value.ref (E.2.2 10 27), Value.ref (E.2.2 11 28), Value.ref (E.2.2 11 29), Value.ref (E.2.2 11 30), Value.ref (E.2.2 11 31), Value.ref (E.2.2 11 32), Value.int a1]) ++ List.replicate (17 - (lg_sl ([Value.ref (E.2.2 10 27), Value.ref (E.2.2 11 28), Value.ref (E.2.2 11 29), Value.ref (E.2.2 11 30), Value.ref (E.2.2 11 31), Value.ref (E.2.2 11 32), Value.int a1])).length) Slot.unset).toArray = ls at hl ⊢
  have hl : lv_has ls 17 [(0, .ref (E.2.2 10 27)), (1, .ref (E.2.2 11 28)), (2, .ref (E.2.2 11 29)), (3, .ref (E.2.2 11 30)), (4, .ref (E.2.2 11 31)), (5, .ref (E.2.2 11 32)), (6, .int a1)] := hl
  have w_L1123 : ∀ (M : Mem) (y7 : Int32) (H : Heap) (locs : List Loc) (ls : Array Slot), f_L_acts_L1123  M y7 = some (r0, M0) → va_P E.1 vwCl (wl E M) H → va_S (AS E s.heap.size) s.heap H locs → lv_has ls 17 [(0, .ref (E.2.2 10 27)), (1, .ref (E.2.2 11 28)), (2, .ref (E.2.2 11 29)), (3, .ref (E.2.2 11 30)), (4, .ref (E.2.2 11 31)), (7, .int y7)] → W p l e (headSpec (Wm yL_acts cL_acts 17 (some .boolean)) ({ frames := 6, cells := 2, slots := 10, locals := 140 } : Room)).room s m ([Value.ref (E.2.2 10 27), Value.ref (E.2.2 11 28), Value.ref (E.2.2 11 29), Value.ref (E.2.2 11 30), Value.ref (E.2.2 11 31), Value.ref (E.2.2 11 32), Value.int a1] : List Value).toArray below meth c H locs 0 0 (MQ below (QIs E s.heap.size r0 M0) ([Value.ref (E.2.2 10 27), Value.ref (E.2.2 11 28), Value.ref (E.2.2 11 29), Value.ref (E.2.2 11 30), Value.ref (E.2.2 11 31), Value.ref (E.2.2 11 32), Value.int a1] : List Value).toArray s 2 10 (AS E s.heap.size)) (F0 m 1123 ls []) := by
    intro M y7 H locs ls h hP hS hl
    unfold f_L_acts_L1123 at h
    refine lv_aload_n hx hb dL_acts_1123 rfl (lv_at hl 0 rfl) ?_
    refine lv_iload hx hb dL_acts_1124 (lv_at hl 5 rfl) ?_
    refine lv_iconst (v := 2) hx hb dL_acts_1126 (by decide) ?_
    obtain ⟨g21, h⟩ := gd_e h
    refine lv_irem hx hb dL_acts_1127 g21 ?_
    obtain ⟨v22, M23, hv22, h⟩ := bP_e h
    refine mw_callVi X (c_X7_stop l E hA hv22) pk_X7_stop pv_X7_stop wm_482 ⟨Nat.le_of_ble_eq_true rfl, Nat.le_of_ble_eq_true rfl⟩ ⟨rfl, rfl⟩ hP hS ix_27 rfl rfl rfl rfl hl.1 (Nat.le_of_ble_eq_true rfl) ⟨Nat.le_of_ble_eq_true rfl, Nat.le_of_ble_eq_true rfl⟩ rfl dL_acts_1128 (fun H locs hP hS => ?_)
    refine lv_aload_n hx hb dL_acts_1131 rfl (lv_at hl 1 rfl) ?_
    refine lv_aload_n hx hb dL_acts_1132 rfl (lv_at hl 2 rfl) ?_
    refine lv_aload_n hx hb dL_acts_1133 rfl (lv_at hl 3 rfl) ?_
    refine lv_aload hx hb dL_acts_1134 (lv_at hl 4 rfl) ?_
    refine lv_iload hx hb dL_acts_1136 (lv_at hl 5 rfl) ?_
    refine lv_iconst (v := 2) hx hb dL_acts_1138 (by decide) ?_
    obtain ⟨g24, h⟩ := gd_e h
    refine lv_irem hx hb dL_acts_1139 g24 ?_
    obtain ⟨v25, M26, hv25, h⟩ := bP_e h
    refine mw_callSi X (c_L_stop l E hA hv25) pk_L_stop wm_531 wm_530 ⟨Nat.le_of_ble_eq_true rfl, Nat.le_of_ble_eq_true rfl⟩ ⟨rfl, rfl⟩ hP hS rfl hl.1 (Nat.le_of_ble_eq_true rfl) ⟨Nat.le_of_ble_eq_true rfl, Nat.le_of_ble_eq_true rfl⟩ rfl dL_acts_1140 (fun H locs hP hS => ?_)
    refine lv_icmp_ne (tgt := 1150) hx hb dL_acts_1143 (by decide) (fun c27 => ?_) (fun c27 => ?_)
    · have h := br_0 h c27
      refine lv_iconst (v := 0) hx hb dL_acts_1150 (by decide) ?_
      have h := Option.some.inj h
      refine W.widen (k := 2) (n := 10) (Nat.zero_le _) (Nat.zero_le _) ?_
      exact mw_zretS X hr hlocks hP hS (by decide) (congrArg Prod.fst h) (congrArg Prod.snd h) dL_acts_1151
    · have h := br_1 h c27
      refine lv_iconst (v := 1) hx hb dL_acts_1146 (by decide) ?_
      refine lv_goto (tgt := 1151) hx hb dL_acts_1147 (by decide) ?_
      have h := Option.some.inj h
      refine W.widen (k := 2) (n := 10) (Nat.zero_le _) (Nat.zero_le _) ?_
      exact mw_zretS X hr hlocks hP hS (by decide) (congrArg Prod.fst h) (congrArg Prod.snd h) dL_acts_1151
  have w_L1191 : ∀ (M : Mem) (y9 y14 : Int32) (H : Heap) (locs : List Loc) (ls : Array Slot), f_L_acts_L1191  M y9 y14 = some (r0, M0) → va_P E.1 vwCl (wl E M) H → va_S (AS E s.heap.size) s.heap H locs → lv_has ls 17 [(0, .ref (E.2.2 10 27)), (9, .int y9), (14, .int y14)] → W p l e (headSpec (Wm yL_acts cL_acts 17 (some .boolean)) ({ frames := 6, cells := 2, slots := 10, locals := 140 } : Room)).room s m ([Value.ref (E.2.2 10 27), Value.ref (E.2.2 11 28), Value.ref (E.2.2 11 29), Value.ref (E.2.2 11 30), Value.ref (E.2.2 11 31), Value.ref (E.2.2 11 32), Value.int a1] : List Value).toArray below meth c H locs 0 0 (MQ below (QIs E s.heap.size r0 M0) ([Value.ref (E.2.2 10 27), Value.ref (E.2.2 11 28), Value.ref (E.2.2 11 29), Value.ref (E.2.2 11 30), Value.ref (E.2.2 11 31), Value.ref (E.2.2 11 32), Value.int a1] : List Value).toArray s 2 10 (AS E s.heap.size)) (F0 m 1191 ls []) := by
    intro M y9 y14 H locs ls h hP hS hl
    unfold f_L_acts_L1191 at h
    refine lv_aload_n hx hb dL_acts_1191 rfl (lv_at hl 0 rfl) ?_
    refine lv_iload hx hb dL_acts_1192 (lv_at hl 2 rfl) ?_
    obtain ⟨v34, M35, hv34, h⟩ := bP_e h
    refine mw_callVi X (c_X7_dropOut l E hA hv34) pk_X7_dropOut pv_X7_dropOut wm_452 ⟨Nat.le_of_ble_eq_true rfl, Nat.le_of_ble_eq_true rfl⟩ ⟨rfl, rfl⟩ hP hS ix_27 rfl rfl rfl rfl hl.1 (Nat.le_of_ble_eq_true rfl) ⟨Nat.le_of_ble_eq_true rfl, Nat.le_of_ble_eq_true rfl⟩ rfl dL_acts_1194 (fun H locs hP hS => ?_)
    refine lv_iload hx hb dL_acts_1197 (lv_at hl 1 rfl) ?_
    refine lv_icmp_ne (tgt := 1206) hx hb dL_acts_1199 (by decide) (fun c36 => ?_) (fun c36 => ?_)
    · have h := br_0 h c36
      refine lv_iconst (v := 0) hx hb dL_acts_1206 (by decide) ?_
      have h := Option.some.inj h
      refine W.widen (k := 2) (n := 10) (Nat.zero_le _) (Nat.zero_le _) ?_
      exact mw_zretS X hr hlocks hP hS (by decide) (congrArg Prod.fst h) (congrArg Prod.snd h) dL_acts_1207
    · have h := br_1 h c36
      refine lv_iconst (v := 1) hx hb dL_acts_1202 (by decide) ?_
      refine lv_goto (tgt := 1207) hx hb dL_acts_1203 (by decide) ?_
      have h := Option.some.inj h
      refine W.widen (k := 2) (n := 10) (Nat.zero_le _) (Nat.zero_le _) ?_
      exact mw_zretS X hr hlocks hP hS (by decide) (congrArg Prod.fst h) (congrArg Prod.snd h) dL_acts_1207
  have w_L1214 : ∀ (n1214 : Nat) (M : Mem) (y14 y15 y16 : Int32) (H : Heap) (locs : List Loc) (ls : Array Slot), itr (f_L_acts_L1214 ) (fun _ _ _ _ => none) n1214 M y14 y15 y16 = some (r0, M0) → va_P E.1 vwCl (wl E M) H → va_S (AS E s.heap.size) s.heap H locs → lv_has ls 17 [(0, .ref (E.2.2 10 27)), (3, .ref (E.2.2 11 30)), (14, .int y14), (15, .int y15), (16, .int y16)] → W p l e (headSpec (Wm yL_acts cL_acts 17 (some .boolean)) ({ frames := 6, cells := 2, slots := 10, locals := 140 } : Room)).room s m ([Value.ref (E.2.2 10 27), Value.ref (E.2.2 11 28), Value.ref (E.2.2 11 29), Value.ref (E.2.2 11 30), Value.ref (E.2.2 11 31), Value.ref (E.2.2 11 32), Value.int a1] : List Value).toArray below meth c H locs 0 0 (MQ below (QIs E s.heap.size r0 M0) ([Value.ref (E.2.2 10 27), Value.ref (E.2.2 11 28), Value.ref (E.2.2 11 29), Value.ref (E.2.2 11 30), Value.ref (E.2.2 11 31), Value.ref (E.2.2 11 32), Value.int a1] : List Value).toArray s 2 10 (AS E s.heap.size)) (F0 m 1214 ls []) := by
    intro n1214
    induction n1214 with
    | zero => intro M y14 y15 y16 H locs ls h; exact (nomatch (show (none : Option (Int32 × Mem)) = some _ from h))
    | succ n1214 ih1214 =>
      intro M y14 y15 y16 H locs ls h hP hS hl
      have h : f_L_acts_L1214 (itr (f_L_acts_L1214 ) (fun _ _ _ _ => none) n1214) M y14 y15 y16 = some (r0, M0) := h
      unfold f_L_acts_L1214 at h
      refine lv_iload hx hb dL_acts_1214 (lv_at hl 4 rfl) ?_
      refine lv_bipush (v := 8) hx hb dL_acts_1216 (by decide) ?_
      refine lv_icmp_ge (tgt := 1241) hx hb dL_acts_1218 (by decide) (fun c40 => ?_) (fun c40 => ?_)
      · have h := br_1 h c40
        refine lv_aload_n hx hb dL_acts_1241 rfl (lv_at hl 1 rfl) ?_
        refine lv_bipush (v := 6) hx hb dL_acts_1242 (by decide) ?_
        refine lv_iload hx hb dL_acts_1244 (lv_at hl 2 rfl) ?_
        refine lv_imul hx hb dL_acts_1246 ?_
        refine lv_iconst (v := 2) hx hb dL_acts_1247 (by decide) ?_
        refine lv_iadd hx hb dL_acts_1248 ?_
        refine lv_iconst (v := 0) hx hb dL_acts_1249 (by decide) ?_
        obtain ⟨g42, h⟩ := gd_e h
        refine mw_st X hP hS ix_30 (fun _ => rfl) (inb_vp g42) rfl dL_acts_1250 (fun H locs M41 eM41 hP hS => ?_)
        have h := bd_e h eM41
        refine lv_aload_n hx hb dL_acts_1251 rfl (lv_at hl 0 rfl) ?_
        refine lv_iload hx hb dL_acts_1252 (lv_at hl 2 rfl) ?_
        obtain ⟨v43, M44, hv43, h⟩ := bP_e h
        refine mw_callVi X (c_X7_dropOut l E hA hv43) pk_X7_dropOut pv_X7_dropOut wm_452 ⟨Nat.le_of_ble_eq_true rfl, Nat.le_of_ble_eq_true rfl⟩ ⟨rfl, rfl⟩ hP hS ix_27 rfl rfl rfl rfl hl.1 (Nat.le_of_ble_eq_true rfl) ⟨Nat.le_of_ble_eq_true rfl, Nat.le_of_ble_eq_true rfl⟩ rfl dL_acts_1254 (fun H locs hP hS => ?_)
        refine lv_iload hx hb dL_acts_1257 (lv_at hl 3 rfl) ?_
        refine lv_icmp_ne (tgt := 1266) hx hb dL_acts_1259 (by decide) (fun c45 => ?_) (fun c45 => ?_)
        · have h := br_0 h c45
          refine lv_iconst (v := 0) hx hb dL_acts_1266 (by decide) ?_
          have h := Option.some.inj h
          refine W.widen (k := 2) (n := 10) (Nat.zero_le _) (Nat.zero_le _) ?_
          exact mw_zretS X hr hlocks hP hS (by decide) (congrArg Prod.fst h) (congrArg Prod.snd h) dL_acts_1267
        · have h := br_1 h c45
          refine lv_iconst (v := 1) hx hb dL_acts_1262 (by decide) ?_
          refine lv_goto (tgt := 1267) hx hb dL_acts_1263 (by decide) ?_
          have h := Option.some.inj h
          refine W.widen (k := 2) (n := 10) (Nat.zero_le _) (Nat.zero_le _) ?_
          exact mw_zretS X hr hlocks hP hS (by decide) (congrArg Prod.fst h) (congrArg Prod.snd h) dL_acts_1267
      · have h := br_0 h c40
        refine lv_iload hx hb dL_acts_1221 (lv_at hl 3 rfl) ?_
        refine lv_aload_n hx hb dL_acts_1223 rfl (lv_at hl 1 rfl) ?_
        refine lv_bipush (v := 6) hx hb dL_acts_1224 (by decide) ?_
        refine lv_iload hx hb dL_acts_1226 (lv_at hl 4 rfl) ?_
        refine lv_imul hx hb dL_acts_1228 ?_
        refine lv_iconst (v := 2) hx hb dL_acts_1229 (by decide) ?_
        refine lv_iadd hx hb dL_acts_1230 ?_
        obtain ⟨g46, h⟩ := gd_e h
        refine mw_ld X hP ix_30 rfl (inb_vp g46) rfl dL_acts_1231 ?_
        refine lv_iadd hx hb dL_acts_1232 ?_
        refine lv_topi (fun x47 ex47 => ?_)
        have h := bd_e h ex47
        refine lv_istore (lv' := [(15, .int x47), (0, .ref (E.2.2 10 27)), (3, .ref (E.2.2 11 30)), (14, .int y14), (16, .int y16)]) hx hb dL_acts_1233 hl (by decide) rfl (fun ls hl => ?_)
        obtain ⟨x48, ex48⟩ : ∃ y : Int32, y = y16 + (1 : Int32) := ⟨_, rfl⟩
        have h := bd_e h ex48
        refine lv_iinc (v := x48) (lv' := [(16, .int x48), (15, .int x47), (0, .ref (E.2.2 10 27)), (3, .ref (E.2.2 11 30)), (14, .int y14)]) hx hb dL_acts_1235 hl (k := 4) rfl (by rw [ex48]; rfl) (by decide) rfl (fun ls hl => ?_)
        refine lv_goto (tgt := 1214) hx hb dL_acts_1238 (by decide) ?_
        exact ih1214 _ _ _ _ _ _ _ h hP hS (lv_sub hl [2, 3, 4, 1, 0] rfl)
  have w_L1152 : ∀ (M : Mem) (y7 y9 : Int32) (H : Heap) (locs : List Loc) (ls : Array Slot), f_L_acts_L1152  M y7 y9 = some (r0, M0) → va_P E.1 vwCl (wl E M) H → va_S (AS E s.heap.size) s.heap H locs → lv_has ls 17 [(0, .ref (E.2.2 10 27)), (3, .ref (E.2.2 11 30)), (7, .int y7), (9, .int y9)] → W p l e (headSpec (Wm yL_acts cL_acts 17 (some .boolean)) ({ frames := 6, cells := 2, slots := 10, locals := 140 } : Room)).room s m ([Value.ref (E.2.2 10 27), Value.ref (E.2.2 11 28), Value.ref (E.2.2 11 29), Value.ref (E.2.2 11 30), Value.ref (E.2.2 11 31), Value.ref (E.2.2 11 32), Value.int a1] : List Value).toArray below meth c H locs 0 0 (MQ below (QIs E s.heap.size r0 M0) ([Value.ref (E.2.2 10 27), Value.ref (E.2.2 11 28), Value.ref (E.2.2 11 29), Value.ref (E.2.2 11 30), Value.ref (E.2.2 11 31), Value.ref (E.2.2 11 32), Value.int a1] : List Value).toArray s 2 10 (AS E s.heap.size)) (F0 m 1152 ls []) := by
    intro M y7 y9 H locs ls h hP hS hl
    unfold f_L_acts_L1152 at h
    refine lv_iload hx hb dL_acts_1152 (lv_at hl 2 rfl) ?_
    refine lv_iconst (v := 4) hx hb dL_acts_1154 (by decide) ?_
    obtain ⟨g29, h⟩ := gd_e h
    refine lv_idiv hx hb dL_acts_1155 g29 ?_
    refine lv_bipush (v := 8) hx hb dL_acts_1156 (by decide) ?_
    obtain ⟨g30, h⟩ := gd_e h
    refine lv_irem hx hb dL_acts_1158 g30 ?_
    refine lv_topi (fun x31 ex31 => ?_)
    have h := bd_e h ex31
    refine lv_istore (lv' := [(14, .int x31), (0, .ref (E.2.2 10 27)), (3, .ref (E.2.2 11 30)), (7, .int y7), (9, .int y9)]) hx hb dL_acts_1159 hl (by decide) rfl (fun ls hl => ?_)
    refine lv_aload_n hx hb dL_acts_1161 rfl (lv_at hl 2 rfl) ?_
    refine lv_bipush (v := 6) hx hb dL_acts_1162 (by decide) ?_
    refine lv_iload hx hb dL_acts_1164 (lv_at hl 0 rfl) ?_
    refine lv_imul hx hb dL_acts_1166 ?_
    refine lv_iconst (v := 2) hx hb dL_acts_1167 (by decide) ?_
    refine lv_iadd hx hb dL_acts_1168 ?_
    obtain ⟨g32, h⟩ := gd_e h
    refine mw_ld X hP ix_30 rfl (inb_vp g32) rfl dL_acts_1169 ?_
    refine lv_if_eq (tgt := 1191) hx hb dL_acts_1170 (by decide) (fun c33 => ?_) (fun c33 => ?_)
    · have h := br_1 h c33
      exact w_L1191 _ _ _ _ _ _ h hP hS (lv_sub hl [1, 4, 0] rfl)
    · have h := br_0 h c33
      refine lv_aload_n hx hb dL_acts_1173 rfl (lv_at hl 2 rfl) ?_
      refine lv_iload hx hb dL_acts_1174 (lv_at hl 0 rfl) ?_
      obtain ⟨v37, hv37, h⟩ := bO_e h
      refine mw_callSi X (c_L_mark l E hA hv37) pk_L_mark wm_96 wm_95 ⟨Nat.le_of_ble_eq_true rfl, Nat.le_of_ble_eq_true rfl⟩ ⟨rfl, rfl⟩ hP hS rfl hl.1 (Nat.le_of_ble_eq_true rfl) ⟨Nat.le_of_ble_eq_true rfl, Nat.le_of_ble_eq_true rfl⟩ rfl dL_acts_1176 (fun H locs hP hS => ?_)
      refine lv_aload_n hx hb dL_acts_1179 rfl (lv_at hl 2 rfl) ?_
      refine lv_bipush (v := 6) hx hb dL_acts_1180 (by decide) ?_
      refine lv_iload hx hb dL_acts_1182 (lv_at hl 0 rfl) ?_
      refine lv_imul hx hb dL_acts_1184 ?_
      refine lv_iconst (v := 1) hx hb dL_acts_1185 (by decide) ?_
      refine lv_iadd hx hb dL_acts_1186 ?_
      obtain ⟨g38, h⟩ := gd_e h
      refine mw_ld X hP ix_30 rfl (inb_vp g38) rfl dL_acts_1187 ?_
      refine lv_icmp_eq (tgt := 1208) hx hb dL_acts_1188 (by decide) (fun c39 => ?_) (fun c39 => ?_)
      · have h := br_1 h c39
        refine lv_iconst (v := -1) hx hb dL_acts_1208 (by decide) ?_
        refine lv_istore (lv' := [(15, .int (-1 : Int32)), (14, .int x31), (0, .ref (E.2.2 10 27)), (3, .ref (E.2.2 11 30)), (7, .int y7), (9, .int y9)]) hx hb dL_acts_1209 hl (by decide) rfl (fun ls hl => ?_)
        refine lv_iconst (v := 0) hx hb dL_acts_1211 (by decide) ?_
        refine lv_istore (lv' := [(16, .int (0 : Int32)), (15, .int (-1 : Int32)), (14, .int x31), (0, .ref (E.2.2 10 27)), (3, .ref (E.2.2 11 30)), (7, .int y7), (9, .int y9)]) hx hb dL_acts_1212 hl (by decide) rfl (fun ls hl => ?_)
        exact w_L1214 FU _ _ _ _ _ _ _ h hP hS (lv_sub hl [3, 4, 2, 1, 0] rfl)
      · have h := br_0 h c39
        exact w_L1191 _ _ _ _ _ _ h hP hS (lv_sub hl [1, 4, 0] rfl)
  have w_L1018 : ∀ (n1018 : Nat) (M : Mem) (y14 y15 : Int32) (H : Heap) (locs : List Loc) (ls : Array Slot), itr (f_L_acts_L1018 ) (fun _ _ _ => none) n1018 M y14 y15 = some (r0, M0) → va_P E.1 vwCl (wl E M) H → va_S (AS E s.heap.size) s.heap H locs → lv_has ls 17 [(0, .ref (E.2.2 10 27)), (1, .ref (E.2.2 11 28)), (4, .ref (E.2.2 11 31)), (14, .int y14), (15, .int y15)] → W p l e (headSpec (Wm yL_acts cL_acts 17 (some .boolean)) ({ frames := 6, cells := 2, slots := 10, locals := 140 } : Room)).room s m ([Value.ref (E.2.2 10 27), Value.ref (E.2.2 11 28), Value.ref (E.2.2 11 29), Value.ref (E.2.2 11 30), Value.ref (E.2.2 11 31), Value.ref (E.2.2 11 32), Value.int a1] : List Value).toArray below meth c H locs 0 0 (MQ below (QIs E s.heap.size r0 M0) ([Value.ref (E.2.2 10 27), Value.ref (E.2.2 11 28), Value.ref (E.2.2 11 29), Value.ref (E.2.2 11 30), Value.ref (E.2.2 11 31), Value.ref (E.2.2 11 32), Value.int a1] : List Value).toArray s 2 10 (AS E s.heap.size)) (F0 m 1018 ls []) := by
    intro n1018
    induction n1018 with
    | zero => intro M y14 y15 H locs ls h; exact (nomatch (show (none : Option (Int32 × Mem)) = some _ from h))
    | succ n1018 ih1018 =>
      intro M y14 y15 H locs ls h hP hS hl
      have h : f_L_acts_L1018 (itr (f_L_acts_L1018 ) (fun _ _ _ => none) n1018) M y14 y15 = some (r0, M0) := h
      unfold f_L_acts_L1018 at h
      refine lv_iload hx hb dL_acts_1018 (lv_at hl 4 rfl) ?_
      refine lv_aload_n hx hb dL_acts_1020 rfl (lv_at hl 1 rfl) ?_
      refine lv_iconst (v := 1) hx hb dL_acts_1021 (by decide) ?_
      refine mw_ld X hP ix_28 rfl (v := (M 11 28 1)) (inb_vp (by decide)) rfl dL_acts_1022 ?_
      refine lv_icmp_ge (tgt := 1045) hx hb dL_acts_1023 (by decide) (fun c60 => ?_) (fun c60 => ?_)
      · have h := br_1 h c60
        refine lv_aload_n hx hb dL_acts_1045 rfl (lv_at hl 1 rfl) ?_
        refine lv_iconst (v := 0) hx hb dL_acts_1046 (by decide) ?_
        refine lv_dup2_11 hx hb dL_acts_1047 rfl rfl ?_
        refine mw_ld X hP ix_28 rfl (v := (M 11 28 0)) (inb_vp (by decide)) rfl dL_acts_1048 ?_
        refine lv_iload hx hb dL_acts_1049 (lv_at hl 3 rfl) ?_
        refine lv_iadd hx hb dL_acts_1051 ?_
        refine mw_st X hP hS ix_28 (fun _ => rfl) (j := 0) (inb_vp (by decide)) rfl dL_acts_1052 (fun H locs M61 eM61 hP hS => ?_)
        have h := bd_e h eM61
        refine lv_aload_n hx hb dL_acts_1053 rfl (lv_at hl 1 rfl) ?_
        refine lv_iconst (v := 1) hx hb dL_acts_1054 (by decide) ?_
        refine lv_dup2_11 hx hb dL_acts_1055 rfl rfl ?_
        refine mw_ld X hP ix_28 rfl (v := (M61 11 28 1)) (inb_vp (by decide)) rfl dL_acts_1056 ?_
        refine lv_iload hx hb dL_acts_1057 (lv_at hl 3 rfl) ?_
        refine lv_isub hx hb dL_acts_1059 ?_
        refine mw_st X hP hS ix_28 (fun _ => rfl) (j := 1) (inb_vp (by decide)) rfl dL_acts_1060 (fun H locs M62 eM62 hP hS => ?_)
        have h := bd_e h eM62
        refine lv_aload_n hx hb dL_acts_1061 rfl (lv_at hl 0 rfl) ?_
        obtain ⟨v63, M64, hv63, h⟩ := bP_e h
        refine mw_callVi X (c_X7_dropRecords l E hA hv63) pk_X7_dropRecords pv_X7_dropRecords wm_349 ⟨Nat.le_of_ble_eq_true rfl, Nat.le_of_ble_eq_true rfl⟩ ⟨rfl, rfl⟩ hP hS ix_27 rfl rfl rfl rfl hl.1 (Nat.le_of_ble_eq_true rfl) ⟨Nat.le_of_ble_eq_true rfl, Nat.le_of_ble_eq_true rfl⟩ rfl dL_acts_1062 (fun H locs hP hS => ?_)
        refine lv_iload hx hb dL_acts_1065 (lv_at hl 3 rfl) ?_
        refine lv_icmp_ne (tgt := 1074) hx hb dL_acts_1067 (by decide) (fun c65 => ?_) (fun c65 => ?_)
        · have h := br_0 h c65
          refine lv_iconst (v := 0) hx hb dL_acts_1074 (by decide) ?_
          have h := Option.some.inj h
          refine W.widen (k := 2) (n := 10) (Nat.zero_le _) (Nat.zero_le _) ?_
          exact mw_zretS X hr hlocks hP hS (by decide) (congrArg Prod.fst h) (congrArg Prod.snd h) dL_acts_1075
        · have h := br_1 h c65
          refine lv_iconst (v := 1) hx hb dL_acts_1070 (by decide) ?_
          refine lv_goto (tgt := 1075) hx hb dL_acts_1071 (by decide) ?_
          have h := Option.some.inj h
          refine W.widen (k := 2) (n := 10) (Nat.zero_le _) (Nat.zero_le _) ?_
          exact mw_zretS X hr hlocks hP hS (by decide) (congrArg Prod.fst h) (congrArg Prod.snd h) dL_acts_1075
      · have h := br_0 h c60
        refine lv_aload hx hb dL_acts_1026 (lv_at hl 2 rfl) ?_
        refine lv_iload hx hb dL_acts_1028 (lv_at hl 4 rfl) ?_
        refine lv_iload hx hb dL_acts_1030 (lv_at hl 3 rfl) ?_
        refine lv_isub hx hb dL_acts_1032 ?_
        refine lv_aload hx hb dL_acts_1033 (lv_at hl 2 rfl) ?_
        refine lv_iload hx hb dL_acts_1035 (lv_at hl 4 rfl) ?_
        obtain ⟨g66, h⟩ := gd_e h
        refine mw_lld X hP (inb_vp g66) dL_acts_1037 ?_
        obtain ⟨g67, h⟩ := gd_e h
        refine mw_lst X hP hS (inb_vp g67) rfl dL_acts_1038 (fun H locs M68 eM68 hP hS => ?_)
        have h := bd_e h eM68
        obtain ⟨x69, ex69⟩ : ∃ y : Int32, y = y15 + (1 : Int32) := ⟨_, rfl⟩
        have h := bd_e h ex69
        refine lv_iinc (v := x69) (lv' := [(15, .int x69), (0, .ref (E.2.2 10 27)), (1, .ref (E.2.2 11 28)), (4, .ref (E.2.2 11 31)), (14, .int y14)]) hx hb dL_acts_1039 hl (k := 4) rfl (by rw [ex69]; rfl) (by decide) rfl (fun ls hl => ?_)
        refine lv_goto (tgt := 1018) hx hb dL_acts_1042 (by decide) ?_
        exact ih1018 _ _ _ _ _ _ h hP hS (lv_sub hl [1, 2, 3, 4, 0] rfl)
  have w_L973 : ∀ (M : Mem) (y7 y8 y9 y12 : Int32) (H : Heap) (locs : List Loc) (ls : Array Slot), f_L_acts_L973  M y7 y8 y9 y12 = some (r0, M0) → va_P E.1 vwCl (wl E M) H → va_S (AS E s.heap.size) s.heap H locs → lv_has ls 17 [(0, .ref (E.2.2 10 27)), (1, .ref (E.2.2 11 28)), (2, .ref (E.2.2 11 29)), (3, .ref (E.2.2 11 30)), (4, .ref (E.2.2 11 31)), (5, .ref (E.2.2 11 32)), (7, .int y7), (8, .int y8), (9, .int y9), (12, .int y12)] → W p l e (headSpec (Wm yL_acts cL_acts 17 (some .boolean)) ({ frames := 6, cells := 2, slots := 10, locals := 140 } : Room)).room s m ([Value.ref (E.2.2 10 27), Value.ref (E.2.2 11 28), Value.ref (E.2.2 11 29), Value.ref (E.2.2 11 30), Value.ref (E.2.2 11 31), Value.ref (E.2.2 11 32), Value.int a1] : List Value).toArray below meth c H locs 0 0 (MQ below (QIs E s.heap.size r0 M0) ([Value.ref (E.2.2 10 27), Value.ref (E.2.2 11 28), Value.ref (E.2.2 11 29), Value.ref (E.2.2 11 30), Value.ref (E.2.2 11 31), Value.ref (E.2.2 11 32), Value.int a1] : List Value).toArray s 2 10 (AS E s.heap.size)) (F0 m 973 ls []) := by
    intro M y7 y8 y9 y12 H locs ls h hP hS hl
    unfold f_L_acts_L973 at h
    refine lv_iload hx hb dL_acts_973 (lv_at hl 7 rfl) ?_
    refine lv_bipush (v := 25) hx hb dL_acts_975 (by decide) ?_
    refine lv_icmp_ge (tgt := 1076) hx hb dL_acts_977 (by decide) (fun c18 => ?_) (fun c18 => ?_)
    · have h := br_1 h c18
      refine lv_iload hx hb dL_acts_1076 (lv_at hl 7 rfl) ?_
      refine lv_bipush (v := 25) hx hb dL_acts_1078 (by decide) ?_
      refine lv_icmp_ne (tgt := 1104) hx hb dL_acts_1080 (by decide) (fun c19 => ?_) (fun c19 => ?_)
      · have h := br_0 h c19
        refine lv_iload hx hb dL_acts_1104 (lv_at hl 7 rfl) ?_
        refine lv_bipush (v := 26) hx hb dL_acts_1106 (by decide) ?_
        refine lv_icmp_eq (tgt := 1123) hx hb dL_acts_1108 (by decide) (fun c20 => ?_) (fun c20 => ?_)
        · have h := br_1 h c20
          exact w_L1123 _ _ _ _ _ h hP hS (lv_sub hl [0, 1, 2, 3, 4, 6] rfl)
        · have h := br_0 h c20
          refine lv_iload hx hb dL_acts_1111 (lv_at hl 9 rfl) ?_
          refine lv_if_eq (tgt := 1152) hx hb dL_acts_1113 (by decide) (fun c28 => ?_) (fun c28 => ?_)
          · have h := br_1 h c28
            exact w_L1152 _ _ _ _ _ _ h hP hS (lv_sub hl [0, 3, 6, 8] rfl)
          · have h := br_0 h c28
            refine lv_iload hx hb dL_acts_1116 (lv_at hl 6 rfl) ?_
            refine lv_iconst (v := 2) hx hb dL_acts_1118 (by decide) ?_
            obtain ⟨g49, h⟩ := gd_e h
            refine lv_irem hx hb dL_acts_1119 g49 ?_
            refine lv_if_ne (tgt := 1152) hx hb dL_acts_1120 (by decide) (fun c50 => ?_) (fun c50 => ?_)
            · have h := br_0 h c50
              exact w_L1152 _ _ _ _ _ _ h hP hS (lv_sub hl [0, 3, 6, 8] rfl)
            · have h := br_1 h c50
              exact w_L1123 _ _ _ _ _ h hP hS (lv_sub hl [0, 1, 2, 3, 4, 6] rfl)
      · have h := br_1 h c19
        refine lv_aload_n hx hb dL_acts_1083 rfl (lv_at hl 0 rfl) ?_
        obtain ⟨v51, M52, hv51, h⟩ := bP_e h
        refine mw_callVi X (c_X7_force l E hA hv51) pk_X7_force pv_X7_force wm_474 ⟨Nat.le_of_ble_eq_true rfl, Nat.le_of_ble_eq_true rfl⟩ ⟨rfl, rfl⟩ hP hS ix_27 rfl rfl rfl rfl hl.1 (Nat.le_of_ble_eq_true rfl) ⟨Nat.le_of_ble_eq_true rfl, Nat.le_of_ble_eq_true rfl⟩ rfl dL_acts_1084 (fun H locs hP hS => ?_)
        refine lv_aload_n hx hb dL_acts_1087 rfl (lv_at hl 1 rfl) ?_
        refine lv_aload_n hx hb dL_acts_1088 rfl (lv_at hl 1 rfl) ?_
        obtain ⟨v53, hv53, h⟩ := bO_e h
        refine mw_callSi X (c_L_last l E hA hv53) pk_L_last wm_170 wm_169 ⟨Nat.le_of_ble_eq_true rfl, Nat.le_of_ble_eq_true rfl⟩ ⟨rfl, rfl⟩ hP hS rfl hl.1 (Nat.le_of_ble_eq_true rfl) ⟨Nat.le_of_ble_eq_true rfl, Nat.le_of_ble_eq_true rfl⟩ rfl dL_acts_1089 (fun H locs hP hS => ?_)
        obtain ⟨v54, M55, hv54, h⟩ := bP_e h
        refine mw_callSi X (c_L_force l E hA hv54) pk_L_force wm_528 wm_527 ⟨Nat.le_of_ble_eq_true rfl, Nat.le_of_ble_eq_true rfl⟩ ⟨rfl, rfl⟩ hP hS rfl hl.1 (Nat.le_of_ble_eq_true rfl) ⟨Nat.le_of_ble_eq_true rfl, Nat.le_of_ble_eq_true rfl⟩ rfl dL_acts_1092 (fun H locs hP hS => ?_)
        refine lv_icmp_ne (tgt := 1102) hx hb dL_acts_1095 (by decide) (fun c56 => ?_) (fun c56 => ?_)
        · have h := br_0 h c56
          refine lv_iconst (v := 0) hx hb dL_acts_1102 (by decide) ?_
          have h := Option.some.inj h
          refine W.widen (k := 2) (n := 10) (Nat.zero_le _) (Nat.zero_le _) ?_
          exact mw_zretS X hr hlocks hP hS (by decide) (congrArg Prod.fst h) (congrArg Prod.snd h) dL_acts_1103
        · have h := br_1 h c56
          refine lv_iconst (v := 1) hx hb dL_acts_1098 (by decide) ?_
          refine lv_goto (tgt := 1103) hx hb dL_acts_1099 (by decide) ?_
          have h := Option.some.inj h
          refine W.widen (k := 2) (n := 10) (Nat.zero_le _) (Nat.zero_le _) ?_
          exact mw_zretS X hr hlocks hP hS (by decide) (congrArg Prod.fst h) (congrArg Prod.snd h) dL_acts_1103
    · have h := br_0 h c18
      refine lv_aload_n hx hb dL_acts_980 rfl (lv_at hl 1 rfl) ?_
      refine lv_aload hx hb dL_acts_981 (lv_at hl 4 rfl) ?_
      obtain ⟨v57, hv57, h⟩ := bO_e h
      refine mw_callSi X (c_L_latest l E hA hv57) pk_L_latest wm_224 wm_223 ⟨Nat.le_of_ble_eq_true rfl, Nat.le_of_ble_eq_true rfl⟩ ⟨rfl, rfl⟩ hP hS rfl hl.1 (Nat.le_of_ble_eq_true rfl) ⟨Nat.le_of_ble_eq_true rfl, Nat.le_of_ble_eq_true rfl⟩ rfl dL_acts_983 (fun H locs hP hS => ?_)
      refine lv_if_ne (tgt := 1004) hx hb dL_acts_986 (by decide) (fun c58 => ?_) (fun c58 => ?_)
      · have h := br_0 h c58
        refine lv_aload_n hx hb dL_acts_1004 rfl (lv_at hl 1 rfl) ?_
        refine lv_aload hx hb dL_acts_1005 (lv_at hl 4 rfl) ?_
        refine lv_aload hx hb dL_acts_1007 (lv_at hl 5 rfl) ?_
        obtain ⟨v59, hv59, h⟩ := bO_e h
        refine mw_callSi X (c_L_drop l E hA hv59) pk_L_drop wm_227 wm_226 ⟨Nat.le_of_ble_eq_true rfl, Nat.le_of_ble_eq_true rfl⟩ ⟨rfl, rfl⟩ hP hS rfl hl.1 (Nat.le_of_ble_eq_true rfl) ⟨Nat.le_of_ble_eq_true rfl, Nat.le_of_ble_eq_true rfl⟩ rfl dL_acts_1009 (fun H locs hP hS => ?_)
        refine lv_istore (lv' := [(14, .int v59), (0, .ref (E.2.2 10 27)), (1, .ref (E.2.2 11 28)), (2, .ref (E.2.2 11 29)), (3, .ref (E.2.2 11 30)), (4, .ref (E.2.2 11 31)), (5, .ref (E.2.2 11 32)), (7, .int y7), (8, .int y8), (9, .int y9), (12, .int y12)]) hx hb dL_acts_1012 hl (by decide) rfl (fun ls hl => ?_)
        refine lv_iload hx hb dL_acts_1014 (lv_at hl 0 rfl) ?_
        refine lv_istore (lv' := [(15, .int v59), (14, .int v59), (0, .ref (E.2.2 10 27)), (1, .ref (E.2.2 11 28)), (2, .ref (E.2.2 11 29)), (3, .ref (E.2.2 11 30)), (4, .ref (E.2.2 11 31)), (5, .ref (E.2.2 11 32)), (7, .int y7), (8, .int y8), (9, .int y9), (12, .int y12)]) hx hb dL_acts_1016 hl (by decide) rfl (fun ls hl => ?_)
        exact w_L1018 FU _ _ _ _ _ _ h hP hS (lv_sub hl [2, 3, 6, 1, 0] rfl)
      · have h := br_1 h c58
        refine lv_aload_n hx hb dL_acts_989 rfl (lv_at hl 0 rfl) ?_
        obtain ⟨v70, M71, hv70, h⟩ := bP_e h
        refine mw_callVi X (c_X7_dropRecords l E hA hv70) pk_X7_dropRecords pv_X7_dropRecords wm_349 ⟨Nat.le_of_ble_eq_true rfl, Nat.le_of_ble_eq_true rfl⟩ ⟨rfl, rfl⟩ hP hS ix_27 rfl rfl rfl rfl hl.1 (Nat.le_of_ble_eq_true rfl) ⟨Nat.le_of_ble_eq_true rfl, Nat.le_of_ble_eq_true rfl⟩ rfl dL_acts_990 (fun H locs hP hS => ?_)
        refine lv_iload hx hb dL_acts_993 (lv_at hl 8 rfl) ?_
        refine lv_icmp_ne (tgt := 1002) hx hb dL_acts_995 (by decide) (fun c72 => ?_) (fun c72 => ?_)
        · have h := br_0 h c72
          refine lv_iconst (v := 0) hx hb dL_acts_1002 (by decide) ?_
          have h := Option.some.inj h
          refine W.widen (k := 2) (n := 10) (Nat.zero_le _) (Nat.zero_le _) ?_
          exact mw_zretS X hr hlocks hP hS (by decide) (congrArg Prod.fst h) (congrArg Prod.snd h) dL_acts_1003
        · have h := br_1 h c72
          refine lv_iconst (v := 1) hx hb dL_acts_998 (by decide) ?_
          refine lv_goto (tgt := 1003) hx hb dL_acts_999 (by decide) ?_
          have h := Option.some.inj h
          refine W.widen (k := 2) (n := 10) (Nat.zero_le _) (Nat.zero_le _) ?_
          exact mw_zretS X hr hlocks hP hS (by decide) (congrArg Prod.fst h) (congrArg Prod.snd h) dL_acts_1003
  have w_L878 : ∀ (n878 : Nat) (M : Mem) (y14 y15 : Int32) (H : Heap) (locs : List Loc) (ls : Array Slot), itr (f_L_acts_L878 ) (fun _ _ _ => none) n878 M y14 y15 = some (r0, M0) → va_P E.1 vwCl (wl E M) H → va_S (AS E s.heap.size) s.heap H locs → lv_has ls 17 [(0, .ref (E.2.2 10 27)), (1, .ref (E.2.2 11 28)), (2, .ref (E.2.2 11 29)), (3, .ref (E.2.2 11 30)), (4, .ref (E.2.2 11 31)), (5, .ref (E.2.2 11 32)), (14, .int y14), (15, .int y15)] → W p l e (headSpec (Wm yL_acts cL_acts 17 (some .boolean)) ({ frames := 6, cells := 2, slots := 10, locals := 140 } : Room)).room s m ([Value.ref (E.2.2 10 27), Value.ref (E.2.2 11 28), Value.ref (E.2.2 11 29), Value.ref (E.2.2 11 30), Value.ref (E.2.2 11 31), Value.ref (E.2.2 11 32), Value.int a1] : List Value).toArray below meth c H locs 0 0 (MQ below (QIs E s.heap.size r0 M0) ([Value.ref (E.2.2 10 27), Value.ref (E.2.2 11 28), Value.ref (E.2.2 11 29), Value.ref (E.2.2 11 30), Value.ref (E.2.2 11 31), Value.ref (E.2.2 11 32), Value.int a1] : List Value).toArray s 2 10 (AS E s.heap.size)) (F0 m 878 ls []) := by
    intro n878
    induction n878 with
    | zero => intro M y14 y15 H locs ls h; exact (nomatch (show (none : Option (Int32 × Mem)) = some _ from h))
    | succ n878 ih878 =>
      intro M y14 y15 H locs ls h hP hS hl
      have h : f_L_acts_L878 (itr (f_L_acts_L878 ) (fun _ _ _ => none) n878) M y14 y15 = some (r0, M0) := h
      have w_L915 : ∀ (M : Mem) (y14 y15 z0 z1 : Int32) (H : Heap) (locs : List Loc) (ls : Array Slot), f_L_acts_L915 (itr (f_L_acts_L878 ) (fun _ _ _ => none) n878) M y14 y15 z0 z1 = some (r0, M0) → va_P E.1 vwCl (wl E M) H → va_S (AS E s.heap.size) s.heap H locs → lv_has ls 17 [(0, .ref (E.2.2 10 27)), (1, .ref (E.2.2 11 28)), (2, .ref (E.2.2 11 29)), (3, .ref (E.2.2 11 30)), (4, .ref (E.2.2 11 31)), (5, .ref (E.2.2 11 32)), (14, .int y14), (15, .int y15)] → W p l e (headSpec (Wm yL_acts cL_acts 17 (some .boolean)) ({ frames := 6, cells := 2, slots := 10, locals := 140 } : Room)).room s m ([Value.ref (E.2.2 10 27), Value.ref (E.2.2 11 28), Value.ref (E.2.2 11 29), Value.ref (E.2.2 11 30), Value.ref (E.2.2 11 31), Value.ref (E.2.2 11 32), Value.int a1] : List Value).toArray below meth c H locs 0 0 (MQ below (QIs E s.heap.size r0 M0) ([Value.ref (E.2.2 10 27), Value.ref (E.2.2 11 28), Value.ref (E.2.2 11 29), Value.ref (E.2.2 11 30), Value.ref (E.2.2 11 31), Value.ref (E.2.2 11 32), Value.int a1] : List Value).toArray s 2 10 (AS E s.heap.size)) (F0 m 915 ls [.int z0, .int z1, .ref (E.2.2 11 32)]) := by
        intro M y14 y15 z0 z1 H locs ls h hP hS hl
        unfold f_L_acts_L915 at h
        obtain ⟨g90, h⟩ := gd_e h
        refine mw_st X hP hS ix_32 (fun _ => rfl) (inb_vp g90) rfl dL_acts_915 (fun H locs M89 eM89 hP hS => ?_)
        have h := bd_e h eM89
        obtain ⟨x91, ex91⟩ : ∃ y : Int32, y = y15 + (1 : Int32) := ⟨_, rfl⟩
        have h := bd_e h ex91
        refine lv_iinc (v := x91) (lv' := [(15, .int x91), (0, .ref (E.2.2 10 27)), (1, .ref (E.2.2 11 28)), (2, .ref (E.2.2 11 29)), (3, .ref (E.2.2 11 30)), (4, .ref (E.2.2 11 31)), (5, .ref (E.2.2 11 32)), (14, .int y14)]) hx hb dL_acts_916 hl (k := 7) rfl (by rw [ex91]; rfl) (by decide) rfl (fun ls hl => ?_)
        refine lv_goto (tgt := 878) hx hb dL_acts_919 (by decide) ?_
        exact ih878 _ _ _ _ _ _ h hP hS (lv_sub hl [1, 2, 3, 4, 5, 6, 7, 0] rfl)
      unfold f_L_acts_L878 at h
      refine lv_iload hx hb dL_acts_878 (lv_at hl 7 rfl) ?_
      refine lv_bipush (v := 8) hx hb dL_acts_880 (by decide) ?_
      refine lv_icmp_ge (tgt := 922) hx hb dL_acts_882 (by decide) (fun c76 => ?_) (fun c76 => ?_)
      · have h := br_1 h c76
        refine lv_aload hx hb dL_acts_922 (lv_at hl 4 rfl) ?_
        refine lv_iload hx hb dL_acts_924 (lv_at hl 6 rfl) ?_
        refine lv_aload_n hx hb dL_acts_926 rfl (lv_at hl 1 rfl) ?_
        refine lv_iconst (v := 0) hx hb dL_acts_927 (by decide) ?_
        refine mw_ld X hP ix_28 rfl (v := (M 11 28 0)) (inb_vp (by decide)) rfl dL_acts_928 ?_
        refine lv_isub hx hb dL_acts_929 ?_
        refine lv_dup2_11 hx hb dL_acts_930 rfl rfl ?_
        obtain ⟨g77, h⟩ := gd_e h
        refine mw_lld X hP (inb_vp g77) dL_acts_931 ?_
        refine lv_aload_n hx hb dL_acts_932 rfl (lv_at hl 2 rfl) ?_
        obtain ⟨v78, hv78, h⟩ := bO_e h
        refine mw_callSi X (c_L_open l E hA hv78) pk_L_open wm_218 wm_217 ⟨Nat.le_of_ble_eq_true rfl, Nat.le_of_ble_eq_true rfl⟩ ⟨rfl, rfl⟩ hP hS rfl hl.1 (Nat.le_of_ble_eq_true rfl) ⟨Nat.le_of_ble_eq_true rfl, Nat.le_of_ble_eq_true rfl⟩ rfl dL_acts_933 (fun H locs hP hS => ?_)
        refine lv_i2l hx hb dL_acts_936 rfl ?_
        refine lv_bipush (v := 31) hx hb dL_acts_937 (by decide) ?_
        refine lv_lshl hx hb dL_acts_939 rfl ?_
        refine lv_aload_n hx hb dL_acts_940 rfl (lv_at hl 3 rfl) ?_
        obtain ⟨v79, hv79, h⟩ := bO_e h
        refine mw_callSi X (c_L_dirty l E hA hv79) pk_L_dirty wm_221 wm_220 ⟨Nat.le_of_ble_eq_true rfl, Nat.le_of_ble_eq_true rfl⟩ ⟨rfl, rfl⟩ hP hS rfl hl.1 (Nat.le_of_ble_eq_true rfl) ⟨Nat.le_of_ble_eq_true rfl, Nat.le_of_ble_eq_true rfl⟩ rfl dL_acts_941 (fun H locs hP hS => ?_)
        refine lv_i2l hx hb dL_acts_944 rfl ?_
        refine lv_bipush (v := 35) hx hb dL_acts_945 (by decide) ?_
        refine lv_lshl hx hb dL_acts_947 rfl ?_
        refine lv_lor hx hb dL_acts_948 ?_
        refine lv_lor hx hb dL_acts_949 ?_
        obtain ⟨g80, h⟩ := gd_e h
        refine mw_lst X hP hS (inb_vp g80) rfl dL_acts_950 (fun H locs M81 eM81 hP hS => ?_)
        have h := bd_e h eM81
        refine lv_aload_n hx hb dL_acts_951 rfl (lv_at hl 1 rfl) ?_
        refine lv_iload hx hb dL_acts_952 (lv_at hl 6 rfl) ?_
        obtain ⟨v82, M83, hv82, h⟩ := bP_e h
        refine mw_callSi X (c_L_force l E hA hv82) pk_L_force wm_528 wm_527 ⟨Nat.le_of_ble_eq_true rfl, Nat.le_of_ble_eq_true rfl⟩ ⟨rfl, rfl⟩ hP hS rfl hl.1 (Nat.le_of_ble_eq_true rfl) ⟨Nat.le_of_ble_eq_true rfl, Nat.le_of_ble_eq_true rfl⟩ rfl dL_acts_954 (fun H locs hP hS => ?_)
        refine lv_pop hx hb dL_acts_957 rfl ?_
        refine lv_aload_n hx hb dL_acts_958 rfl (lv_at hl 0 rfl) ?_
        obtain ⟨v84, M85, hv84, h⟩ := bP_e h
        refine mw_callVi X (c_X7_checkpoint l E hA hv84) pk_X7_checkpoint pv_X7_checkpoint wm_460 ⟨Nat.le_of_ble_eq_true rfl, Nat.le_of_ble_eq_true rfl⟩ ⟨rfl, rfl⟩ hP hS ix_27 rfl rfl rfl rfl hl.1 (Nat.le_of_ble_eq_true rfl) ⟨Nat.le_of_ble_eq_true rfl, Nat.le_of_ble_eq_true rfl⟩ rfl dL_acts_959 (fun H locs hP hS => ?_)
        refine lv_iload hx hb dL_acts_962 (lv_at hl 6 rfl) ?_
        refine lv_icmp_ne (tgt := 971) hx hb dL_acts_964 (by decide) (fun c86 => ?_) (fun c86 => ?_)
        · have h := br_0 h c86
          refine lv_iconst (v := 0) hx hb dL_acts_971 (by decide) ?_
          have h := Option.some.inj h
          refine W.widen (k := 2) (n := 10) (Nat.zero_le _) (Nat.zero_le _) ?_
          exact mw_zretS X hr hlocks hP hS (by decide) (congrArg Prod.fst h) (congrArg Prod.snd h) dL_acts_972
        · have h := br_1 h c86
          refine lv_iconst (v := 1) hx hb dL_acts_967 (by decide) ?_
          refine lv_goto (tgt := 972) hx hb dL_acts_968 (by decide) ?_
          have h := Option.some.inj h
          refine W.widen (k := 2) (n := 10) (Nat.zero_le _) (Nat.zero_le _) ?_
          exact mw_zretS X hr hlocks hP hS (by decide) (congrArg Prod.fst h) (congrArg Prod.snd h) dL_acts_972
      · have h := br_0 h c76
        refine lv_aload hx hb dL_acts_885 (lv_at hl 5 rfl) ?_
        refine lv_iload hx hb dL_acts_887 (lv_at hl 7 rfl) ?_
        refine lv_aload_n hx hb dL_acts_889 rfl (lv_at hl 3 rfl) ?_
        obtain ⟨v87, hv87, h⟩ := bO_e h
        refine mw_callSi X (c_L_dirty l E hA hv87) pk_L_dirty wm_221 wm_220 ⟨Nat.le_of_ble_eq_true rfl, Nat.le_of_ble_eq_true rfl⟩ ⟨rfl, rfl⟩ hP hS rfl hl.1 (Nat.le_of_ble_eq_true rfl) ⟨Nat.le_of_ble_eq_true rfl, Nat.le_of_ble_eq_true rfl⟩ rfl dL_acts_890 (fun H locs hP hS => ?_)
        refine lv_iload hx hb dL_acts_893 (lv_at hl 7 rfl) ?_
        refine lv_ishr hx hb dL_acts_895 ?_
        refine lv_iconst (v := 1) hx hb dL_acts_896 (by decide) ?_
        refine lv_iand hx hb dL_acts_897 ?_
        refine lv_iconst (v := 1) hx hb dL_acts_898 (by decide) ?_
        refine lv_icmp_ne (tgt := 914) hx hb dL_acts_899 (by decide) (fun c88 => ?_) (fun c88 => ?_)
        · have h := br_0 h c88
          refine lv_iconst (v := 0) hx hb dL_acts_914 (by decide) ?_
          exact w_L915 _ _ _ _ _ _ _ _ h hP hS (lv_sub hl [0, 1, 2, 3, 4, 5, 6, 7] rfl)
        · have h := br_1 h c88
          refine lv_aload_n hx hb dL_acts_902 rfl (lv_at hl 3 rfl) ?_
          refine lv_bipush (v := 6) hx hb dL_acts_903 (by decide) ?_
          refine lv_iload hx hb dL_acts_905 (lv_at hl 7 rfl) ?_
          refine lv_imul hx hb dL_acts_907 ?_
          refine lv_iconst (v := 5) hx hb dL_acts_908 (by decide) ?_
          refine lv_iadd hx hb dL_acts_909 ?_
          obtain ⟨g92, h⟩ := gd_e h
          refine mw_ld X hP ix_30 rfl (inb_vp g92) rfl dL_acts_910 ?_
          refine lv_goto (tgt := 915) hx hb dL_acts_911 (by decide) ?_
          exact w_L915 _ _ _ _ _ _ _ _ h hP hS (lv_sub hl [0, 1, 2, 3, 4, 5, 6, 7] rfl)
  have w_L720 : ∀ (M : Mem) (y7 y8 y9 y12 y13 : Int32) (H : Heap) (locs : List Loc) (ls : Array Slot), f_L_acts_L720  M y7 y8 y9 y12 y13 = some (r0, M0) → va_P E.1 vwCl (wl E M) H → va_S (AS E s.heap.size) s.heap H locs → lv_has ls 17 [(0, .ref (E.2.2 10 27)), (1, .ref (E.2.2 11 28)), (2, .ref (E.2.2 11 29)), (3, .ref (E.2.2 11 30)), (4, .ref (E.2.2 11 31)), (5, .ref (E.2.2 11 32)), (7, .int y7), (8, .int y8), (9, .int y9), (12, .int y12), (13, .int y13)] → W p l e (headSpec (Wm yL_acts cL_acts 17 (some .boolean)) ({ frames := 6, cells := 2, slots := 10, locals := 140 } : Room)).room s m ([Value.ref (E.2.2 10 27), Value.ref (E.2.2 11 28), Value.ref (E.2.2 11 29), Value.ref (E.2.2 11 30), Value.ref (E.2.2 11 31), Value.ref (E.2.2 11 32), Value.int a1] : List Value).toArray below meth c H locs 0 0 (MQ below (QIs E s.heap.size r0 M0) ([Value.ref (E.2.2 10 27), Value.ref (E.2.2 11 28), Value.ref (E.2.2 11 29), Value.ref (E.2.2 11 30), Value.ref (E.2.2 11 31), Value.ref (E.2.2 11 32), Value.int a1] : List Value).toArray s 2 10 (AS E s.heap.size)) (F0 m 720 ls []) := by
    intro M y7 y8 y9 y12 y13 H locs ls h hP hS hl
    unfold f_L_acts_L720 at h
    refine lv_iload hx hb dL_acts_720 (lv_at hl 7 rfl) ?_
    refine lv_bipush (v := 22) hx hb dL_acts_722 (by decide) ?_
    refine lv_icmp_ge (tgt := 849) hx hb dL_acts_724 (by decide) (fun c16 => ?_) (fun c16 => ?_)
    · have h := br_1 h c16
      refine lv_iload hx hb dL_acts_849 (lv_at hl 7 rfl) ?_
      refine lv_bipush (v := 22) hx hb dL_acts_851 (by decide) ?_
      refine lv_icmp_ne (tgt := 973) hx hb dL_acts_853 (by decide) (fun c17 => ?_) (fun c17 => ?_)
      · have h := br_0 h c17
        exact w_L973 _ _ _ _ _ _ _ _ h hP hS (lv_sub hl [0, 1, 2, 3, 4, 5, 6, 7, 8, 9] rfl)
      · have h := br_1 h c17
        refine lv_iload hx hb dL_acts_856 (lv_at hl 9 rfl) ?_
        refine lv_if_ne (tgt := 973) hx hb dL_acts_858 (by decide) (fun c73 => ?_) (fun c73 => ?_)
        · have h := br_0 h c73
          exact w_L973 _ _ _ _ _ _ _ _ h hP hS (lv_sub hl [0, 1, 2, 3, 4, 5, 6, 7, 8, 9] rfl)
        · have h := br_1 h c73
          refine lv_aload hx hb dL_acts_861 (lv_at hl 4 rfl) ?_
          refine lv_aload_n hx hb dL_acts_863 rfl (lv_at hl 1 rfl) ?_
          refine lv_iconst (v := 5) hx hb dL_acts_864 (by decide) ?_
          refine lv_iconst (v := 0) hx hb dL_acts_865 (by decide) ?_
          refine lv_iconst (v := 0) hx hb dL_acts_866 (by decide) ?_
          refine lv_iconst (v := 0) hx hb dL_acts_867 (by decide) ?_
          refine lv_iconst (v := 0) hx hb dL_acts_868 (by decide) ?_
          refine lv_iconst (v := 0) hx hb dL_acts_869 (by decide) ?_
          obtain ⟨v74, M75, hv74, h⟩ := bP_e h
          refine mw_callSi X (c_L_add l E hA hv74) pk_L_add wm_525 wm_524 ⟨Nat.le_of_ble_eq_true rfl, Nat.le_of_ble_eq_true rfl⟩ ⟨rfl, rfl⟩ hP hS rfl hl.1 (Nat.le_of_ble_eq_true rfl) ⟨Nat.le_of_ble_eq_true rfl, Nat.le_of_ble_eq_true rfl⟩ rfl dL_acts_870 (fun H locs hP hS => ?_)
          refine lv_istore (lv' := [(14, .int v74), (0, .ref (E.2.2 10 27)), (1, .ref (E.2.2 11 28)), (2, .ref (E.2.2 11 29)), (3, .ref (E.2.2 11 30)), (4, .ref (E.2.2 11 31)), (5, .ref (E.2.2 11 32)), (7, .int y7), (8, .int y8), (9, .int y9), (12, .int y12), (13, .int y13)]) hx hb dL_acts_873 hl (by decide) rfl (fun ls hl => ?_)
          refine lv_iconst (v := 0) hx hb dL_acts_875 (by decide) ?_
          refine lv_istore (lv' := [(15, .int (0 : Int32)), (14, .int v74), (0, .ref (E.2.2 10 27)), (1, .ref (E.2.2 11 28)), (2, .ref (E.2.2 11 29)), (3, .ref (E.2.2 11 30)), (4, .ref (E.2.2 11 31)), (5, .ref (E.2.2 11 32)), (7, .int y7), (8, .int y8), (9, .int y9), (12, .int y12), (13, .int y13)]) hx hb dL_acts_876 hl (by decide) rfl (fun ls hl => ?_)
          exact w_L878 FU _ _ _ _ _ _ h hP hS (lv_sub hl [2, 3, 4, 5, 6, 7, 1, 0] rfl)
    · have h := br_0 h c16
      refine lv_aload_n hx hb dL_acts_727 rfl (lv_at hl 3 rfl) ?_
      refine lv_iload hx hb dL_acts_728 (lv_at hl 10 rfl) ?_
      obtain ⟨v93, hv93, h⟩ := bO_e h
      refine mw_callSi X (c_L_mark l E hA hv93) pk_L_mark wm_96 wm_95 ⟨Nat.le_of_ble_eq_true rfl, Nat.le_of_ble_eq_true rfl⟩ ⟨rfl, rfl⟩ hP hS rfl hl.1 (Nat.le_of_ble_eq_true rfl) ⟨Nat.le_of_ble_eq_true rfl, Nat.le_of_ble_eq_true rfl⟩ rfl dL_acts_730 (fun H locs hP hS => ?_)
      refine lv_aload_n hx hb dL_acts_733 rfl (lv_at hl 3 rfl) ?_
      refine lv_bipush (v := 6) hx hb dL_acts_734 (by decide) ?_
      refine lv_iload hx hb dL_acts_736 (lv_at hl 10 rfl) ?_
      refine lv_imul hx hb dL_acts_738 ?_
      refine lv_iconst (v := 1) hx hb dL_acts_739 (by decide) ?_
      refine lv_iadd hx hb dL_acts_740 ?_
      obtain ⟨g94, h⟩ := gd_e h
      refine mw_ld X hP ix_30 rfl (inb_vp g94) rfl dL_acts_741 ?_
      refine lv_icmp_ne (tgt := 786) hx hb dL_acts_742 (by decide) (fun c95 => ?_) (fun c95 => ?_)
      · have h := br_0 h c95
        refine lv_aload_n hx hb dL_acts_786 rfl (lv_at hl 1 rfl) ?_
        refine lv_aload_n hx hb dL_acts_787 rfl (lv_at hl 3 rfl) ?_
        refine lv_iload hx hb dL_acts_788 (lv_at hl 10 rfl) ?_
        obtain ⟨v96, hv96, h⟩ := bO_e h
        refine mw_callSi X (c_L_mark l E hA hv96) pk_L_mark wm_96 wm_95 ⟨Nat.le_of_ble_eq_true rfl, Nat.le_of_ble_eq_true rfl⟩ ⟨rfl, rfl⟩ hP hS rfl hl.1 (Nat.le_of_ble_eq_true rfl) ⟨Nat.le_of_ble_eq_true rfl, Nat.le_of_ble_eq_true rfl⟩ rfl dL_acts_790 (fun H locs hP hS => ?_)
        obtain ⟨v97, M98, hv97, h⟩ := bP_e h
        refine mw_callSi X (c_L_force l E hA hv97) pk_L_force wm_528 wm_527 ⟨Nat.le_of_ble_eq_true rfl, Nat.le_of_ble_eq_true rfl⟩ ⟨rfl, rfl⟩ hP hS rfl hl.1 (Nat.le_of_ble_eq_true rfl) ⟨Nat.le_of_ble_eq_true rfl, Nat.le_of_ble_eq_true rfl⟩ rfl dL_acts_793 (fun H locs hP hS => ?_)
        refine lv_istore (lv' := [(14, .int v97), (0, .ref (E.2.2 10 27)), (1, .ref (E.2.2 11 28)), (2, .ref (E.2.2 11 29)), (3, .ref (E.2.2 11 30)), (4, .ref (E.2.2 11 31)), (5, .ref (E.2.2 11 32)), (7, .int y7), (8, .int y8), (9, .int y9), (12, .int y12), (13, .int y13)]) hx hb dL_acts_796 hl (by decide) rfl (fun ls hl => ?_)
        refine lv_aload_n hx hb dL_acts_798 rfl (lv_at hl 4 rfl) ?_
        refine lv_bipush (v := 6) hx hb dL_acts_799 (by decide) ?_
        refine lv_iload hx hb dL_acts_801 (lv_at hl 11 rfl) ?_
        refine lv_imul hx hb dL_acts_803 ?_
        refine lv_aload_n hx hb dL_acts_804 rfl (lv_at hl 4 rfl) ?_
        refine lv_bipush (v := 6) hx hb dL_acts_805 (by decide) ?_
        refine lv_iload hx hb dL_acts_807 (lv_at hl 11 rfl) ?_
        refine lv_imul hx hb dL_acts_809 ?_
        refine lv_iconst (v := 3) hx hb dL_acts_810 (by decide) ?_
        refine lv_iadd hx hb dL_acts_811 ?_
        obtain ⟨g99, h⟩ := gd_e h
        refine mw_ld X hP ix_30 rfl (inb_vp g99) rfl dL_acts_812 ?_
        obtain ⟨g101, h⟩ := gd_e h
        refine mw_st X hP hS ix_30 (fun _ => rfl) (inb_vp g101) rfl dL_acts_813 (fun H locs M100 eM100 hP hS => ?_)
        have h := bd_e h eM100
        refine lv_aload_n hx hb dL_acts_814 rfl (lv_at hl 4 rfl) ?_
        refine lv_bipush (v := 6) hx hb dL_acts_815 (by decide) ?_
        refine lv_iload hx hb dL_acts_817 (lv_at hl 11 rfl) ?_
        refine lv_imul hx hb dL_acts_819 ?_
        refine lv_iconst (v := 1) hx hb dL_acts_820 (by decide) ?_
        refine lv_iadd hx hb dL_acts_821 ?_
        refine lv_aload_n hx hb dL_acts_822 rfl (lv_at hl 4 rfl) ?_
        refine lv_bipush (v := 6) hx hb dL_acts_823 (by decide) ?_
        refine lv_iload hx hb dL_acts_825 (lv_at hl 11 rfl) ?_
        refine lv_imul hx hb dL_acts_827 ?_
        refine lv_iconst (v := 4) hx hb dL_acts_828 (by decide) ?_
        refine lv_iadd hx hb dL_acts_829 ?_
        obtain ⟨g102, h⟩ := gd_e h
        refine mw_ld X hP ix_30 rfl (inb_vp g102) rfl dL_acts_830 ?_
        obtain ⟨g104, h⟩ := gd_e h
        refine mw_st X hP hS ix_30 (fun _ => rfl) (inb_vp g104) rfl dL_acts_831 (fun H locs M103 eM103 hP hS => ?_)
        have h := bd_e h eM103
        refine lv_aload_n hx hb dL_acts_832 rfl (lv_at hl 1 rfl) ?_
        refine lv_iload hx hb dL_acts_833 (lv_at hl 11 rfl) ?_
        obtain ⟨v105, M106, hv105, h⟩ := bP_e h
        refine mw_callVi X (c_X7_writeOut l E hA hv105) pk_X7_writeOut pv_X7_writeOut wm_439 ⟨Nat.le_of_ble_eq_true rfl, Nat.le_of_ble_eq_true rfl⟩ ⟨rfl, rfl⟩ hP hS ix_27 rfl rfl rfl rfl hl.1 (Nat.le_of_ble_eq_true rfl) ⟨Nat.le_of_ble_eq_true rfl, Nat.le_of_ble_eq_true rfl⟩ rfl dL_acts_835 (fun H locs hP hS => ?_)
        refine lv_iload hx hb dL_acts_838 (lv_at hl 0 rfl) ?_
        refine lv_icmp_ne (tgt := 847) hx hb dL_acts_840 (by decide) (fun c107 => ?_) (fun c107 => ?_)
        · have h := br_0 h c107
          refine lv_iconst (v := 0) hx hb dL_acts_847 (by decide) ?_
          have h := Option.some.inj h
          refine W.widen (k := 2) (n := 10) (Nat.zero_le _) (Nat.zero_le _) ?_
          exact mw_zretS X hr hlocks hP hS (by decide) (congrArg Prod.fst h) (congrArg Prod.snd h) dL_acts_848
        · have h := br_1 h c107
          refine lv_iconst (v := 1) hx hb dL_acts_843 (by decide) ?_
          refine lv_goto (tgt := 848) hx hb dL_acts_844 (by decide) ?_
          have h := Option.some.inj h
          refine W.widen (k := 2) (n := 10) (Nat.zero_le _) (Nat.zero_le _) ?_
          exact mw_zretS X hr hlocks hP hS (by decide) (congrArg Prod.fst h) (congrArg Prod.snd h) dL_acts_848
      · have h := br_1 h c95
        refine lv_aload_n hx hb dL_acts_745 rfl (lv_at hl 0 rfl) ?_
        refine lv_iload hx hb dL_acts_746 (lv_at hl 10 rfl) ?_
        obtain ⟨v108, M109, hv108, h⟩ := bP_e h
        refine mw_callVi X (c_X7_writeOut l E hA hv108) pk_X7_writeOut pv_X7_writeOut wm_439 ⟨Nat.le_of_ble_eq_true rfl, Nat.le_of_ble_eq_true rfl⟩ ⟨rfl, rfl⟩ hP hS ix_27 rfl rfl rfl rfl hl.1 (Nat.le_of_ble_eq_true rfl) ⟨Nat.le_of_ble_eq_true rfl, Nat.le_of_ble_eq_true rfl⟩ rfl dL_acts_748 (fun H locs hP hS => ?_)
        refine lv_iload hx hb dL_acts_751 (lv_at hl 8 rfl) ?_
        refine lv_icmp_ne (tgt := 784) hx hb dL_acts_753 (by decide) (fun c110 => ?_) (fun c110 => ?_)
        · have h := br_0 h c110
          refine lv_iconst (v := 0) hx hb dL_acts_784 (by decide) ?_
          have h := Option.some.inj h
          refine W.widen (k := 2) (n := 10) (Nat.zero_le _) (Nat.zero_le _) ?_
          exact mw_zretS X hr hlocks hP hS (by decide) (congrArg Prod.fst h) (congrArg Prod.snd h) dL_acts_785
        · have h := br_1 h c110
          refine lv_aload_n hx hb dL_acts_756 rfl (lv_at hl 3 rfl) ?_
          refine lv_bipush (v := 6) hx hb dL_acts_757 (by decide) ?_
          refine lv_iload hx hb dL_acts_759 (lv_at hl 10 rfl) ?_
          refine lv_imul hx hb dL_acts_761 ?_
          refine lv_iconst (v := 2) hx hb dL_acts_762 (by decide) ?_
          refine lv_iadd hx hb dL_acts_763 ?_
          obtain ⟨g111, h⟩ := gd_e h
          refine mw_ld X hP ix_30 rfl (inb_vp g111) rfl dL_acts_764 ?_
          refine lv_iconst (v := 1) hx hb dL_acts_765 (by decide) ?_
          refine lv_icmp_eq (tgt := 780) hx hb dL_acts_766 (by decide) (fun c112 => ?_) (fun c112 => ?_)
          · have h := br_1 h c112
            refine lv_iconst (v := 1) hx hb dL_acts_780 (by decide) ?_
            refine lv_goto (tgt := 785) hx hb dL_acts_781 (by decide) ?_
            have h := Option.some.inj h
            refine W.widen (k := 2) (n := 10) (Nat.zero_le _) (Nat.zero_le _) ?_
            exact mw_zretS X hr hlocks hP hS (by decide) (congrArg Prod.fst h) (congrArg Prod.snd h) dL_acts_785
          · have h := br_0 h c112
            refine lv_aload_n hx hb dL_acts_769 rfl (lv_at hl 0 rfl) ?_
            refine lv_iload hx hb dL_acts_770 (lv_at hl 10 rfl) ?_
            obtain ⟨v113, M114, hv113, h⟩ := bP_e h
            refine mw_callVi X (c_X7_dropOut l E hA hv113) pk_X7_dropOut pv_X7_dropOut wm_452 ⟨Nat.le_of_ble_eq_true rfl, Nat.le_of_ble_eq_true rfl⟩ ⟨rfl, rfl⟩ hP hS ix_27 rfl rfl rfl rfl hl.1 (Nat.le_of_ble_eq_true rfl) ⟨Nat.le_of_ble_eq_true rfl, Nat.le_of_ble_eq_true rfl⟩ rfl dL_acts_772 (fun H locs hP hS => ?_)
            refine lv_iload hx hb dL_acts_775 (lv_at hl 8 rfl) ?_
            refine lv_icmp_ne (tgt := 784) hx hb dL_acts_777 (by decide) (fun c115 => ?_) (fun c115 => ?_)
            · have h := br_0 h c115
              refine lv_iconst (v := 0) hx hb dL_acts_784 (by decide) ?_
              have h := Option.some.inj h
              refine W.widen (k := 2) (n := 10) (Nat.zero_le _) (Nat.zero_le _) ?_
              exact mw_zretS X hr hlocks hP hS (by decide) (congrArg Prod.fst h) (congrArg Prod.snd h) dL_acts_785
            · have h := br_1 h c115
              refine lv_iconst (v := 1) hx hb dL_acts_780 (by decide) ?_
              refine lv_goto (tgt := 785) hx hb dL_acts_781 (by decide) ?_
              have h := Option.some.inj h
              refine W.widen (k := 2) (n := 10) (Nat.zero_le _) (Nat.zero_le _) ?_
              exact mw_zretS X hr hlocks hP hS (by decide) (congrArg Prod.fst h) (congrArg Prod.snd h) dL_acts_785
  have w_L673 : ∀ (n673 : Nat) (M : Mem) (y7 y8 y9 y12 y13 y14 : Int32) (H : Heap) (locs : List Loc) (ls : Array Slot), itr (f_L_acts_L673 ) (fun _ _ _ _ _ _ _ => none) n673 M y7 y8 y9 y12 y13 y14 = some (r0, M0) → va_P E.1 vwCl (wl E M) H → va_S (AS E s.heap.size) s.heap H locs → lv_has ls 17 [(0, .ref (E.2.2 10 27)), (1, .ref (E.2.2 11 28)), (2, .ref (E.2.2 11 29)), (3, .ref (E.2.2 11 30)), (4, .ref (E.2.2 11 31)), (5, .ref (E.2.2 11 32)), (7, .int y7), (8, .int y8), (9, .int y9), (12, .int y12), (13, .int y13), (14, .int y14)] → W p l e (headSpec (Wm yL_acts cL_acts 17 (some .boolean)) ({ frames := 6, cells := 2, slots := 10, locals := 140 } : Room)).room s m ([Value.ref (E.2.2 10 27), Value.ref (E.2.2 11 28), Value.ref (E.2.2 11 29), Value.ref (E.2.2 11 30), Value.ref (E.2.2 11 31), Value.ref (E.2.2 11 32), Value.int a1] : List Value).toArray below meth c H locs 0 0 (MQ below (QIs E s.heap.size r0 M0) ([Value.ref (E.2.2 10 27), Value.ref (E.2.2 11 28), Value.ref (E.2.2 11 29), Value.ref (E.2.2 11 30), Value.ref (E.2.2 11 31), Value.ref (E.2.2 11 32), Value.int a1] : List Value).toArray s 2 10 (AS E s.heap.size)) (F0 m 673 ls []) := by
    intro n673
    induction n673 with
    | zero => intro M y7 y8 y9 y12 y13 y14 H locs ls h; exact (nomatch (show (none : Option (Int32 × Mem)) = some _ from h))
    | succ n673 ih673 =>
      intro M y7 y8 y9 y12 y13 y14 H locs ls h hP hS hl
      have h : f_L_acts_L673 (itr (f_L_acts_L673 ) (fun _ _ _ _ _ _ _ => none) n673) M y7 y8 y9 y12 y13 y14 = some (r0, M0) := h
      unfold f_L_acts_L673 at h
      refine lv_iload hx hb dL_acts_673 (lv_at hl 11 rfl) ?_
      refine lv_bipush (v := 8) hx hb dL_acts_675 (by decide) ?_
      refine lv_icmp_ge (tgt := 720) hx hb dL_acts_677 (by decide) (fun c15 => ?_) (fun c15 => ?_)
      · have h := br_1 h c15
        exact w_L720 _ _ _ _ _ _ _ _ _ h hP hS (lv_sub hl [0, 1, 2, 3, 4, 5, 6, 7, 8, 9, 10] rfl)
      · have h := br_0 h c15
        refine lv_aload_n hx hb dL_acts_680 rfl (lv_at hl 3 rfl) ?_
        refine lv_iload hx hb dL_acts_681 (lv_at hl 10 rfl) ?_
        obtain ⟨v116, hv116, h⟩ := bO_e h
        refine mw_callSi X (c_L_mark l E hA hv116) pk_L_mark wm_96 wm_95 ⟨Nat.le_of_ble_eq_true rfl, Nat.le_of_ble_eq_true rfl⟩ ⟨rfl, rfl⟩ hP hS rfl hl.1 (Nat.le_of_ble_eq_true rfl) ⟨Nat.le_of_ble_eq_true rfl, Nat.le_of_ble_eq_true rfl⟩ rfl dL_acts_683 (fun H locs hP hS => ?_)
        refine lv_aload_n hx hb dL_acts_686 rfl (lv_at hl 3 rfl) ?_
        refine lv_bipush (v := 6) hx hb dL_acts_687 (by decide) ?_
        refine lv_iload hx hb dL_acts_689 (lv_at hl 10 rfl) ?_
        refine lv_imul hx hb dL_acts_691 ?_
        refine lv_iconst (v := 1) hx hb dL_acts_692 (by decide) ?_
        refine lv_iadd hx hb dL_acts_693 ?_
        obtain ⟨g117, h⟩ := gd_e h
        refine mw_ld X hP ix_30 rfl (inb_vp g117) rfl dL_acts_694 ?_
        refine lv_icmp_ne (tgt := 720) hx hb dL_acts_695 (by decide) (fun c118 => ?_) (fun c118 => ?_)
        · have h := br_0 h c118
          exact w_L720 _ _ _ _ _ _ _ _ _ h hP hS (lv_sub hl [0, 1, 2, 3, 4, 5, 6, 7, 8, 9, 10] rfl)
        · have h := br_1 h c118
          refine lv_iload hx hb dL_acts_698 (lv_at hl 6 rfl) ?_
          refine lv_iconst (v := 3) hx hb dL_acts_700 (by decide) ?_
          obtain ⟨g119, h⟩ := gd_e h
          refine lv_irem hx hb dL_acts_701 g119 ?_
          refine lv_if_le (tgt := 720) hx hb dL_acts_702 (by decide) (fun c120 => ?_) (fun c120 => ?_)
          · have h := br_1 h c120
            exact w_L720 _ _ _ _ _ _ _ _ _ h hP hS (lv_sub hl [0, 1, 2, 3, 4, 5, 6, 7, 8, 9, 10] rfl)
          · have h := br_0 h c120
            refine lv_iload hx hb dL_acts_705 (lv_at hl 10 rfl) ?_
            refine lv_iconst (v := 1) hx hb dL_acts_707 (by decide) ?_
            refine lv_iadd hx hb dL_acts_708 ?_
            refine lv_bipush (v := 8) hx hb dL_acts_709 (by decide) ?_
            obtain ⟨g121, h⟩ := gd_e h
            refine lv_irem hx hb dL_acts_711 g121 ?_
            refine lv_topi (fun x122 ex122 => ?_)
            have h := bd_e h ex122
            refine lv_istore (lv' := [(13, .int x122), (0, .ref (E.2.2 10 27)), (1, .ref (E.2.2 11 28)), (2, .ref (E.2.2 11 29)), (3, .ref (E.2.2 11 30)), (4, .ref (E.2.2 11 31)), (5, .ref (E.2.2 11 32)), (7, .int y7), (8, .int y8), (9, .int y9), (12, .int y12), (14, .int y14)]) hx hb dL_acts_712 hl (by decide) rfl (fun ls hl => ?_)
            obtain ⟨x123, ex123⟩ : ∃ y : Int32, y = y14 + (1 : Int32) := ⟨_, rfl⟩
            have h := bd_e h ex123
            refine lv_iinc (v := x123) (lv' := [(14, .int x123), (13, .int x122), (0, .ref (E.2.2 10 27)), (1, .ref (E.2.2 11 28)), (2, .ref (E.2.2 11 29)), (3, .ref (E.2.2 11 30)), (4, .ref (E.2.2 11 31)), (5, .ref (E.2.2 11 32)), (7, .int y7), (8, .int y8), (9, .int y9), (12, .int y12)]) hx hb dL_acts_714 hl (k := 11) rfl (by rw [ex123]; rfl) (by decide) rfl (fun ls hl => ?_)
            refine lv_goto (tgt := 673) hx hb dL_acts_717 (by decide) ?_
            exact ih673 _ _ _ _ _ _ _ _ _ _ h hP hS (lv_sub hl [2, 3, 4, 5, 6, 7, 8, 9, 10, 11, 1, 0] rfl)
  have w_L661 : ∀ (M : Mem) (y7 y8 y9 y12 : Int32) (H : Heap) (locs : List Loc) (ls : Array Slot), f_L_acts_L661  M y7 y8 y9 y12 = some (r0, M0) → va_P E.1 vwCl (wl E M) H → va_S (AS E s.heap.size) s.heap H locs → lv_has ls 17 [(0, .ref (E.2.2 10 27)), (1, .ref (E.2.2 11 28)), (2, .ref (E.2.2 11 29)), (3, .ref (E.2.2 11 30)), (4, .ref (E.2.2 11 31)), (5, .ref (E.2.2 11 32)), (7, .int y7), (8, .int y8), (9, .int y9), (12, .int y12)] → W p l e (headSpec (Wm yL_acts cL_acts 17 (some .boolean)) ({ frames := 6, cells := 2, slots := 10, locals := 140 } : Room)).room s m ([Value.ref (E.2.2 10 27), Value.ref (E.2.2 11 28), Value.ref (E.2.2 11 29), Value.ref (E.2.2 11 30), Value.ref (E.2.2 11 31), Value.ref (E.2.2 11 32), Value.int a1] : List Value).toArray below meth c H locs 0 0 (MQ below (QIs E s.heap.size r0 M0) ([Value.ref (E.2.2 10 27), Value.ref (E.2.2 11 28), Value.ref (E.2.2 11 29), Value.ref (E.2.2 11 30), Value.ref (E.2.2 11 31), Value.ref (E.2.2 11 32), Value.int a1] : List Value).toArray s 2 10 (AS E s.heap.size)) (F0 m 661 ls []) := by
    intro M y7 y8 y9 y12 H locs ls h hP hS hl
    unfold f_L_acts_L661 at h
    refine lv_iload hx hb dL_acts_661 (lv_at hl 6 rfl) ?_
    refine lv_iconst (v := 4) hx hb dL_acts_663 (by decide) ?_
    obtain ⟨g12, h⟩ := gd_e h
    refine lv_idiv hx hb dL_acts_664 g12 ?_
    refine lv_bipush (v := 8) hx hb dL_acts_665 (by decide) ?_
    obtain ⟨g13, h⟩ := gd_e h
    refine lv_irem hx hb dL_acts_667 g13 ?_
    refine lv_topi (fun x14 ex14 => ?_)
    have h := bd_e h ex14
    refine lv_istore (lv' := [(13, .int x14), (0, .ref (E.2.2 10 27)), (1, .ref (E.2.2 11 28)), (2, .ref (E.2.2 11 29)), (3, .ref (E.2.2 11 30)), (4, .ref (E.2.2 11 31)), (5, .ref (E.2.2 11 32)), (7, .int y7), (8, .int y8), (9, .int y9), (12, .int y12)]) hx hb dL_acts_668 hl (by decide) rfl (fun ls hl => ?_)
    refine lv_iconst (v := 0) hx hb dL_acts_670 (by decide) ?_
    refine lv_istore (lv' := [(14, .int (0 : Int32)), (13, .int x14), (0, .ref (E.2.2 10 27)), (1, .ref (E.2.2 11 28)), (2, .ref (E.2.2 11 29)), (3, .ref (E.2.2 11 30)), (4, .ref (E.2.2 11 31)), (5, .ref (E.2.2 11 32)), (7, .int y7), (8, .int y8), (9, .int y9), (12, .int y12)]) hx hb dL_acts_671 hl (by decide) rfl (fun ls hl => ?_)
    exact w_L673 FU _ _ _ _ _ _ _ _ _ _ h hP hS (lv_sub hl [2, 3, 4, 5, 6, 7, 8, 9, 10, 11, 1, 0] rfl)
  have w_L580 : ∀ (M : Mem) (y7 y8 y9 y10 y11 y12 : Int32) (H : Heap) (locs : List Loc) (ls : Array Slot), f_L_acts_L580  M y7 y8 y9 y10 y11 y12 = some (r0, M0) → va_P E.1 vwCl (wl E M) H → va_S (AS E s.heap.size) s.heap H locs → lv_has ls 17 [(0, .ref (E.2.2 10 27)), (1, .ref (E.2.2 11 28)), (2, .ref (E.2.2 11 29)), (3, .ref (E.2.2 11 30)), (4, .ref (E.2.2 11 31)), (5, .ref (E.2.2 11 32)), (7, .int y7), (8, .int y8), (9, .int y9), (10, .int y10), (11, .int y11), (12, .int y12)] → W p l e (headSpec (Wm yL_acts cL_acts 17 (some .boolean)) ({ frames := 6, cells := 2, slots := 10, locals := 140 } : Room)).room s m ([Value.ref (E.2.2 10 27), Value.ref (E.2.2 11 28), Value.ref (E.2.2 11 29), Value.ref (E.2.2 11 30), Value.ref (E.2.2 11 31), Value.ref (E.2.2 11 32), Value.int a1] : List Value).toArray below meth c H locs 0 0 (MQ below (QIs E s.heap.size r0 M0) ([Value.ref (E.2.2 10 27), Value.ref (E.2.2 11 28), Value.ref (E.2.2 11 29), Value.ref (E.2.2 11 30), Value.ref (E.2.2 11 31), Value.ref (E.2.2 11 32), Value.int a1] : List Value).toArray s 2 10 (AS E s.heap.size)) (F0 m 580 ls []) := by
    intro M y7 y8 y9 y10 y11 y12 H locs ls h hP hS hl
    unfold f_L_acts_L580 at h
    refine lv_iload hx hb dL_acts_580 (lv_at hl 7 rfl) ?_
    refine lv_bipush (v := 18) hx hb dL_acts_582 (by decide) ?_
    refine lv_icmp_ne (tgt := 661) hx hb dL_acts_584 (by decide) (fun c11 => ?_) (fun c11 => ?_)
    · have h := br_0 h c11
      exact w_L661 _ _ _ _ _ _ _ _ h hP hS (lv_sub hl [0, 1, 2, 3, 4, 5, 6, 7, 8, 11] rfl)
    · have h := br_1 h c11
      refine lv_aload_n hx hb dL_acts_587 rfl (lv_at hl 1 rfl) ?_
      refine lv_iconst (v := 1) hx hb dL_acts_588 (by decide) ?_
      refine mw_ld X hP ix_28 rfl (v := (M 11 28 1)) (inb_vp (by decide)) rfl dL_acts_589 ?_
      refine lv_aload_n hx hb dL_acts_590 rfl (lv_at hl 2 rfl) ?_
      refine lv_iload hx hb dL_acts_591 (lv_at hl 10 rfl) ?_
      refine lv_iconst (v := 2) hx hb dL_acts_593 (by decide) ?_
      refine lv_iadd hx hb dL_acts_594 ?_
      obtain ⟨g124, h⟩ := gd_e h
      refine mw_ld X hP ix_29 rfl (inb_vp g124) rfl dL_acts_595 ?_
      refine lv_iadd hx hb dL_acts_596 ?_
      refine lv_bipush (v := 32) hx hb dL_acts_597 (by decide) ?_
      refine lv_icmp_ge (tgt := 661) hx hb dL_acts_599 (by decide) (fun c125 => ?_) (fun c125 => ?_)
      · have h := br_1 h c125
        exact w_L661 _ _ _ _ _ _ _ _ h hP hS (lv_sub hl [0, 1, 2, 3, 4, 5, 6, 7, 8, 11] rfl)
      · have h := br_0 h c125
        refine lv_aload_n hx hb dL_acts_602 rfl (lv_at hl 2 rfl) ?_
        refine lv_iload hx hb dL_acts_603 (lv_at hl 10 rfl) ?_
        obtain ⟨g126, h⟩ := gd_e h
        refine mw_ld X hP ix_29 rfl (inb_vp g126) rfl dL_acts_605 ?_
        refine lv_if_ne (tgt := 626) hx hb dL_acts_606 (by decide) (fun c127 => ?_) (fun c127 => ?_)
        · have h := br_0 h c127
          refine lv_aload_n hx hb dL_acts_626 rfl (lv_at hl 1 rfl) ?_
          refine lv_aload_n hx hb dL_acts_627 rfl (lv_at hl 3 rfl) ?_
          refine lv_aload hx hb dL_acts_628 (lv_at hl 4 rfl) ?_
          refine lv_iconst (v := 1) hx hb dL_acts_630 (by decide) ?_
          refine lv_iload hx hb dL_acts_631 (lv_at hl 9 rfl) ?_
          refine lv_ishl hx hb dL_acts_633 ?_
          obtain ⟨v128, M129, hv128, h⟩ := bP_e h
          refine mw_callSi X (c_L_back l E hA hv128) pk_L_back wm_522 wm_521 ⟨Nat.le_of_ble_eq_true rfl, Nat.le_of_ble_eq_true rfl⟩ ⟨rfl, rfl⟩ hP hS rfl hl.1 (Nat.le_of_ble_eq_true rfl) ⟨Nat.le_of_ble_eq_true rfl, Nat.le_of_ble_eq_true rfl⟩ rfl dL_acts_634 (fun H locs hP hS => ?_)
          refine lv_istore (lv' := [(13, .int v128), (0, .ref (E.2.2 10 27)), (1, .ref (E.2.2 11 28)), (2, .ref (E.2.2 11 29)), (3, .ref (E.2.2 11 30)), (4, .ref (E.2.2 11 31)), (5, .ref (E.2.2 11 32)), (7, .int y7), (8, .int y8), (9, .int y9), (10, .int y10), (11, .int y11), (12, .int y12)]) hx hb dL_acts_637 hl (by decide) rfl (fun ls hl => ?_)
          refine lv_aload_n hx hb dL_acts_639 rfl (lv_at hl 3 rfl) ?_
          refine lv_iload hx hb dL_acts_640 (lv_at hl 11 rfl) ?_
          refine lv_iconst (v := 0) hx hb dL_acts_642 (by decide) ?_
          obtain ⟨g131, h⟩ := gd_e h
          refine mw_st X hP hS ix_29 (fun _ => rfl) (inb_vp g131) rfl dL_acts_643 (fun H locs M130 eM130 hP hS => ?_)
          have h := bd_e h eM130
          refine lv_aload_n hx hb dL_acts_644 rfl (lv_at hl 1 rfl) ?_
          refine lv_iload hx hb dL_acts_645 (lv_at hl 10 rfl) ?_
          obtain ⟨v132, M133, hv132, h⟩ := bP_e h
          refine mw_callVi X (c_X7_takeBack l E hA hv132) pk_X7_takeBack pv_X7_takeBack wm_426 ⟨Nat.le_of_ble_eq_true rfl, Nat.le_of_ble_eq_true rfl⟩ ⟨rfl, rfl⟩ hP hS ix_27 rfl rfl rfl rfl hl.1 (Nat.le_of_ble_eq_true rfl) ⟨Nat.le_of_ble_eq_true rfl, Nat.le_of_ble_eq_true rfl⟩ rfl dL_acts_647 (fun H locs hP hS => ?_)
          refine lv_iload hx hb dL_acts_650 (lv_at hl 0 rfl) ?_
          refine lv_icmp_ne (tgt := 659) hx hb dL_acts_652 (by decide) (fun c134 => ?_) (fun c134 => ?_)
          · have h := br_0 h c134
            refine lv_iconst (v := 0) hx hb dL_acts_659 (by decide) ?_
            have h := Option.some.inj h
            refine W.widen (k := 2) (n := 10) (Nat.zero_le _) (Nat.zero_le _) ?_
            exact mw_zretS X hr hlocks hP hS (by decide) (congrArg Prod.fst h) (congrArg Prod.snd h) dL_acts_660
          · have h := br_1 h c134
            refine lv_iconst (v := 1) hx hb dL_acts_655 (by decide) ?_
            refine lv_goto (tgt := 660) hx hb dL_acts_656 (by decide) ?_
            have h := Option.some.inj h
            refine W.widen (k := 2) (n := 10) (Nat.zero_le _) (Nat.zero_le _) ?_
            exact mw_zretS X hr hlocks hP hS (by decide) (congrArg Prod.fst h) (congrArg Prod.snd h) dL_acts_660
        · have h := br_1 h c127
          refine lv_aload_n hx hb dL_acts_609 rfl (lv_at hl 0 rfl) ?_
          refine lv_iload hx hb dL_acts_610 (lv_at hl 9 rfl) ?_
          obtain ⟨v135, M136, hv135, h⟩ := bP_e h
          refine mw_callVi X (c_X7_takeBack l E hA hv135) pk_X7_takeBack pv_X7_takeBack wm_426 ⟨Nat.le_of_ble_eq_true rfl, Nat.le_of_ble_eq_true rfl⟩ ⟨rfl, rfl⟩ hP hS ix_27 rfl rfl rfl rfl hl.1 (Nat.le_of_ble_eq_true rfl) ⟨Nat.le_of_ble_eq_true rfl, Nat.le_of_ble_eq_true rfl⟩ rfl dL_acts_612 (fun H locs hP hS => ?_)
          refine lv_iload hx hb dL_acts_615 (lv_at hl 8 rfl) ?_
          refine lv_icmp_ne (tgt := 624) hx hb dL_acts_617 (by decide) (fun c137 => ?_) (fun c137 => ?_)
          · have h := br_0 h c137
            refine lv_iconst (v := 0) hx hb dL_acts_624 (by decide) ?_
            have h := Option.some.inj h
            refine W.widen (k := 2) (n := 10) (Nat.zero_le _) (Nat.zero_le _) ?_
            exact mw_zretS X hr hlocks hP hS (by decide) (congrArg Prod.fst h) (congrArg Prod.snd h) dL_acts_625
          · have h := br_1 h c137
            refine lv_iconst (v := 1) hx hb dL_acts_620 (by decide) ?_
            refine lv_goto (tgt := 625) hx hb dL_acts_621 (by decide) ?_
            have h := Option.some.inj h
            refine W.widen (k := 2) (n := 10) (Nat.zero_le _) (Nat.zero_le _) ?_
            exact mw_zretS X hr hlocks hP hS (by decide) (congrArg Prod.fst h) (congrArg Prod.snd h) dL_acts_625
  have w_L511 : ∀ (n511 : Nat) (M : Mem) (y10 y11 y13 y14 : Int32) (H : Heap) (locs : List Loc) (ls : Array Slot), itr (f_L_acts_L511 ) (fun _ _ _ _ _ => none) n511 M y10 y11 y13 y14 = some (r0, M0) → va_P E.1 vwCl (wl E M) H → va_S (AS E s.heap.size) s.heap H locs → lv_has ls 17 [(0, .ref (E.2.2 10 27)), (1, .ref (E.2.2 11 28)), (2, .ref (E.2.2 11 29)), (4, .ref (E.2.2 11 31)), (10, .int y10), (11, .int y11), (13, .int y13), (14, .int y14)] → W p l e (headSpec (Wm yL_acts cL_acts 17 (some .boolean)) ({ frames := 6, cells := 2, slots := 10, locals := 140 } : Room)).room s m ([Value.ref (E.2.2 10 27), Value.ref (E.2.2 11 28), Value.ref (E.2.2 11 29), Value.ref (E.2.2 11 30), Value.ref (E.2.2 11 31), Value.ref (E.2.2 11 32), Value.int a1] : List Value).toArray below meth c H locs 0 0 (MQ below (QIs E s.heap.size r0 M0) ([Value.ref (E.2.2 10 27), Value.ref (E.2.2 11 28), Value.ref (E.2.2 11 29), Value.ref (E.2.2 11 30), Value.ref (E.2.2 11 31), Value.ref (E.2.2 11 32), Value.int a1] : List Value).toArray s 2 10 (AS E s.heap.size)) (F0 m 511 ls []) := by
    intro n511
    induction n511 with
    | zero => intro M y10 y11 y13 y14 H locs ls h; exact (nomatch (show (none : Option (Int32 × Mem)) = some _ from h))
    | succ n511 ih511 =>
      intro M y10 y11 y13 y14 H locs ls h hP hS hl
      have h : f_L_acts_L511 (itr (f_L_acts_L511 ) (fun _ _ _ _ _ => none) n511) M y10 y11 y13 y14 = some (r0, M0) := h
      unfold f_L_acts_L511 at h
      refine lv_iload hx hb dL_acts_511 (lv_at hl 7 rfl) ?_
      refine lv_bipush (v := 8) hx hb dL_acts_513 (by decide) ?_
      refine lv_icmp_ge (tgt := 540) hx hb dL_acts_515 (by decide) (fun c141 => ?_) (fun c141 => ?_)
      · have h := br_1 h c141
        refine lv_aload_n hx hb dL_acts_540 rfl (lv_at hl 1 rfl) ?_
        refine lv_aload hx hb dL_acts_541 (lv_at hl 3 rfl) ?_
        refine lv_aload_n hx hb dL_acts_543 rfl (lv_at hl 1 rfl) ?_
        refine lv_iconst (v := 2) hx hb dL_acts_544 (by decide) ?_
        refine lv_iload hx hb dL_acts_545 (lv_at hl 4 rfl) ?_
        refine lv_iconst (v := 0) hx hb dL_acts_547 (by decide) ?_
        refine lv_iconst (v := 0) hx hb dL_acts_548 (by decide) ?_
        refine lv_iconst (v := 0) hx hb dL_acts_549 (by decide) ?_
        refine lv_iconst (v := 0) hx hb dL_acts_550 (by decide) ?_
        obtain ⟨v142, M143, hv142, h⟩ := bP_e h
        refine mw_callSi X (c_L_add l E hA hv142) pk_L_add wm_525 wm_524 ⟨Nat.le_of_ble_eq_true rfl, Nat.le_of_ble_eq_true rfl⟩ ⟨rfl, rfl⟩ hP hS rfl hl.1 (Nat.le_of_ble_eq_true rfl) ⟨Nat.le_of_ble_eq_true rfl, Nat.le_of_ble_eq_true rfl⟩ rfl dL_acts_551 (fun H locs hP hS => ?_)
        obtain ⟨v144, M145, hv144, h⟩ := bP_e h
        refine mw_callSi X (c_L_force l E hA hv144) pk_L_force wm_528 wm_527 ⟨Nat.le_of_ble_eq_true rfl, Nat.le_of_ble_eq_true rfl⟩ ⟨rfl, rfl⟩ hP hS rfl hl.1 (Nat.le_of_ble_eq_true rfl) ⟨Nat.le_of_ble_eq_true rfl, Nat.le_of_ble_eq_true rfl⟩ rfl dL_acts_554 (fun H locs hP hS => ?_)
        refine lv_pop hx hb dL_acts_557 rfl ?_
        refine lv_aload_n hx hb dL_acts_558 rfl (lv_at hl 2 rfl) ?_
        refine lv_iload hx hb dL_acts_559 (lv_at hl 5 rfl) ?_
        refine lv_iconst (v := 0) hx hb dL_acts_561 (by decide) ?_
        obtain ⟨g147, h⟩ := gd_e h
        refine mw_st X hP hS ix_29 (fun _ => rfl) (inb_vp g147) rfl dL_acts_562 (fun H locs M146 eM146 hP hS => ?_)
        have h := bd_e h eM146
        refine lv_aload_n hx hb dL_acts_563 rfl (lv_at hl 0 rfl) ?_
        refine lv_iload hx hb dL_acts_564 (lv_at hl 4 rfl) ?_
        obtain ⟨v148, M149, hv148, h⟩ := bP_e h
        refine mw_callVi X (c_X7_settle l E hA hv148) pk_X7_settle pv_X7_settle wm_405 ⟨Nat.le_of_ble_eq_true rfl, Nat.le_of_ble_eq_true rfl⟩ ⟨rfl, rfl⟩ hP hS ix_27 rfl rfl rfl rfl hl.1 (Nat.le_of_ble_eq_true rfl) ⟨Nat.le_of_ble_eq_true rfl, Nat.le_of_ble_eq_true rfl⟩ rfl dL_acts_566 (fun H locs hP hS => ?_)
        refine lv_iload hx hb dL_acts_569 (lv_at hl 6 rfl) ?_
        refine lv_icmp_ne (tgt := 578) hx hb dL_acts_571 (by decide) (fun c150 => ?_) (fun c150 => ?_)
        · have h := br_0 h c150
          refine lv_iconst (v := 0) hx hb dL_acts_578 (by decide) ?_
          have h := Option.some.inj h
          refine W.widen (k := 2) (n := 10) (Nat.zero_le _) (Nat.zero_le _) ?_
          exact mw_zretS X hr hlocks hP hS (by decide) (congrArg Prod.fst h) (congrArg Prod.snd h) dL_acts_579
        · have h := br_1 h c150
          refine lv_iconst (v := 1) hx hb dL_acts_574 (by decide) ?_
          refine lv_goto (tgt := 579) hx hb dL_acts_575 (by decide) ?_
          have h := Option.some.inj h
          refine W.widen (k := 2) (n := 10) (Nat.zero_le _) (Nat.zero_le _) ?_
          exact mw_zretS X hr hlocks hP hS (by decide) (congrArg Prod.fst h) (congrArg Prod.snd h) dL_acts_579
      · have h := br_0 h c141
        refine lv_iload hx hb dL_acts_518 (lv_at hl 6 rfl) ?_
        refine lv_aload_n hx hb dL_acts_520 rfl (lv_at hl 2 rfl) ?_
        refine lv_iload hx hb dL_acts_521 (lv_at hl 5 rfl) ?_
        refine lv_iconst (v := 3) hx hb dL_acts_523 (by decide) ?_
        refine lv_iadd hx hb dL_acts_524 ?_
        obtain ⟨g151, h⟩ := gd_e h
        refine mw_ld X hP ix_29 rfl (inb_vp g151) rfl dL_acts_525 ?_
        refine lv_iload hx hb dL_acts_526 (lv_at hl 7 rfl) ?_
        refine lv_ishr hx hb dL_acts_528 ?_
        refine lv_iconst (v := 1) hx hb dL_acts_529 (by decide) ?_
        refine lv_iand hx hb dL_acts_530 ?_
        refine lv_iadd hx hb dL_acts_531 ?_
        refine lv_topi (fun x152 ex152 => ?_)
        have h := bd_e h ex152
        refine lv_istore (lv' := [(13, .int x152), (0, .ref (E.2.2 10 27)), (1, .ref (E.2.2 11 28)), (2, .ref (E.2.2 11 29)), (4, .ref (E.2.2 11 31)), (10, .int y10), (11, .int y11), (14, .int y14)]) hx hb dL_acts_532 hl (by decide) rfl (fun ls hl => ?_)
        obtain ⟨x153, ex153⟩ : ∃ y : Int32, y = y14 + (1 : Int32) := ⟨_, rfl⟩
        have h := bd_e h ex153
        refine lv_iinc (v := x153) (lv' := [(14, .int x153), (13, .int x152), (0, .ref (E.2.2 10 27)), (1, .ref (E.2.2 11 28)), (2, .ref (E.2.2 11 29)), (4, .ref (E.2.2 11 31)), (10, .int y10), (11, .int y11)]) hx hb dL_acts_534 hl (k := 7) rfl (by rw [ex153]; rfl) (by decide) rfl (fun ls hl => ?_)
        refine lv_goto (tgt := 511) hx hb dL_acts_537 (by decide) ?_
        exact ih511 _ _ _ _ _ _ _ _ h hP hS (lv_sub hl [2, 3, 4, 5, 6, 7, 1, 0] rfl)
  have w_L469 : ∀ (M : Mem) (y7 y8 y9 y10 y11 y12 : Int32) (H : Heap) (locs : List Loc) (ls : Array Slot), f_L_acts_L469  M y7 y8 y9 y10 y11 y12 = some (r0, M0) → va_P E.1 vwCl (wl E M) H → va_S (AS E s.heap.size) s.heap H locs → lv_has ls 17 [(0, .ref (E.2.2 10 27)), (1, .ref (E.2.2 11 28)), (2, .ref (E.2.2 11 29)), (3, .ref (E.2.2 11 30)), (4, .ref (E.2.2 11 31)), (5, .ref (E.2.2 11 32)), (7, .int y7), (8, .int y8), (9, .int y9), (10, .int y10), (11, .int y11), (12, .int y12)] → W p l e (headSpec (Wm yL_acts cL_acts 17 (some .boolean)) ({ frames := 6, cells := 2, slots := 10, locals := 140 } : Room)).room s m ([Value.ref (E.2.2 10 27), Value.ref (E.2.2 11 28), Value.ref (E.2.2 11 29), Value.ref (E.2.2 11 30), Value.ref (E.2.2 11 31), Value.ref (E.2.2 11 32), Value.int a1] : List Value).toArray below meth c H locs 0 0 (MQ below (QIs E s.heap.size r0 M0) ([Value.ref (E.2.2 10 27), Value.ref (E.2.2 11 28), Value.ref (E.2.2 11 29), Value.ref (E.2.2 11 30), Value.ref (E.2.2 11 31), Value.ref (E.2.2 11 32), Value.int a1] : List Value).toArray s 2 10 (AS E s.heap.size)) (F0 m 469 ls []) := by
    intro M y7 y8 y9 y10 y11 y12 H locs ls h hP hS hl
    unfold f_L_acts_L469 at h
    refine lv_iload hx hb dL_acts_469 (lv_at hl 7 rfl) ?_
    refine lv_bipush (v := 18) hx hb dL_acts_471 (by decide) ?_
    refine lv_icmp_ge (tgt := 580) hx hb dL_acts_473 (by decide) (fun c10 => ?_) (fun c10 => ?_)
    · have h := br_1 h c10
      exact w_L580 _ _ _ _ _ _ _ _ _ _ h hP hS (lv_sub hl [0, 1, 2, 3, 4, 5, 6, 7, 8, 9, 10, 11] rfl)
    · have h := br_0 h c10
      refine lv_iload hx hb dL_acts_476 (lv_at hl 11 rfl) ?_
      refine lv_if_ne (tgt := 580) hx hb dL_acts_478 (by decide) (fun c138 => ?_) (fun c138 => ?_)
      · have h := br_0 h c138
        exact w_L580 _ _ _ _ _ _ _ _ _ _ h hP hS (lv_sub hl [0, 1, 2, 3, 4, 5, 6, 7, 8, 9, 10, 11] rfl)
      · have h := br_1 h c138
        refine lv_aload_n hx hb dL_acts_481 rfl (lv_at hl 2 rfl) ?_
        refine lv_iload hx hb dL_acts_482 (lv_at hl 10 rfl) ?_
        obtain ⟨g139, h⟩ := gd_e h
        refine mw_ld X hP ix_29 rfl (inb_vp g139) rfl dL_acts_484 ?_
        refine lv_if_ne (tgt := 505) hx hb dL_acts_485 (by decide) (fun c140 => ?_) (fun c140 => ?_)
        · have h := br_0 h c140
          refine lv_iconst (v := 0) hx hb dL_acts_505 (by decide) ?_
          refine lv_istore (lv' := [(13, .int (0 : Int32)), (0, .ref (E.2.2 10 27)), (1, .ref (E.2.2 11 28)), (2, .ref (E.2.2 11 29)), (3, .ref (E.2.2 11 30)), (4, .ref (E.2.2 11 31)), (5, .ref (E.2.2 11 32)), (7, .int y7), (8, .int y8), (9, .int y9), (10, .int y10), (11, .int y11), (12, .int y12)]) hx hb dL_acts_506 hl (by decide) rfl (fun ls hl => ?_)
          refine lv_iconst (v := 0) hx hb dL_acts_508 (by decide) ?_
          refine lv_istore (lv' := [(14, .int (0 : Int32)), (13, .int (0 : Int32)), (0, .ref (E.2.2 10 27)), (1, .ref (E.2.2 11 28)), (2, .ref (E.2.2 11 29)), (3, .ref (E.2.2 11 30)), (4, .ref (E.2.2 11 31)), (5, .ref (E.2.2 11 32)), (7, .int y7), (8, .int y8), (9, .int y9), (10, .int y10), (11, .int y11), (12, .int y12)]) hx hb dL_acts_509 hl (by decide) rfl (fun ls hl => ?_)
          exact w_L511 FU _ _ _ _ _ _ _ _ h hP hS (lv_sub hl [2, 3, 4, 6, 11, 12, 1, 0] rfl)
        · have h := br_1 h c140
          refine lv_aload_n hx hb dL_acts_488 rfl (lv_at hl 0 rfl) ?_
          refine lv_iload hx hb dL_acts_489 (lv_at hl 9 rfl) ?_
          obtain ⟨v154, M155, hv154, h⟩ := bP_e h
          refine mw_callVi X (c_X7_settle l E hA hv154) pk_X7_settle pv_X7_settle wm_405 ⟨Nat.le_of_ble_eq_true rfl, Nat.le_of_ble_eq_true rfl⟩ ⟨rfl, rfl⟩ hP hS ix_27 rfl rfl rfl rfl hl.1 (Nat.le_of_ble_eq_true rfl) ⟨Nat.le_of_ble_eq_true rfl, Nat.le_of_ble_eq_true rfl⟩ rfl dL_acts_491 (fun H locs hP hS => ?_)
          refine lv_iload hx hb dL_acts_494 (lv_at hl 8 rfl) ?_
          refine lv_icmp_ne (tgt := 503) hx hb dL_acts_496 (by decide) (fun c156 => ?_) (fun c156 => ?_)
          · have h := br_0 h c156
            refine lv_iconst (v := 0) hx hb dL_acts_503 (by decide) ?_
            have h := Option.some.inj h
            refine W.widen (k := 2) (n := 10) (Nat.zero_le _) (Nat.zero_le _) ?_
            exact mw_zretS X hr hlocks hP hS (by decide) (congrArg Prod.fst h) (congrArg Prod.snd h) dL_acts_504
          · have h := br_1 h c156
            refine lv_iconst (v := 1) hx hb dL_acts_499 (by decide) ?_
            refine lv_goto (tgt := 504) hx hb dL_acts_500 (by decide) ?_
            have h := Option.some.inj h
            refine W.widen (k := 2) (n := 10) (Nat.zero_le _) (Nat.zero_le _) ?_
            exact mw_zretS X hr hlocks hP hS (by decide) (congrArg Prod.fst h) (congrArg Prod.snd h) dL_acts_504
  have w_L372 : ∀ (M : Mem) (y9 y10 y13 y14 : Int32) (H : Heap) (locs : List Loc) (ls : Array Slot), f_L_acts_L372  M y9 y10 y13 y14 = some (r0, M0) → va_P E.1 vwCl (wl E M) H → va_S (AS E s.heap.size) s.heap H locs → lv_has ls 17 [(0, .ref (E.2.2 10 27)), (9, .int y9), (10, .int y10), (13, .int y13), (14, .int y14)] → W p l e (headSpec (Wm yL_acts cL_acts 17 (some .boolean)) ({ frames := 6, cells := 2, slots := 10, locals := 140 } : Room)).room s m ([Value.ref (E.2.2 10 27), Value.ref (E.2.2 11 28), Value.ref (E.2.2 11 29), Value.ref (E.2.2 11 30), Value.ref (E.2.2 11 31), Value.ref (E.2.2 11 32), Value.int a1] : List Value).toArray below meth c H locs 0 0 (MQ below (QIs E s.heap.size r0 M0) ([Value.ref (E.2.2 10 27), Value.ref (E.2.2 11 28), Value.ref (E.2.2 11 29), Value.ref (E.2.2 11 30), Value.ref (E.2.2 11 31), Value.ref (E.2.2 11 32), Value.int a1] : List Value).toArray s 2 10 (AS E s.heap.size)) (F0 m 372 ls []) := by
    intro M y9 y10 y13 y14 H locs ls h hP hS hl
    unfold f_L_acts_L372 at h
    refine lv_aload_n hx hb dL_acts_372 rfl (lv_at hl 0 rfl) ?_
    refine lv_iload hx hb dL_acts_373 (lv_at hl 2 rfl) ?_
    refine lv_iload hx hb dL_acts_375 (lv_at hl 3 rfl) ?_
    refine lv_iload hx hb dL_acts_377 (lv_at hl 4 rfl) ?_
    obtain ⟨v167, M168, hv167, h⟩ := bP_e h
    refine mw_callVi X (c_X7_write l E hA hv167) pk_X7_write pv_X7_write wm_392 ⟨Nat.le_of_ble_eq_true rfl, Nat.le_of_ble_eq_true rfl⟩ ⟨rfl, rfl⟩ hP hS ix_27 rfl rfl rfl rfl hl.1 (Nat.le_of_ble_eq_true rfl) ⟨Nat.le_of_ble_eq_true rfl, Nat.le_of_ble_eq_true rfl⟩ rfl dL_acts_379 (fun H locs hP hS => ?_)
    refine lv_iload hx hb dL_acts_382 (lv_at hl 1 rfl) ?_
    refine lv_icmp_ne (tgt := 391) hx hb dL_acts_384 (by decide) (fun c169 => ?_) (fun c169 => ?_)
    · have h := br_0 h c169
      refine lv_iconst (v := 0) hx hb dL_acts_391 (by decide) ?_
      have h := Option.some.inj h
      refine W.widen (k := 2) (n := 10) (Nat.zero_le _) (Nat.zero_le _) ?_
      exact mw_zretS X hr hlocks hP hS (by decide) (congrArg Prod.fst h) (congrArg Prod.snd h) dL_acts_392
    · have h := br_1 h c169
      refine lv_iconst (v := 1) hx hb dL_acts_387 (by decide) ?_
      refine lv_goto (tgt := 392) hx hb dL_acts_388 (by decide) ?_
      have h := Option.some.inj h
      refine W.widen (k := 2) (n := 10) (Nat.zero_le _) (Nat.zero_le _) ?_
      exact mw_zretS X hr hlocks hP hS (by decide) (congrArg Prod.fst h) (congrArg Prod.snd h) dL_acts_392
  have w_L393 : ∀ (M : Mem) (y10 y11 y13 y14 : Int32) (H : Heap) (locs : List Loc) (ls : Array Slot), f_L_acts_L393  M y10 y11 y13 y14 = some (r0, M0) → va_P E.1 vwCl (wl E M) H → va_S (AS E s.heap.size) s.heap H locs → lv_has ls 17 [(0, .ref (E.2.2 10 27)), (1, .ref (E.2.2 11 28)), (2, .ref (E.2.2 11 29)), (3, .ref (E.2.2 11 30)), (4, .ref (E.2.2 11 31)), (10, .int y10), (11, .int y11), (13, .int y13), (14, .int y14)] → W p l e (headSpec (Wm yL_acts cL_acts 17 (some .boolean)) ({ frames := 6, cells := 2, slots := 10, locals := 140 } : Room)).room s m ([Value.ref (E.2.2 10 27), Value.ref (E.2.2 11 28), Value.ref (E.2.2 11 29), Value.ref (E.2.2 11 30), Value.ref (E.2.2 11 31), Value.ref (E.2.2 11 32), Value.int a1] : List Value).toArray below meth c H locs 0 0 (MQ below (QIs E s.heap.size r0 M0) ([Value.ref (E.2.2 10 27), Value.ref (E.2.2 11 28), Value.ref (E.2.2 11 29), Value.ref (E.2.2 11 30), Value.ref (E.2.2 11 31), Value.ref (E.2.2 11 32), Value.int a1] : List Value).toArray s 2 10 (AS E s.heap.size)) (F0 m 393 ls []) := by
    intro M y10 y11 y13 y14 H locs ls h hP hS hl
    unfold f_L_acts_L393 at h
    refine lv_aload_n hx hb dL_acts_393 rfl (lv_at hl 3 rfl) ?_
    refine lv_iload hx hb dL_acts_394 (lv_at hl 7 rfl) ?_
    obtain ⟨v171, hv171, h⟩ := bO_e h
    refine mw_callSi X (c_L_value l E hA hv171) pk_L_value wm_143 wm_142 ⟨Nat.le_of_ble_eq_true rfl, Nat.le_of_ble_eq_true rfl⟩ ⟨rfl, rfl⟩ hP hS rfl hl.1 (Nat.le_of_ble_eq_true rfl) ⟨Nat.le_of_ble_eq_true rfl, Nat.le_of_ble_eq_true rfl⟩ rfl dL_acts_396 (fun H locs hP hS => ?_)
    refine lv_istore (lv' := [(16, .int v171), (0, .ref (E.2.2 10 27)), (1, .ref (E.2.2 11 28)), (2, .ref (E.2.2 11 29)), (3, .ref (E.2.2 11 30)), (4, .ref (E.2.2 11 31)), (10, .int y10), (11, .int y11), (13, .int y13), (14, .int y14)]) hx hb dL_acts_399 hl (by decide) rfl (fun ls hl => ?_)
    refine lv_aload_n hx hb dL_acts_401 rfl (lv_at hl 4 rfl) ?_
    refine lv_iload hx hb dL_acts_402 (lv_at hl 8 rfl) ?_
    refine lv_iload hx hb dL_acts_404 (lv_at hl 9 rfl) ?_
    refine lv_aload hx hb dL_acts_406 (lv_at hl 5 rfl) ?_
    refine lv_aload_n hx hb dL_acts_408 rfl (lv_at hl 2 rfl) ?_
    refine lv_iconst (v := 1) hx hb dL_acts_409 (by decide) ?_
    refine lv_iload hx hb dL_acts_410 (lv_at hl 6 rfl) ?_
    refine lv_iload hx hb dL_acts_412 (lv_at hl 8 rfl) ?_
    refine lv_iload hx hb dL_acts_414 (lv_at hl 0 rfl) ?_
    refine lv_iload hx hb dL_acts_416 (lv_at hl 9 rfl) ?_
    refine lv_iconst (v := 0) hx hb dL_acts_418 (by decide) ?_
    obtain ⟨v172, M173, hv172, h⟩ := bP_e h
    refine mw_callSi X (c_L_add l E hA hv172) pk_L_add wm_525 wm_524 ⟨Nat.le_of_ble_eq_true rfl, Nat.le_of_ble_eq_true rfl⟩ ⟨rfl, rfl⟩ hP hS rfl hl.1 (Nat.le_of_ble_eq_true rfl) ⟨Nat.le_of_ble_eq_true rfl, Nat.le_of_ble_eq_true rfl⟩ rfl dL_acts_419 (fun H locs hP hS => ?_)
    obtain ⟨M175, hv174, h⟩ := bO_e h
    refine mw_callSv X (c_L_come l E hA hv174) pk_L_come wm_519 wm_518 ⟨Nat.le_of_ble_eq_true rfl, Nat.le_of_ble_eq_true rfl⟩ ⟨rfl, rfl⟩ hP hS rfl hl.1 (Nat.le_of_ble_eq_true rfl) ⟨Nat.le_of_ble_eq_true rfl, Nat.le_of_ble_eq_true rfl⟩ rfl dL_acts_422 (fun H locs hP hS => ?_)
    refine lv_aload_n hx hb dL_acts_425 rfl (lv_at hl 3 rfl) ?_
    refine lv_iload hx hb dL_acts_426 (lv_at hl 7 rfl) ?_
    refine lv_iconst (v := 2) hx hb dL_acts_428 (by decide) ?_
    refine lv_iadd hx hb dL_acts_429 ?_
    refine lv_dup2_11 hx hb dL_acts_430 rfl rfl ?_
    obtain ⟨g176, h⟩ := gd_e h
    refine mw_ld X hP ix_29 rfl (inb_vp g176) rfl dL_acts_431 ?_
    refine lv_iconst (v := 1) hx hb dL_acts_432 (by decide) ?_
    refine lv_iadd hx hb dL_acts_433 ?_
    obtain ⟨g178, h⟩ := gd_e h
    refine mw_st X hP hS ix_29 (fun _ => rfl) (inb_vp g178) rfl dL_acts_434 (fun H locs M177 eM177 hP hS => ?_)
    have h := bd_e h eM177
    refine lv_aload_n hx hb dL_acts_435 rfl (lv_at hl 3 rfl) ?_
    refine lv_iload hx hb dL_acts_436 (lv_at hl 7 rfl) ?_
    refine lv_iconst (v := 3) hx hb dL_acts_438 (by decide) ?_
    refine lv_iadd hx hb dL_acts_439 ?_
    refine lv_dup2_11 hx hb dL_acts_440 rfl rfl ?_
    obtain ⟨g179, h⟩ := gd_e h
    refine mw_ld X hP ix_29 rfl (inb_vp g179) rfl dL_acts_441 ?_
    refine lv_iconst (v := 1) hx hb dL_acts_442 (by decide) ?_
    refine lv_iload hx hb dL_acts_443 (lv_at hl 8 rfl) ?_
    refine lv_ishl hx hb dL_acts_445 ?_
    refine lv_ior hx hb dL_acts_446 ?_
    obtain ⟨g181, h⟩ := gd_e h
    refine mw_st X hP hS ix_29 (fun _ => rfl) (inb_vp g181) rfl dL_acts_447 (fun H locs M180 eM180 hP hS => ?_)
    have h := bd_e h eM180
    refine lv_aload_n hx hb dL_acts_448 rfl (lv_at hl 1 rfl) ?_
    refine lv_iload hx hb dL_acts_449 (lv_at hl 6 rfl) ?_
    refine lv_iload hx hb dL_acts_451 (lv_at hl 8 rfl) ?_
    refine lv_iload hx hb dL_acts_453 (lv_at hl 9 rfl) ?_
    obtain ⟨v182, M183, hv182, h⟩ := bP_e h
    refine mw_callVi X (c_X7_write l E hA hv182) pk_X7_write pv_X7_write wm_392 ⟨Nat.le_of_ble_eq_true rfl, Nat.le_of_ble_eq_true rfl⟩ ⟨rfl, rfl⟩ hP hS ix_27 rfl rfl rfl rfl hl.1 (Nat.le_of_ble_eq_true rfl) ⟨Nat.le_of_ble_eq_true rfl, Nat.le_of_ble_eq_true rfl⟩ rfl dL_acts_455 (fun H locs hP hS => ?_)
    refine lv_iload hx hb dL_acts_458 (lv_at hl 0 rfl) ?_
    refine lv_icmp_ne (tgt := 467) hx hb dL_acts_460 (by decide) (fun c184 => ?_) (fun c184 => ?_)
    · have h := br_0 h c184
      refine lv_iconst (v := 0) hx hb dL_acts_467 (by decide) ?_
      have h := Option.some.inj h
      refine W.widen (k := 2) (n := 10) (Nat.zero_le _) (Nat.zero_le _) ?_
      exact mw_zretS X hr hlocks hP hS (by decide) (congrArg Prod.fst h) (congrArg Prod.snd h) dL_acts_468
    · have h := br_1 h c184
      refine lv_iconst (v := 1) hx hb dL_acts_463 (by decide) ?_
      refine lv_goto (tgt := 468) hx hb dL_acts_464 (by decide) ?_
      have h := Option.some.inj h
      refine W.widen (k := 2) (n := 10) (Nat.zero_le _) (Nat.zero_le _) ?_
      exact mw_zretS X hr hlocks hP hS (by decide) (congrArg Prod.fst h) (congrArg Prod.snd h) dL_acts_468
  have w_L314 : ∀ (M : Mem) (y7 y8 y9 y10 y11 y12 : Int32) (H : Heap) (locs : List Loc) (ls : Array Slot), f_L_acts_L314  M y7 y8 y9 y10 y11 y12 = some (r0, M0) → va_P E.1 vwCl (wl E M) H → va_S (AS E s.heap.size) s.heap H locs → lv_has ls 17 [(0, .ref (E.2.2 10 27)), (1, .ref (E.2.2 11 28)), (2, .ref (E.2.2 11 29)), (3, .ref (E.2.2 11 30)), (4, .ref (E.2.2 11 31)), (5, .ref (E.2.2 11 32)), (7, .int y7), (8, .int y8), (9, .int y9), (10, .int y10), (11, .int y11), (12, .int y12)] → W p l e (headSpec (Wm yL_acts cL_acts 17 (some .boolean)) ({ frames := 6, cells := 2, slots := 10, locals := 140 } : Room)).room s m ([Value.ref (E.2.2 10 27), Value.ref (E.2.2 11 28), Value.ref (E.2.2 11 29), Value.ref (E.2.2 11 30), Value.ref (E.2.2 11 31), Value.ref (E.2.2 11 32), Value.int a1] : List Value).toArray below meth c H locs 0 0 (MQ below (QIs E s.heap.size r0 M0) ([Value.ref (E.2.2 10 27), Value.ref (E.2.2 11 28), Value.ref (E.2.2 11 29), Value.ref (E.2.2 11 30), Value.ref (E.2.2 11 31), Value.ref (E.2.2 11 32), Value.int a1] : List Value).toArray s 2 10 (AS E s.heap.size)) (F0 m 314 ls []) := by
    intro M y7 y8 y9 y10 y11 y12 H locs ls h hP hS hl
    unfold f_L_acts_L314 at h
    refine lv_iload hx hb dL_acts_314 (lv_at hl 7 rfl) ?_
    refine lv_bipush (v := 15) hx hb dL_acts_316 (by decide) ?_
    refine lv_icmp_ge (tgt := 469) hx hb dL_acts_318 (by decide) (fun c9 => ?_) (fun c9 => ?_)
    · have h := br_1 h c9
      exact w_L469 _ _ _ _ _ _ _ _ _ _ h hP hS (lv_sub hl [0, 1, 2, 3, 4, 5, 6, 7, 8, 9, 10, 11] rfl)
    · have h := br_0 h c9
      refine lv_iload hx hb dL_acts_321 (lv_at hl 11 rfl) ?_
      refine lv_if_ne (tgt := 469) hx hb dL_acts_323 (by decide) (fun c157 => ?_) (fun c157 => ?_)
      · have h := br_0 h c157
        exact w_L469 _ _ _ _ _ _ _ _ _ _ h hP hS (lv_sub hl [0, 1, 2, 3, 4, 5, 6, 7, 8, 9, 10, 11] rfl)
      · have h := br_1 h c157
        refine lv_iload hx hb dL_acts_326 (lv_at hl 6 rfl) ?_
        refine lv_iconst (v := 4) hx hb dL_acts_328 (by decide) ?_
        obtain ⟨g158, h⟩ := gd_e h
        refine lv_idiv hx hb dL_acts_329 g158 ?_
        refine lv_bipush (v := 8) hx hb dL_acts_330 (by decide) ?_
        obtain ⟨g159, h⟩ := gd_e h
        refine lv_irem hx hb dL_acts_332 g159 ?_
        refine lv_topi (fun x160 ex160 => ?_)
        have h := bd_e h ex160
        refine lv_istore (lv' := [(13, .int x160), (0, .ref (E.2.2 10 27)), (1, .ref (E.2.2 11 28)), (2, .ref (E.2.2 11 29)), (3, .ref (E.2.2 11 30)), (4, .ref (E.2.2 11 31)), (5, .ref (E.2.2 11 32)), (7, .int y7), (8, .int y8), (9, .int y9), (10, .int y10), (11, .int y11), (12, .int y12)]) hx hb dL_acts_333 hl (by decide) rfl (fun ls hl => ?_)
        refine lv_iload hx hb dL_acts_335 (lv_at hl 7 rfl) ?_
        refine lv_bipush (v := 32) hx hb dL_acts_337 (by decide) ?_
        obtain ⟨g161, h⟩ := gd_e h
        refine lv_idiv hx hb dL_acts_339 g161 ?_
        refine lv_bipush (v := 100) hx hb dL_acts_340 (by decide) ?_
        obtain ⟨g162, h⟩ := gd_e h
        refine lv_irem hx hb dL_acts_342 g162 ?_
        refine lv_topi (fun x163 ex163 => ?_)
        have h := bd_e h ex163
        refine lv_istore (lv' := [(14, .int x163), (13, .int x160), (0, .ref (E.2.2 10 27)), (1, .ref (E.2.2 11 28)), (2, .ref (E.2.2 11 29)), (3, .ref (E.2.2 11 30)), (4, .ref (E.2.2 11 31)), (5, .ref (E.2.2 11 32)), (7, .int y7), (8, .int y8), (9, .int y9), (10, .int y10), (11, .int y11), (12, .int y12)]) hx hb dL_acts_343 hl (by decide) rfl (fun ls hl => ?_)
        refine lv_aload_n hx hb dL_acts_345 rfl (lv_at hl 4 rfl) ?_
        refine lv_iload hx hb dL_acts_346 (lv_at hl 1 rfl) ?_
        obtain ⟨v164, hv164, h⟩ := bO_e h
        refine mw_callSi X (c_L_holder l E hA hv164) pk_L_holder wm_99 wm_98 ⟨Nat.le_of_ble_eq_true rfl, Nat.le_of_ble_eq_true rfl⟩ ⟨rfl, rfl⟩ hP hS rfl hl.1 (Nat.le_of_ble_eq_true rfl) ⟨Nat.le_of_ble_eq_true rfl, Nat.le_of_ble_eq_true rfl⟩ rfl dL_acts_348 (fun H locs hP hS => ?_)
        refine lv_istore (lv' := [(15, .int v164), (14, .int x163), (13, .int x160), (0, .ref (E.2.2 10 27)), (1, .ref (E.2.2 11 28)), (2, .ref (E.2.2 11 29)), (3, .ref (E.2.2 11 30)), (4, .ref (E.2.2 11 31)), (5, .ref (E.2.2 11 32)), (7, .int y7), (8, .int y8), (9, .int y9), (10, .int y10), (11, .int y11), (12, .int y12)]) hx hb dL_acts_351 hl (by decide) rfl (fun ls hl => ?_)
        refine lv_aload_n hx hb dL_acts_353 rfl (lv_at hl 5 rfl) ?_
        refine lv_iload hx hb dL_acts_354 (lv_at hl 13 rfl) ?_
        obtain ⟨g165, h⟩ := gd_e h
        refine mw_ld X hP ix_29 rfl (inb_vp g165) rfl dL_acts_356 ?_
        refine lv_if_eq (tgt := 372) hx hb dL_acts_357 (by decide) (fun c166 => ?_) (fun c166 => ?_)
        · have h := br_1 h c166
          exact w_L372 _ _ _ _ _ _ _ _ h hP hS (lv_sub hl [3, 11, 12, 2, 1] rfl)
        · have h := br_0 h c166
          refine lv_iload hx hb dL_acts_360 (lv_at hl 0 rfl) ?_
          refine lv_if_lt (tgt := 393) hx hb dL_acts_362 (by decide) (fun c170 => ?_) (fun c170 => ?_)
          · have h := br_1 h c170
            exact w_L393 _ _ _ _ _ _ _ _ h hP hS (lv_sub hl [3, 4, 5, 6, 7, 12, 13, 2, 1] rfl)
          · have h := br_0 h c170
            refine lv_iload hx hb dL_acts_365 (lv_at hl 0 rfl) ?_
            refine lv_iload hx hb dL_acts_367 (lv_at hl 12 rfl) ?_
            refine lv_icmp_eq (tgt := 393) hx hb dL_acts_369 (by decide) (fun c185 => ?_) (fun c185 => ?_)
            · have h := br_1 h c185
              exact w_L393 _ _ _ _ _ _ _ _ h hP hS (lv_sub hl [3, 4, 5, 6, 7, 12, 13, 2, 1] rfl)
            · have h := br_0 h c185
              exact w_L372 _ _ _ _ _ _ _ _ h hP hS (lv_sub hl [3, 11, 12, 2, 1] rfl)
  have w_L49 : ∀ (M : Mem) (y7 y8 y9 y10 y11 z0 : Int32) (H : Heap) (locs : List Loc) (ls : Array Slot), f_L_acts_L49  M y7 y8 y9 y10 y11 z0 = some (r0, M0) → va_P E.1 vwCl (wl E M) H → va_S (AS E s.heap.size) s.heap H locs → lv_has ls 17 [(0, .ref (E.2.2 10 27)), (1, .ref (E.2.2 11 28)), (2, .ref (E.2.2 11 29)), (3, .ref (E.2.2 11 30)), (4, .ref (E.2.2 11 31)), (5, .ref (E.2.2 11 32)), (7, .int y7), (8, .int y8), (9, .int y9), (10, .int y10), (11, .int y11)] → W p l e (headSpec (Wm yL_acts cL_acts 17 (some .boolean)) ({ frames := 6, cells := 2, slots := 10, locals := 140 } : Room)).room s m ([Value.ref (E.2.2 10 27), Value.ref (E.2.2 11 28), Value.ref (E.2.2 11 29), Value.ref (E.2.2 11 30), Value.ref (E.2.2 11 31), Value.ref (E.2.2 11 32), Value.int a1] : List Value).toArray below meth c H locs 0 0 (MQ below (QIs E s.heap.size r0 M0) ([Value.ref (E.2.2 10 27), Value.ref (E.2.2 11 28), Value.ref (E.2.2 11 29), Value.ref (E.2.2 11 30), Value.ref (E.2.2 11 31), Value.ref (E.2.2 11 32), Value.int a1] : List Value).toArray s 2 10 (AS E s.heap.size)) (F0 m 49 ls [.int z0]) := by
    intro M y7 y8 y9 y10 y11 z0 H locs ls h hP hS hl
    unfold f_L_acts_L49 at h
    refine lv_istore (lv' := [(12, .int z0), (0, .ref (E.2.2 10 27)), (1, .ref (E.2.2 11 28)), (2, .ref (E.2.2 11 29)), (3, .ref (E.2.2 11 30)), (4, .ref (E.2.2 11 31)), (5, .ref (E.2.2 11 32)), (7, .int y7), (8, .int y8), (9, .int y9), (10, .int y10), (11, .int y11)]) hx hb dL_acts_49 hl (by decide) rfl (fun ls hl => ?_)
    refine lv_aload_n hx hb dL_acts_51 rfl (lv_at hl 2 rfl) ?_
    refine lv_iconst (v := 3) hx hb dL_acts_52 (by decide) ?_
    refine mw_ld X hP ix_28 rfl (v := (M 11 28 3)) (inb_vp (by decide)) rfl dL_acts_53 ?_
    refine lv_iconst (v := 1) hx hb dL_acts_54 (by decide) ?_
    refine lv_icmp_ne (tgt := 218) hx hb dL_acts_55 (by decide) (fun c7 => ?_) (fun c7 => ?_)
    · have h := br_0 h c7
      refine lv_iload hx hb dL_acts_218 (lv_at hl 8 rfl) ?_
      refine lv_bipush (v := 6) hx hb dL_acts_220 (by decide) ?_
      refine lv_icmp_ge (tgt := 314) hx hb dL_acts_222 (by decide) (fun c8 => ?_) (fun c8 => ?_)
      · have h := br_1 h c8
        exact w_L314 _ _ _ _ _ _ _ _ _ _ h hP hS (lv_sub hl [1, 2, 3, 4, 5, 6, 7, 8, 9, 10, 11, 0] rfl)
      · have h := br_0 h c8
        refine lv_iload hx hb dL_acts_225 (lv_at hl 0 rfl) ?_
        refine lv_if_ne (tgt := 314) hx hb dL_acts_227 (by decide) (fun c186 => ?_) (fun c186 => ?_)
        · have h := br_0 h c186
          exact w_L314 _ _ _ _ _ _ _ _ _ _ h hP hS (lv_sub hl [1, 2, 3, 4, 5, 6, 7, 8, 9, 10, 11, 0] rfl)
        · have h := br_1 h c186
          refine lv_aload_n hx hb dL_acts_230 rfl (lv_at hl 3 rfl) ?_
          refine lv_iload hx hb dL_acts_231 (lv_at hl 11 rfl) ?_
          obtain ⟨g187, h⟩ := gd_e h
          refine mw_ld X hP ix_29 rfl (inb_vp g187) rfl dL_acts_233 ?_
          refine lv_iconst (v := 1) hx hb dL_acts_234 (by decide) ?_
          refine lv_icmp_ne (tgt := 255) hx hb dL_acts_235 (by decide) (fun c188 => ?_) (fun c188 => ?_)
          · have h := br_0 h c188
            refine lv_aload_n hx hb dL_acts_255 rfl (lv_at hl 3 rfl) ?_
            refine lv_iload hx hb dL_acts_256 (lv_at hl 11 rfl) ?_
            refine lv_iconst (v := 1) hx hb dL_acts_258 (by decide) ?_
            obtain ⟨g190, h⟩ := gd_e h
            refine mw_st X hP hS ix_29 (fun _ => rfl) (inb_vp g190) rfl dL_acts_259 (fun H locs M189 eM189 hP hS => ?_)
            have h := bd_e h eM189
            refine lv_aload_n hx hb dL_acts_260 rfl (lv_at hl 3 rfl) ?_
            refine lv_iload hx hb dL_acts_261 (lv_at hl 11 rfl) ?_
            refine lv_iconst (v := 1) hx hb dL_acts_263 (by decide) ?_
            refine lv_iadd hx hb dL_acts_264 ?_
            refine lv_aload hx hb dL_acts_265 (lv_at hl 5 rfl) ?_
            refine lv_aload_n hx hb dL_acts_267 rfl (lv_at hl 2 rfl) ?_
            refine lv_iconst (v := 0) hx hb dL_acts_268 (by decide) ?_
            refine lv_iload hx hb dL_acts_269 (lv_at hl 10 rfl) ?_
            refine lv_iconst (v := 0) hx hb dL_acts_271 (by decide) ?_
            refine lv_iconst (v := 0) hx hb dL_acts_272 (by decide) ?_
            refine lv_iconst (v := 0) hx hb dL_acts_273 (by decide) ?_
            refine lv_iconst (v := 0) hx hb dL_acts_274 (by decide) ?_
            obtain ⟨v191, M192, hv191, h⟩ := bP_e h
            refine mw_callSi X (c_L_add l E hA hv191) pk_L_add wm_525 wm_524 ⟨Nat.le_of_ble_eq_true rfl, Nat.le_of_ble_eq_true rfl⟩ ⟨rfl, rfl⟩ hP hS rfl hl.1 (Nat.le_of_ble_eq_true rfl) ⟨Nat.le_of_ble_eq_true rfl, Nat.le_of_ble_eq_true rfl⟩ rfl dL_acts_275 (fun H locs hP hS => ?_)
            obtain ⟨g194, h⟩ := gd_e h
            refine mw_st X hP hS ix_29 (fun _ => rfl) (inb_vp g194) rfl dL_acts_278 (fun H locs M193 eM193 hP hS => ?_)
            have h := bd_e h eM193
            refine lv_aload_n hx hb dL_acts_279 rfl (lv_at hl 3 rfl) ?_
            refine lv_iload hx hb dL_acts_280 (lv_at hl 11 rfl) ?_
            refine lv_iconst (v := 2) hx hb dL_acts_282 (by decide) ?_
            refine lv_iadd hx hb dL_acts_283 ?_
            refine lv_iconst (v := 0) hx hb dL_acts_284 (by decide) ?_
            obtain ⟨g196, h⟩ := gd_e h
            refine mw_st X hP hS ix_29 (fun _ => rfl) (inb_vp g196) rfl dL_acts_285 (fun H locs M195 eM195 hP hS => ?_)
            have h := bd_e h eM195
            refine lv_aload_n hx hb dL_acts_286 rfl (lv_at hl 3 rfl) ?_
            refine lv_iload hx hb dL_acts_287 (lv_at hl 11 rfl) ?_
            refine lv_iconst (v := 3) hx hb dL_acts_289 (by decide) ?_
            refine lv_iadd hx hb dL_acts_290 ?_
            refine lv_iconst (v := 0) hx hb dL_acts_291 (by decide) ?_
            obtain ⟨g198, h⟩ := gd_e h
            refine mw_st X hP hS ix_29 (fun _ => rfl) (inb_vp g198) rfl dL_acts_292 (fun H locs M197 eM197 hP hS => ?_)
            have h := bd_e h eM197
            refine lv_aload_n hx hb dL_acts_293 rfl (lv_at hl 1 rfl) ?_
            refine lv_iload hx hb dL_acts_294 (lv_at hl 10 rfl) ?_
            obtain ⟨v199, M200, hv199, h⟩ := bP_e h
            refine mw_callVi X (c_X7_begin l E hA hv199) pk_X7_begin pv_X7_begin wm_373 ⟨Nat.le_of_ble_eq_true rfl, Nat.le_of_ble_eq_true rfl⟩ ⟨rfl, rfl⟩ hP hS ix_27 rfl rfl rfl rfl hl.1 (Nat.le_of_ble_eq_true rfl) ⟨Nat.le_of_ble_eq_true rfl, Nat.le_of_ble_eq_true rfl⟩ rfl dL_acts_296 (fun H locs hP hS => ?_)
            refine lv_aload_n hx hb dL_acts_299 rfl (lv_at hl 3 rfl) ?_
            refine lv_iload hx hb dL_acts_300 (lv_at hl 11 rfl) ?_
            refine lv_iconst (v := 1) hx hb dL_acts_302 (by decide) ?_
            refine lv_iadd hx hb dL_acts_303 ?_
            obtain ⟨g201, h⟩ := gd_e h
            refine mw_ld X hP ix_29 rfl (inb_vp g201) rfl dL_acts_304 ?_
            refine lv_icmp_ne (tgt := 312) hx hb dL_acts_305 (by decide) (fun c202 => ?_) (fun c202 => ?_)
            · have h := br_0 h c202
              refine lv_iconst (v := 0) hx hb dL_acts_312 (by decide) ?_
              have h := Option.some.inj h
              refine W.widen (k := 2) (n := 10) (Nat.zero_le _) (Nat.zero_le _) ?_
              exact mw_zretS X hr hlocks hP hS (by decide) (congrArg Prod.fst h) (congrArg Prod.snd h) dL_acts_313
            · have h := br_1 h c202
              refine lv_iconst (v := 1) hx hb dL_acts_308 (by decide) ?_
              refine lv_goto (tgt := 313) hx hb dL_acts_309 (by decide) ?_
              have h := Option.some.inj h
              refine W.widen (k := 2) (n := 10) (Nat.zero_le _) (Nat.zero_le _) ?_
              exact mw_zretS X hr hlocks hP hS (by decide) (congrArg Prod.fst h) (congrArg Prod.snd h) dL_acts_313
          · have h := br_1 h c188
            refine lv_aload_n hx hb dL_acts_238 rfl (lv_at hl 1 rfl) ?_
            refine lv_iload hx hb dL_acts_239 (lv_at hl 10 rfl) ?_
            obtain ⟨v203, M204, hv203, h⟩ := bP_e h
            refine mw_callVi X (c_X7_begin l E hA hv203) pk_X7_begin pv_X7_begin wm_373 ⟨Nat.le_of_ble_eq_true rfl, Nat.le_of_ble_eq_true rfl⟩ ⟨rfl, rfl⟩ hP hS ix_27 rfl rfl rfl rfl hl.1 (Nat.le_of_ble_eq_true rfl) ⟨Nat.le_of_ble_eq_true rfl, Nat.le_of_ble_eq_true rfl⟩ rfl dL_acts_241 (fun H locs hP hS => ?_)
            refine lv_iload hx hb dL_acts_244 (lv_at hl 9 rfl) ?_
            refine lv_icmp_ne (tgt := 253) hx hb dL_acts_246 (by decide) (fun c205 => ?_) (fun c205 => ?_)
            · have h := br_0 h c205
              refine lv_iconst (v := 0) hx hb dL_acts_253 (by decide) ?_
              have h := Option.some.inj h
              refine W.widen (k := 2) (n := 10) (Nat.zero_le _) (Nat.zero_le _) ?_
              exact mw_zretS X hr hlocks hP hS (by decide) (congrArg Prod.fst h) (congrArg Prod.snd h) dL_acts_254
            · have h := br_1 h c205
              refine lv_iconst (v := 1) hx hb dL_acts_249 (by decide) ?_
              refine lv_goto (tgt := 254) hx hb dL_acts_250 (by decide) ?_
              have h := Option.some.inj h
              refine W.widen (k := 2) (n := 10) (Nat.zero_le _) (Nat.zero_le _) ?_
              exact mw_zretS X hr hlocks hP hS (by decide) (congrArg Prod.fst h) (congrArg Prod.snd h) dL_acts_254
    · have h := br_1 h c7
      refine lv_iload hx hb dL_acts_58 (lv_at hl 8 rfl) ?_
      refine lv_bipush (v := 10) hx hb dL_acts_60 (by decide) ?_
      refine lv_icmp_ge (tgt := 185) hx hb dL_acts_62 (by decide) (fun c206 => ?_) (fun c206 => ?_)
      · have h := br_1 h c206
        refine lv_iconst (v := 2) hx hb dL_acts_185 (by decide) ?_
        refine mw_new X (r := 33) tE wm_3 hP hS hAA (n := 2) (N' := 2) (by decide) (by decide) (by decide) (Nat.le_of_ble_eq_true rfl) (Nat.le_of_ble_eq_true rfl) rfl dL_acts_186 (fun E1 q1 H M207 eE1 eM207 X hP hS => ?_)
        have h := bd_e h eM207
        have hl : lv_has ls 17 [(12, .int z0), (0, .ref (E1.2.2 10 27)), (1, .ref (E1.2.2 11 28)), (2, .ref (E1.2.2 11 29)), (3, .ref (E1.2.2 11 30)), (4, .ref (E1.2.2 11 31)), (5, .ref (E1.2.2 11 32)), (7, .int y7), (8, .int y8), (9, .int y9), (10, .int y10), (11, .int y11)] := by rw [eE1]; exact hl
        have hA : AdOK E1 := X.2.2.1
        have hτ1 : tau E1 = 1 := by rw [eE1]; exact congrArg (· + 1) hτ
        have h33 : (11, 33) ∈ ix E1 := tm_33 (by omega)
        refine lv_astore (lv' := [(13, .ref (E1.2.2 11 33)), (12, .int z0), (0, .ref (E1.2.2 10 27)), (1, .ref (E1.2.2 11 28)), (2, .ref (E1.2.2 11 29)), (3, .ref (E1.2.2 11 30)), (4, .ref (E1.2.2 11 31)), (5, .ref (E1.2.2 11 32)), (7, .int y7), (8, .int y8), (9, .int y9), (10, .int y10), (11, .int y11)]) hx hb dL_acts_188 hl (by decide) rfl (fun ls hl => ?_)
        refine lv_aload_n hx hb dL_acts_190 rfl (lv_at hl 3 rfl) ?_
        refine lv_aload_n hx hb dL_acts_191 rfl (lv_at hl 5 rfl) ?_
        refine lv_aload hx hb dL_acts_192 (lv_at hl 6 rfl) ?_
        refine lv_aload hx hb dL_acts_194 (lv_at hl 7 rfl) ?_
        refine lv_aload hx hb dL_acts_196 (lv_at hl 0 rfl) ?_
        obtain ⟨v208, M209, hv208, h⟩ := bP_e h
        refine mw_callSx X hAA (c_L_start l E1 hA H.size hτ1 hv208) pk_L_start wm_516 wm_515 ⟨Nat.le_of_ble_eq_true rfl, Nat.le_of_ble_eq_true rfl⟩ ⟨rfl, rfl⟩ hP hS rfl hl.1 (Nat.le_of_ble_eq_true rfl) ⟨Nat.le_of_ble_eq_true rfl, Nat.le_of_ble_eq_true rfl⟩ rfl dL_acts_198 (fun H locs hP hS => ?_)
        refine lv_istore (lv' := [(14, .int v208), (13, .ref (E1.2.2 11 33)), (12, .int z0), (0, .ref (E1.2.2 10 27)), (1, .ref (E1.2.2 11 28)), (2, .ref (E1.2.2 11 29)), (3, .ref (E1.2.2 11 30)), (4, .ref (E1.2.2 11 31)), (5, .ref (E1.2.2 11 32)), (7, .int y7), (8, .int y8), (9, .int y9), (10, .int y10), (11, .int y11)]) hx hb dL_acts_201 hl (by decide) rfl (fun ls hl => ?_)
        refine lv_aload_n hx hb dL_acts_203 rfl (lv_at hl 3 rfl) ?_
        obtain ⟨v210, M211, hv210, h⟩ := bP_e h
        refine mw_callVi X (c_X7_restart l E1 hA hv210) pk_X7_restart pv_X7_restart wm_229 ⟨Nat.le_of_ble_eq_true rfl, Nat.le_of_ble_eq_true rfl⟩ ⟨rfl, rfl⟩ hP hS ix_27 rfl rfl rfl rfl hl.1 (Nat.le_of_ble_eq_true rfl) ⟨Nat.le_of_ble_eq_true rfl, Nat.le_of_ble_eq_true rfl⟩ rfl dL_acts_204 (fun H locs hP hS => ?_)
        refine lv_iload hx hb dL_acts_207 (lv_at hl 0 rfl) ?_
        refine lv_icmp_ne (tgt := 216) hx hb dL_acts_209 (by decide) (fun c212 => ?_) (fun c212 => ?_)
        · have h := br_0 h c212
          refine lv_iconst (v := 0) hx hb dL_acts_216 (by decide) ?_
          have h := Option.some.inj h
          exact mw_zretS X0 hr hlocks (ex_back eE1 tE hP) hS (by decide) (congrArg Prod.fst h) (congrArg Prod.snd h) dL_acts_217
        · have h := br_1 h c212
          refine lv_iconst (v := 1) hx hb dL_acts_212 (by decide) ?_
          refine lv_goto (tgt := 217) hx hb dL_acts_213 (by decide) ?_
          have h := Option.some.inj h
          exact mw_zretS X0 hr hlocks (ex_back eE1 tE hP) hS (by decide) (congrArg Prod.fst h) (congrArg Prod.snd h) dL_acts_217
      · have h := br_0 h c206
        refine lv_aload_n hx hb dL_acts_65 rfl (lv_at hl 1 rfl) ?_
        refine lv_iload hx hb dL_acts_66 (lv_at hl 10 rfl) ?_
        obtain ⟨v213, M214, hv213, h⟩ := bP_e h
        refine mw_callVi X (c_X7_begin l E hA hv213) pk_X7_begin pv_X7_begin wm_373 ⟨Nat.le_of_ble_eq_true rfl, Nat.le_of_ble_eq_true rfl⟩ ⟨rfl, rfl⟩ hP hS ix_27 rfl rfl rfl rfl hl.1 (Nat.le_of_ble_eq_true rfl) ⟨Nat.le_of_ble_eq_true rfl, Nat.le_of_ble_eq_true rfl⟩ rfl dL_acts_68 (fun H locs hP hS => ?_)
        refine lv_iload hx hb dL_acts_71 (lv_at hl 9 rfl) ?_
        refine lv_icmp_ne (tgt := 183) hx hb dL_acts_73 (by decide) (fun c215 => ?_) (fun c215 => ?_)
        · have h := br_0 h c215
          refine lv_iconst (v := 0) hx hb dL_acts_183 (by decide) ?_
          have h := Option.some.inj h
          refine W.widen (k := 2) (n := 10) (Nat.zero_le _) (Nat.zero_le _) ?_
          exact mw_zretS X hr hlocks hP hS (by decide) (congrArg Prod.fst h) (congrArg Prod.snd h) dL_acts_184
        · have h := br_1 h c215
          refine lv_aload_n hx hb dL_acts_76 rfl (lv_at hl 1 rfl) ?_
          refine lv_iload hx hb dL_acts_77 (lv_at hl 10 rfl) ?_
          refine lv_iconst (v := 0) hx hb dL_acts_79 (by decide) ?_
          refine lv_iconst (v := 0) hx hb dL_acts_80 (by decide) ?_
          obtain ⟨v216, M217, hv216, h⟩ := bP_e h
          refine mw_callVi X (c_X7_write l E hA hv216) pk_X7_write pv_X7_write wm_392 ⟨Nat.le_of_ble_eq_true rfl, Nat.le_of_ble_eq_true rfl⟩ ⟨rfl, rfl⟩ hP hS ix_27 rfl rfl rfl rfl hl.1 (Nat.le_of_ble_eq_true rfl) ⟨Nat.le_of_ble_eq_true rfl, Nat.le_of_ble_eq_true rfl⟩ rfl dL_acts_81 (fun H locs hP hS => ?_)
          refine lv_iload hx hb dL_acts_84 (lv_at hl 9 rfl) ?_
          refine lv_icmp_ne (tgt := 183) hx hb dL_acts_86 (by decide) (fun c218 => ?_) (fun c218 => ?_)
          · have h := br_0 h c218
            refine lv_iconst (v := 0) hx hb dL_acts_183 (by decide) ?_
            have h := Option.some.inj h
            refine W.widen (k := 2) (n := 10) (Nat.zero_le _) (Nat.zero_le _) ?_
            exact mw_zretS X hr hlocks hP hS (by decide) (congrArg Prod.fst h) (congrArg Prod.snd h) dL_acts_184
          · have h := br_1 h c218
            refine lv_aload_n hx hb dL_acts_89 rfl (lv_at hl 1 rfl) ?_
            refine lv_iload hx hb dL_acts_90 (lv_at hl 10 rfl) ?_
            obtain ⟨v219, M220, hv219, h⟩ := bP_e h
            refine mw_callVi X (c_X7_settle l E hA hv219) pk_X7_settle pv_X7_settle wm_405 ⟨Nat.le_of_ble_eq_true rfl, Nat.le_of_ble_eq_true rfl⟩ ⟨rfl, rfl⟩ hP hS ix_27 rfl rfl rfl rfl hl.1 (Nat.le_of_ble_eq_true rfl) ⟨Nat.le_of_ble_eq_true rfl, Nat.le_of_ble_eq_true rfl⟩ rfl dL_acts_92 (fun H locs hP hS => ?_)
            refine lv_iload hx hb dL_acts_95 (lv_at hl 9 rfl) ?_
            refine lv_icmp_ne (tgt := 183) hx hb dL_acts_97 (by decide) (fun c221 => ?_) (fun c221 => ?_)
            · have h := br_0 h c221
              refine lv_iconst (v := 0) hx hb dL_acts_183 (by decide) ?_
              have h := Option.some.inj h
              refine W.widen (k := 2) (n := 10) (Nat.zero_le _) (Nat.zero_le _) ?_
              exact mw_zretS X hr hlocks hP hS (by decide) (congrArg Prod.fst h) (congrArg Prod.snd h) dL_acts_184
            · have h := br_1 h c221
              refine lv_aload_n hx hb dL_acts_100 rfl (lv_at hl 1 rfl) ?_
              refine lv_iload hx hb dL_acts_101 (lv_at hl 10 rfl) ?_
              obtain ⟨v222, M223, hv222, h⟩ := bP_e h
              refine mw_callVi X (c_X7_takeBack l E hA hv222) pk_X7_takeBack pv_X7_takeBack wm_426 ⟨Nat.le_of_ble_eq_true rfl, Nat.le_of_ble_eq_true rfl⟩ ⟨rfl, rfl⟩ hP hS ix_27 rfl rfl rfl rfl hl.1 (Nat.le_of_ble_eq_true rfl) ⟨Nat.le_of_ble_eq_true rfl, Nat.le_of_ble_eq_true rfl⟩ rfl dL_acts_103 (fun H locs hP hS => ?_)
              refine lv_iload hx hb dL_acts_106 (lv_at hl 9 rfl) ?_
              refine lv_icmp_ne (tgt := 183) hx hb dL_acts_108 (by decide) (fun c224 => ?_) (fun c224 => ?_)
              · have h := br_0 h c224
                refine lv_iconst (v := 0) hx hb dL_acts_183 (by decide) ?_
                have h := Option.some.inj h
                refine W.widen (k := 2) (n := 10) (Nat.zero_le _) (Nat.zero_le _) ?_
                exact mw_zretS X hr hlocks hP hS (by decide) (congrArg Prod.fst h) (congrArg Prod.snd h) dL_acts_184
              · have h := br_1 h c224
                refine lv_aload_n hx hb dL_acts_111 rfl (lv_at hl 1 rfl) ?_
                refine lv_iconst (v := 0) hx hb dL_acts_112 (by decide) ?_
                obtain ⟨v225, M226, hv225, h⟩ := bP_e h
                refine mw_callVi X (c_X7_writeOut l E hA hv225) pk_X7_writeOut pv_X7_writeOut wm_439 ⟨Nat.le_of_ble_eq_true rfl, Nat.le_of_ble_eq_true rfl⟩ ⟨rfl, rfl⟩ hP hS ix_27 rfl rfl rfl rfl hl.1 (Nat.le_of_ble_eq_true rfl) ⟨Nat.le_of_ble_eq_true rfl, Nat.le_of_ble_eq_true rfl⟩ rfl dL_acts_113 (fun H locs hP hS => ?_)
                refine lv_iload hx hb dL_acts_116 (lv_at hl 9 rfl) ?_
                refine lv_icmp_ne (tgt := 183) hx hb dL_acts_118 (by decide) (fun c227 => ?_) (fun c227 => ?_)
                · have h := br_0 h c227
                  refine lv_iconst (v := 0) hx hb dL_acts_183 (by decide) ?_
                  have h := Option.some.inj h
                  refine W.widen (k := 2) (n := 10) (Nat.zero_le _) (Nat.zero_le _) ?_
                  exact mw_zretS X hr hlocks hP hS (by decide) (congrArg Prod.fst h) (congrArg Prod.snd h) dL_acts_184
                · have h := br_1 h c227
                  refine lv_aload_n hx hb dL_acts_121 rfl (lv_at hl 1 rfl) ?_
                  refine lv_iconst (v := 0) hx hb dL_acts_122 (by decide) ?_
                  obtain ⟨v228, M229, hv228, h⟩ := bP_e h
                  refine mw_callVi X (c_X7_dropOut l E hA hv228) pk_X7_dropOut pv_X7_dropOut wm_452 ⟨Nat.le_of_ble_eq_true rfl, Nat.le_of_ble_eq_true rfl⟩ ⟨rfl, rfl⟩ hP hS ix_27 rfl rfl rfl rfl hl.1 (Nat.le_of_ble_eq_true rfl) ⟨Nat.le_of_ble_eq_true rfl, Nat.le_of_ble_eq_true rfl⟩ rfl dL_acts_123 (fun H locs hP hS => ?_)
                  refine lv_iload hx hb dL_acts_126 (lv_at hl 9 rfl) ?_
                  refine lv_icmp_ne (tgt := 183) hx hb dL_acts_128 (by decide) (fun c230 => ?_) (fun c230 => ?_)
                  · have h := br_0 h c230
                    refine lv_iconst (v := 0) hx hb dL_acts_183 (by decide) ?_
                    have h := Option.some.inj h
                    refine W.widen (k := 2) (n := 10) (Nat.zero_le _) (Nat.zero_le _) ?_
                    exact mw_zretS X hr hlocks hP hS (by decide) (congrArg Prod.fst h) (congrArg Prod.snd h) dL_acts_184
                  · have h := br_1 h c230
                    refine lv_aload_n hx hb dL_acts_131 rfl (lv_at hl 1 rfl) ?_
                    obtain ⟨v231, M232, hv231, h⟩ := bP_e h
                    refine mw_callVi X (c_X7_checkpoint l E hA hv231) pk_X7_checkpoint pv_X7_checkpoint wm_460 ⟨Nat.le_of_ble_eq_true rfl, Nat.le_of_ble_eq_true rfl⟩ ⟨rfl, rfl⟩ hP hS ix_27 rfl rfl rfl rfl hl.1 (Nat.le_of_ble_eq_true rfl) ⟨Nat.le_of_ble_eq_true rfl, Nat.le_of_ble_eq_true rfl⟩ rfl dL_acts_132 (fun H locs hP hS => ?_)
                    refine lv_iload hx hb dL_acts_135 (lv_at hl 9 rfl) ?_
                    refine lv_icmp_ne (tgt := 183) hx hb dL_acts_137 (by decide) (fun c233 => ?_) (fun c233 => ?_)
                    · have h := br_0 h c233
                      refine lv_iconst (v := 0) hx hb dL_acts_183 (by decide) ?_
                      have h := Option.some.inj h
                      refine W.widen (k := 2) (n := 10) (Nat.zero_le _) (Nat.zero_le _) ?_
                      exact mw_zretS X hr hlocks hP hS (by decide) (congrArg Prod.fst h) (congrArg Prod.snd h) dL_acts_184
                    · have h := br_1 h c233
                      refine lv_aload_n hx hb dL_acts_140 rfl (lv_at hl 1 rfl) ?_
                      obtain ⟨v234, M235, hv234, h⟩ := bP_e h
                      refine mw_callVi X (c_X7_dropRecords l E hA hv234) pk_X7_dropRecords pv_X7_dropRecords wm_349 ⟨Nat.le_of_ble_eq_true rfl, Nat.le_of_ble_eq_true rfl⟩ ⟨rfl, rfl⟩ hP hS ix_27 rfl rfl rfl rfl hl.1 (Nat.le_of_ble_eq_true rfl) ⟨Nat.le_of_ble_eq_true rfl, Nat.le_of_ble_eq_true rfl⟩ rfl dL_acts_141 (fun H locs hP hS => ?_)
                      refine lv_iload hx hb dL_acts_144 (lv_at hl 9 rfl) ?_
                      refine lv_icmp_ne (tgt := 183) hx hb dL_acts_146 (by decide) (fun c236 => ?_) (fun c236 => ?_)
                      · have h := br_0 h c236
                        refine lv_iconst (v := 0) hx hb dL_acts_183 (by decide) ?_
                        have h := Option.some.inj h
                        refine W.widen (k := 2) (n := 10) (Nat.zero_le _) (Nat.zero_le _) ?_
                        exact mw_zretS X hr hlocks hP hS (by decide) (congrArg Prod.fst h) (congrArg Prod.snd h) dL_acts_184
                      · have h := br_1 h c236
                        refine lv_aload_n hx hb dL_acts_149 rfl (lv_at hl 1 rfl) ?_
                        obtain ⟨v237, M238, hv237, h⟩ := bP_e h
                        refine mw_callVi X (c_X7_force l E hA hv237) pk_X7_force pv_X7_force wm_474 ⟨Nat.le_of_ble_eq_true rfl, Nat.le_of_ble_eq_true rfl⟩ ⟨rfl, rfl⟩ hP hS ix_27 rfl rfl rfl rfl hl.1 (Nat.le_of_ble_eq_true rfl) ⟨Nat.le_of_ble_eq_true rfl, Nat.le_of_ble_eq_true rfl⟩ rfl dL_acts_150 (fun H locs hP hS => ?_)
                        refine lv_iload hx hb dL_acts_153 (lv_at hl 9 rfl) ?_
                        refine lv_icmp_ne (tgt := 183) hx hb dL_acts_155 (by decide) (fun c239 => ?_) (fun c239 => ?_)
                        · have h := br_0 h c239
                          refine lv_iconst (v := 0) hx hb dL_acts_183 (by decide) ?_
                          have h := Option.some.inj h
                          refine W.widen (k := 2) (n := 10) (Nat.zero_le _) (Nat.zero_le _) ?_
                          exact mw_zretS X hr hlocks hP hS (by decide) (congrArg Prod.fst h) (congrArg Prod.snd h) dL_acts_184
                        · have h := br_1 h c239
                          refine lv_aload_n hx hb dL_acts_158 rfl (lv_at hl 1 rfl) ?_
                          refine lv_iconst (v := 0) hx hb dL_acts_159 (by decide) ?_
                          obtain ⟨v240, M241, hv240, h⟩ := bP_e h
                          refine mw_callVi X (c_X7_stop l E hA hv240) pk_X7_stop pv_X7_stop wm_482 ⟨Nat.le_of_ble_eq_true rfl, Nat.le_of_ble_eq_true rfl⟩ ⟨rfl, rfl⟩ hP hS ix_27 rfl rfl rfl rfl hl.1 (Nat.le_of_ble_eq_true rfl) ⟨Nat.le_of_ble_eq_true rfl, Nat.le_of_ble_eq_true rfl⟩ rfl dL_acts_160 (fun H locs hP hS => ?_)
                          refine lv_iload hx hb dL_acts_163 (lv_at hl 9 rfl) ?_
                          refine lv_icmp_ne (tgt := 183) hx hb dL_acts_165 (by decide) (fun c242 => ?_) (fun c242 => ?_)
                          · have h := br_0 h c242
                            refine lv_iconst (v := 0) hx hb dL_acts_183 (by decide) ?_
                            have h := Option.some.inj h
                            refine W.widen (k := 2) (n := 10) (Nat.zero_le _) (Nat.zero_le _) ?_
                            exact mw_zretS X hr hlocks hP hS (by decide) (congrArg Prod.fst h) (congrArg Prod.snd h) dL_acts_184
                          · have h := br_1 h c242
                            refine lv_aload_n hx hb dL_acts_168 rfl (lv_at hl 1 rfl) ?_
                            refine lv_iconst (v := 0) hx hb dL_acts_169 (by decide) ?_
                            refine lv_iconst (v := 0) hx hb dL_acts_170 (by decide) ?_
                            obtain ⟨v243, M244, hv243, h⟩ := bP_e h
                            refine mw_callVi X (c_X7_would l E hA hv243) pk_X7_would pv_X7_would wm_503 ⟨Nat.le_of_ble_eq_true rfl, Nat.le_of_ble_eq_true rfl⟩ ⟨rfl, rfl⟩ hP hS ix_27 rfl rfl rfl rfl hl.1 (Nat.le_of_ble_eq_true rfl) ⟨Nat.le_of_ble_eq_true rfl, Nat.le_of_ble_eq_true rfl⟩ rfl dL_acts_171 (fun H locs hP hS => ?_)
                            refine lv_iload hx hb dL_acts_174 (lv_at hl 9 rfl) ?_
                            refine lv_icmp_ne (tgt := 183) hx hb dL_acts_176 (by decide) (fun c245 => ?_) (fun c245 => ?_)
                            · have h := br_0 h c245
                              refine lv_iconst (v := 0) hx hb dL_acts_183 (by decide) ?_
                              have h := Option.some.inj h
                              refine W.widen (k := 2) (n := 10) (Nat.zero_le _) (Nat.zero_le _) ?_
                              exact mw_zretS X hr hlocks hP hS (by decide) (congrArg Prod.fst h) (congrArg Prod.snd h) dL_acts_184
                            · have h := br_1 h c245
                              refine lv_iconst (v := 1) hx hb dL_acts_179 (by decide) ?_
                              refine lv_goto (tgt := 184) hx hb dL_acts_180 (by decide) ?_
                              have h := Option.some.inj h
                              refine W.widen (k := 2) (n := 10) (Nat.zero_le _) (Nat.zero_le _) ?_
                              exact mw_zretS X hr hlocks hP hS (by decide) (congrArg Prod.fst h) (congrArg Prod.snd h) dL_acts_184
  unfold f_L_acts at h
  refine lv_iload hx hb dL_acts_0 (lv_at hl 6 rfl) ?_
  refine lv_iconst (v := 5) hx hb dL_acts_2 (by decide) ?_
  refine lv_ishr hx hb dL_acts_3 ?_
  refine lv_ldc hx hb X.1.2.2.2.1 (X.1.2.2.2.2 _ wm_6) dL_acts_4 ?_
  obtain ⟨v1, hv1, h⟩ := bO_e h
  refine mw_callSi X (c_L_low l E hA hv1) pk_L_low wm_367 wm_366 ⟨Nat.le_of_ble_eq_true rfl, Nat.le_of_ble_eq_true rfl⟩ ⟨rfl, rfl⟩ hP hS rfl hl.1 (Nat.le_of_ble_eq_true rfl) ⟨Nat.le_of_ble_eq_true rfl, Nat.le_of_ble_eq_true rfl⟩ rfl dL_acts_6 (fun H locs hP hS => ?_)
  refine lv_istore (lv' := [(7, .int v1), (0, .ref (E.2.2 10 27)), (1, .ref (E.2.2 11 28)), (2, .ref (E.2.2 11 29)), (3, .ref (E.2.2 11 30)), (4, .ref (E.2.2 11 31)), (5, .ref (E.2.2 11 32)), (6, .int a1)]) hx hb dL_acts_9 hl (by decide) rfl (fun ls hl => ?_)
  refine lv_iload hx hb dL_acts_11 (lv_at hl 7 rfl) ?_
  refine lv_bipush (v := 30) hx hb dL_acts_13 (by decide) ?_
  obtain ⟨v2, hv2, h⟩ := bO_e h
  refine mw_callSi X (c_L_low l E hA hv2) pk_L_low wm_367 wm_366 ⟨Nat.le_of_ble_eq_true rfl, Nat.le_of_ble_eq_true rfl⟩ ⟨rfl, rfl⟩ hP hS rfl hl.1 (Nat.le_of_ble_eq_true rfl) ⟨Nat.le_of_ble_eq_true rfl, Nat.le_of_ble_eq_true rfl⟩ rfl dL_acts_15 (fun H locs hP hS => ?_)
  refine lv_istore (lv' := [(8, .int v2), (7, .int v1), (0, .ref (E.2.2 10 27)), (1, .ref (E.2.2 11 28)), (2, .ref (E.2.2 11 29)), (3, .ref (E.2.2 11 30)), (4, .ref (E.2.2 11 31)), (5, .ref (E.2.2 11 32)), (6, .int a1)]) hx hb dL_acts_18 hl (by decide) rfl (fun ls hl => ?_)
  refine lv_ldc hx hb X.1.2.2.2.1 (X.1.2.2.2.2 _ wm_5) dL_acts_20 ?_
  refine lv_istore (lv' := [(9, .int (-1000002 : Int32)), (8, .int v2), (7, .int v1), (0, .ref (E.2.2 10 27)), (1, .ref (E.2.2 11 28)), (2, .ref (E.2.2 11 29)), (3, .ref (E.2.2 11 30)), (4, .ref (E.2.2 11 31)), (5, .ref (E.2.2 11 32)), (6, .int a1)]) hx hb dL_acts_22 hl (by decide) rfl (fun ls hl => ?_)
  refine lv_iload hx hb dL_acts_24 (lv_at hl 2 rfl) ?_
  refine lv_iconst (v := 4) hx hb dL_acts_26 (by decide) ?_
  obtain ⟨g3, h⟩ := gd_e h
  refine lv_irem hx hb dL_acts_27 g3 ?_
  refine lv_topi (fun x4 ex4 => ?_)
  have h := bd_e h ex4
  refine lv_istore (lv' := [(10, .int x4), (9, .int (-1000002 : Int32)), (8, .int v2), (7, .int v1), (0, .ref (E.2.2 10 27)), (1, .ref (E.2.2 11 28)), (2, .ref (E.2.2 11 29)), (3, .ref (E.2.2 11 30)), (4, .ref (E.2.2 11 31)), (5, .ref (E.2.2 11 32)), (6, .int a1)]) hx hb dL_acts_28 hl (by decide) rfl (fun ls hl => ?_)
  refine lv_iconst (v := 4) hx hb dL_acts_30 (by decide) ?_
  refine lv_iload hx hb dL_acts_31 (lv_at hl 0 rfl) ?_
  refine lv_imul hx hb dL_acts_33 ?_
  refine lv_topi (fun x5 ex5 => ?_)
  have h := bd_e h ex5
  refine lv_istore (lv' := [(11, .int x5), (10, .int x4), (9, .int (-1000002 : Int32)), (8, .int v2), (7, .int v1), (0, .ref (E.2.2 10 27)), (1, .ref (E.2.2 11 28)), (2, .ref (E.2.2 11 29)), (3, .ref (E.2.2 11 30)), (4, .ref (E.2.2 11 31)), (5, .ref (E.2.2 11 32)), (6, .int a1)]) hx hb dL_acts_34 hl (by decide) rfl (fun ls hl => ?_)
  refine lv_aload_n hx hb dL_acts_36 rfl (lv_at hl 6 rfl) ?_
  refine lv_iconst (v := 1) hx hb dL_acts_37 (by decide) ?_
  refine mw_ld X hP ix_28 rfl (v := (M 11 28 1)) (inb_vp (by decide)) rfl dL_acts_38 ?_
  refine lv_bipush (v := 32) hx hb dL_acts_39 (by decide) ?_
  refine lv_icmp_lt (tgt := 48) hx hb dL_acts_41 (by decide) (fun c6 => ?_) (fun c6 => ?_)
  · have h := br_1 h c6
    refine lv_iconst (v := 0) hx hb dL_acts_48 (by decide) ?_
    exact w_L49 _ _ _ _ _ _ _ _ _ _ h hP hS (lv_sub hl [5, 6, 7, 8, 9, 10, 4, 3, 2, 1, 0] rfl)
  · have h := br_0 h c6
    refine lv_iconst (v := 1) hx hb dL_acts_44 (by decide) ?_
    refine lv_goto (tgt := 49) hx hb dL_acts_45 (by decide) ?_
    exact w_L49 _ _ _ _ _ _ _ _ _ _ h hP hS (lv_sub hl [5, 6, 7, 8, 9, 10, 4, 3, 2, 1, 0] rfl)
