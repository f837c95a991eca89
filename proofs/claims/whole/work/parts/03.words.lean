theorem wt_1 {w : Cond} (h : w ∈ tables_1_1) : w ∈ lw_tbl := List.mem_append_right _ (List.mem_append_left _ h)
theorem wt_2 {w : Cond} (h : w ∈ tables_1_2) : w ∈ lw_tbl := List.mem_append_right _ (List.mem_append_right _ (List.mem_append_left _ h))
theorem wt_3 {w : Cond} (h : w ∈ tables_1_3) : w ∈ lw_tbl := List.mem_append_right _ (List.mem_append_right _ (List.mem_append_right _ (List.mem_append_left _ h)))
theorem wt_4 {w : Cond} (h : w ∈ tables_1_4) : w ∈ lw_tbl := List.mem_append_right _ (List.mem_append_right _ (List.mem_append_right _ (List.mem_append_right _ (List.mem_append_left _ h))))
theorem wt_5 {w : Cond} (h : w ∈ tables_1_5) : w ∈ lw_tbl := List.mem_append_right _ (List.mem_append_right _ (List.mem_append_right _ (List.mem_append_right _ (List.mem_append_right _ h))))
theorem wpl_1 {q : MethodName × Nat} (h : q ∈ lw_privs_1) : q ∈ lw_privs := List.mem_append_left _ h
theorem wp_1 {w : Cond} (h : w ∈ k2_sels lw_privs_1) : w ∈ lw_tbl := by
  obtain ⟨q, hq, rfl⟩ := List.mem_map.mp h
  exact List.mem_append_left _ (List.mem_map.mpr ⟨q, wpl_1 hq, rfl⟩)
theorem wpl_2 {q : MethodName × Nat} (h : q ∈ lw_privs_2) : q ∈ lw_privs := List.mem_append_right _ (List.mem_append_left _ h)
theorem wp_2 {w : Cond} (h : w ∈ k2_sels lw_privs_2) : w ∈ lw_tbl := by
  obtain ⟨q, hq, rfl⟩ := List.mem_map.mp h
  exact List.mem_append_left _ (List.mem_map.mpr ⟨q, wpl_2 hq, rfl⟩)
theorem wpl_3 {q : MethodName × Nat} (h : q ∈ lw_privs_3) : q ∈ lw_privs := List.mem_append_right _ (List.mem_append_right _ (List.mem_append_left _ h))
theorem wp_3 {w : Cond} (h : w ∈ k2_sels lw_privs_3) : w ∈ lw_tbl := by
  obtain ⟨q, hq, rfl⟩ := List.mem_map.mp h
  exact List.mem_append_left _ (List.mem_map.mpr ⟨q, wpl_3 hq, rfl⟩)
theorem wpl_4 {q : MethodName × Nat} (h : q ∈ lw_privs_4) : q ∈ lw_privs := List.mem_append_right _ (List.mem_append_right _ (List.mem_append_right _ h))
theorem wp_4 {w : Cond} (h : w ∈ k2_sels lw_privs_4) : w ∈ lw_tbl := by
  obtain ⟨q, hq, rfl⟩ := List.mem_map.mp h
  exact List.mem_append_left _ (List.mem_map.mpr ⟨q, wpl_4 hq, rfl⟩)
theorem wm_0 : Cond.classLink RL 7 RX7 ∈ wsL_law := wm (wt_1 (List.mem_of_getElem? (i := 13) (by decide +kernel))) rfl
theorem wm_1 : Cond.instantiable RX7 8 ∈ wsL_law := wm (wt_1 (List.mem_of_getElem? (i := 14) (by decide +kernel))) rfl
theorem wm_2 : Cond.initialized RX7 ∈ wsL_law := wm (wt_1 (List.mem_of_getElem? (i := 1) (by decide +kernel))) rfl
theorem wm_3 : Cond.classLink RL 10 RX8 ∈ wsL_law := wm (wt_3 (List.mem_of_getElem? (i := 231) (by decide +kernel))) rfl
theorem wm_4 : Cond.instantiable RX8 16 ∈ wsL_law := wm (wt_3 (List.mem_of_getElem? (i := 232) (by decide +kernel))) rfl
theorem wm_5 : Cond.initialized RX8 ∈ wsL_law := wm (wt_1 (List.mem_of_getElem? (i := 9) (by decide +kernel))) rfl
theorem wm_6 : Cond.methodLink RL 9 yX7_init ∈ wsL_law := wm (wt_1 (List.mem_of_getElem? (i := 15) (by decide +kernel))) rfl
theorem wm_7 : Cond.instanceMethod yX7_init ∈ wsL_law := wm (wt_1 (List.mem_of_getElem? (i := 16) (by decide +kernel))) rfl
theorem wm_8 : Cond.code yX7_init cX7_init 1 none ∈ wsL_law := wm (wt_1 (List.mem_of_getElem? (i := 17) (by decide +kernel))) rfl
theorem wm_9 : Cond.methodLink RX7 1 objectInit ∈ wsL_law := wm (wt_1 (List.mem_of_getElem? (i := 18) (by decide +kernel))) rfl
theorem wm_10 : Cond.instanceMethod objectInit ∈ wsL_law := wm (wt_1 (List.mem_of_getElem? (i := 19) (by decide +kernel))) rfl
theorem wm_11 : Cond.code objectInit ⟨#[0xb1]⟩ 1 none ∈ wsL_law := wm (wt_1 (List.mem_of_getElem? (i := 20) (by decide +kernel))) rfl
theorem wm_12 : Cond.classLink RX7 7 RX6 ∈ wsL_law := wm (wt_1 (List.mem_of_getElem? (i := 21) (by decide +kernel))) rfl
theorem wm_13 : Cond.instantiable RX6 5 ∈ wsL_law := wm (wt_1 (List.mem_of_getElem? (i := 22) (by decide +kernel))) rfl
theorem wm_14 : Cond.initialized RX6 ∈ wsL_law := wm (wt_1 (List.mem_of_getElem? (i := 2) (by decide +kernel))) rfl
theorem wm_15 : Cond.fieldLink RX7 10 "SealedGroups" "now" "LSealedGroups$Store;" ∈ wsL_law := wm (wt_2 (List.mem_of_getElem? (i := 12) (by decide +kernel))) rfl
theorem wm_16 : Cond.fieldLink RX7 16 "SealedGroups" "trial" "LSealedGroups$Store;" ∈ wsL_law := wm (wt_2 (List.mem_of_getElem? (i := 13) (by decide +kernel))) rfl
theorem wm_17 : Cond.classLink RX7 19 RX5 ∈ wsL_law := wm (wt_1 (List.mem_of_getElem? (i := 168) (by decide +kernel))) rfl
theorem wm_18 : Cond.instantiable RX5 6 ∈ wsL_law := wm (wt_1 (List.mem_of_getElem? (i := 169) (by decide +kernel))) rfl
theorem wm_19 : Cond.initialized RX5 ∈ wsL_law := wm (wt_1 (List.mem_of_getElem? (i := 6) (by decide +kernel))) rfl
theorem wm_20 : Cond.fieldLink RX7 22 "SealedGroups" "restarter" "LSealedGroups$Restarter;" ∈ wsL_law := wm (wt_2 (List.mem_of_getElem? (i := 14) (by decide +kernel))) rfl
theorem wm_21 : Cond.classLink RX7 26 RX1 ∈ wsL_law := wm (wt_1 (List.mem_of_getElem? (i := 193) (by decide +kernel))) rfl
theorem wm_22 : Cond.instantiable RX1 3 ∈ wsL_law := wm (wt_1 (List.mem_of_getElem? (i := 194) (by decide +kernel))) rfl
theorem wm_23 : Cond.initialized RX1 ∈ wsL_law := wm (wt_1 (List.mem_of_getElem? (i := 7) (by decide +kernel))) rfl
theorem wm_24 : Cond.fieldLink RX7 29 "SealedGroups" "history" "LSealedGroups$History;" ∈ wsL_law := wm (wt_2 (List.mem_of_getElem? (i := 15) (by decide +kernel))) rfl
theorem wm_25 : Cond.classLink RX7 33 RX3 ∈ wsL_law := wm (wt_1 (List.mem_of_getElem? (i := 213) (by decide +kernel))) rfl
theorem wm_26 : Cond.instantiable RX3 8 ∈ wsL_law := wm (wt_1 (List.mem_of_getElem? (i := 214) (by decide +kernel))) rfl
theorem wm_27 : Cond.initialized RX3 ∈ wsL_law := wm (wt_1 (List.mem_of_getElem? (i := 8) (by decide +kernel))) rfl
theorem wm_28 : Cond.fieldLink RX7 36 "SealedGroups" "text" "LSealedGroups$OrderText;" ∈ wsL_law := wm (wt_2 (List.mem_of_getElem? (i := 16) (by decide +kernel))) rfl
theorem wm_29 : Cond.instanceMethod yX6_init ∈ wsL_law := wm (wt_1 (List.mem_of_getElem? (i := 24) (by decide +kernel))) rfl
theorem wm_30 : Cond.code yX6_init cX6_init 1 none ∈ wsL_law := wm (wt_1 (List.mem_of_getElem? (i := 25) (by decide +kernel))) rfl
theorem wm_31 : Cond.methodLink RX6 3 objectInit ∈ wsL_law := wm (wt_1 (List.mem_of_getElem? (i := 26) (by decide +kernel))) rfl
theorem wm_32 : Cond.classLink RX6 9 RX4 ∈ wsL_law := wm (wt_1 (List.mem_of_getElem? (i := 27) (by decide +kernel))) rfl
theorem wm_33 : Cond.instantiable RX4 7 ∈ wsL_law := wm (wt_1 (List.mem_of_getElem? (i := 28) (by decide +kernel))) rfl
theorem wm_34 : Cond.initialized RX4 ∈ wsL_law := wm (wt_1 (List.mem_of_getElem? (i := 3) (by decide +kernel))) rfl
theorem wm_35 : Cond.fieldLink RX6 12 "SealedGroups$Store" "pages" "LSealedGroups$Pages;" ∈ wsL_law := wm (wt_1 (List.mem_of_getElem? (i := 143) (by decide +kernel))) rfl
theorem wm_36 : Cond.classLink RX6 18 RX0 ∈ wsL_law := wm (wt_1 (List.mem_of_getElem? (i := 62) (by decide +kernel))) rfl
theorem wm_37 : Cond.instantiable RX0 4 ∈ wsL_law := wm (wt_1 (List.mem_of_getElem? (i := 63) (by decide +kernel))) rfl
theorem wm_38 : Cond.initialized RX0 ∈ wsL_law := wm (wt_1 (List.mem_of_getElem? (i := 4) (by decide +kernel))) rfl
theorem wm_39 : Cond.fieldLink RX6 21 "SealedGroups$Store" "groups" "LSealedGroups$Groups;" ∈ wsL_law := wm (wt_1 (List.mem_of_getElem? (i := 146) (by decide +kernel))) rfl
theorem wm_40 : Cond.classLink RX6 25 RX2 ∈ wsL_law := wm (wt_1 (List.mem_of_getElem? (i := 85) (by decide +kernel))) rfl
theorem wm_41 : Cond.instantiable RX2 12 ∈ wsL_law := wm (wt_1 (List.mem_of_getElem? (i := 86) (by decide +kernel))) rfl
theorem wm_42 : Cond.initialized RX2 ∈ wsL_law := wm (wt_1 (List.mem_of_getElem? (i := 5) (by decide +kernel))) rfl
theorem wm_43 : Cond.fieldLink RX6 28 "SealedGroups$Store" "journal" "LSealedGroups$Journal;" ∈ wsL_law := wm (wt_1 (List.mem_of_getElem? (i := 148) (by decide +kernel))) rfl
theorem wm_44 : Cond.instanceMethod yX4_init ∈ wsL_law := wm (wt_1 (List.mem_of_getElem? (i := 30) (by decide +kernel))) rfl
theorem wm_45 : Cond.code yX4_init cX4_init 1 none ∈ wsL_law := wm (wt_1 (List.mem_of_getElem? (i := 31) (by decide +kernel))) rfl
theorem wm_46 : Cond.methodLink RX4 3 objectInit ∈ wsL_law := wm (wt_1 (List.mem_of_getElem? (i := 32) (by decide +kernel))) rfl
theorem wm_47 : Cond.arrayClass .int ∈ wsL_law := wm (wt_1 (List.mem_of_getElem? (i := 61) (by decide +kernel))) rfl
theorem wm_48 : Cond.fieldLink RX4 9 "SealedGroups$Pages" "diskValues" "[I" ∈ wsL_law := wm (wt_1 (List.mem_of_getElem? (i := 33) (by decide +kernel))) rfl
theorem wm_49 : Cond.fieldLink RX4 15 "SealedGroups$Pages" "diskMarks" "[I" ∈ wsL_law := wm (wt_1 (List.mem_of_getElem? (i := 34) (by decide +kernel))) rfl
theorem wm_50 : Cond.fieldLink RX4 18 "SealedGroups$Pages" "values" "[I" ∈ wsL_law := wm (wt_1 (List.mem_of_getElem? (i := 35) (by decide +kernel))) rfl
theorem wm_51 : Cond.fieldLink RX4 21 "SealedGroups$Pages" "marks" "[I" ∈ wsL_law := wm (wt_1 (List.mem_of_getElem? (i := 36) (by decide +kernel))) rfl
theorem wm_52 : Cond.fieldLink RX4 24 "SealedGroups$Pages" "starts" "[I" ∈ wsL_law := wm (wt_1 (List.mem_of_getElem? (i := 37) (by decide +kernel))) rfl
theorem wm_53 : Cond.instanceMethod yX0_init ∈ wsL_law := wm (wt_1 (List.mem_of_getElem? (i := 65) (by decide +kernel))) rfl
theorem wm_54 : Cond.code yX0_init cX0_init 1 none ∈ wsL_law := wm (wt_1 (List.mem_of_getElem? (i := 66) (by decide +kernel))) rfl
theorem wm_55 : Cond.methodLink RX0 3 objectInit ∈ wsL_law := wm (wt_1 (List.mem_of_getElem? (i := 67) (by decide +kernel))) rfl
theorem wm_56 : Cond.fieldLink RX0 9 "SealedGroups$Groups" "begins" "[I" ∈ wsL_law := wm (wt_1 (List.mem_of_getElem? (i := 68) (by decide +kernel))) rfl
theorem wm_57 : Cond.fieldLink RX0 15 "SealedGroups$Groups" "writes" "[I" ∈ wsL_law := wm (wt_1 (List.mem_of_getElem? (i := 70) (by decide +kernel))) rfl
theorem wm_58 : Cond.fieldLink RX0 18 "SealedGroups$Groups" "held" "[I" ∈ wsL_law := wm (wt_1 (List.mem_of_getElem? (i := 71) (by decide +kernel))) rfl
theorem wm_59 : Cond.instanceMethod yX2_init ∈ wsL_law := wm (wt_1 (List.mem_of_getElem? (i := 88) (by decide +kernel))) rfl
theorem wm_60 : Cond.code yX2_init cX2_init 1 none ∈ wsL_law := wm (wt_1 (List.mem_of_getElem? (i := 89) (by decide +kernel))) rfl
theorem wm_61 : Cond.methodLink RX2 3 objectInit ∈ wsL_law := wm (wt_1 (List.mem_of_getElem? (i := 90) (by decide +kernel))) rfl
theorem wm_62 : Cond.fieldLink RX2 9 "SealedGroups$Journal" "kinds" "[I" ∈ wsL_law := wm (wt_1 (List.mem_of_getElem? (i := 91) (by decide +kernel))) rfl
theorem wm_63 : Cond.fieldLink RX2 15 "SealedGroups$Journal" "owners" "[I" ∈ wsL_law := wm (wt_1 (List.mem_of_getElem? (i := 94) (by decide +kernel))) rfl
theorem wm_64 : Cond.fieldLink RX2 18 "SealedGroups$Journal" "pageNumbers" "[I" ∈ wsL_law := wm (wt_1 (List.mem_of_getElem? (i := 97) (by decide +kernel))) rfl
theorem wm_65 : Cond.fieldLink RX2 21 "SealedGroups$Journal" "olds" "[I" ∈ wsL_law := wm (wt_1 (List.mem_of_getElem? (i := 100) (by decide +kernel))) rfl
theorem wm_66 : Cond.fieldLink RX2 24 "SealedGroups$Journal" "news" "[I" ∈ wsL_law := wm (wt_1 (List.mem_of_getElem? (i := 103) (by decide +kernel))) rfl
theorem wm_67 : Cond.fieldLink RX2 27 "SealedGroups$Journal" "targets" "[I" ∈ wsL_law := wm (wt_1 (List.mem_of_getElem? (i := 105) (by decide +kernel))) rfl
theorem wm_68 : Cond.fieldLink RX2 30 "SealedGroups$Journal" "checkpointStarts" "[I" ∈ wsL_law := wm (wt_1 (List.mem_of_getElem? (i := 107) (by decide +kernel))) rfl
theorem wm_69 : Cond.fieldLink RX2 33 "SealedGroups$Journal" "first" "I" ∈ wsL_law := wm (wt_1 (List.mem_of_getElem? (i := 109) (by decide +kernel))) rfl
theorem wm_70 : Cond.instanceMethod yX5_init ∈ wsL_law := wm (wt_1 (List.mem_of_getElem? (i := 171) (by decide +kernel))) rfl
theorem wm_71 : Cond.code yX5_init cX5_init 1 none ∈ wsL_law := wm (wt_1 (List.mem_of_getElem? (i := 172) (by decide +kernel))) rfl
theorem wm_72 : Cond.methodLink RX5 3 objectInit ∈ wsL_law := wm (wt_1 (List.mem_of_getElem? (i := 173) (by decide +kernel))) rfl
theorem wm_73 : Cond.fieldLink RX5 9 "SealedGroups$Restarter" "starts" "[I" ∈ wsL_law := wm (wt_1 (List.mem_of_getElem? (i := 174) (by decide +kernel))) rfl
theorem wm_74 : Cond.fieldLink RX5 15 "SealedGroups$Restarter" "takenBack" "[I" ∈ wsL_law := wm (wt_1 (List.mem_of_getElem? (i := 175) (by decide +kernel))) rfl
theorem wm_75 : Cond.methodLink RX7 28 yX1_init ∈ wsL_law := wm (wt_1 (List.mem_of_getElem? (i := 195) (by decide +kernel))) rfl
theorem wm_76 : Cond.instanceMethod yX1_init ∈ wsL_law := wm (wt_1 (List.mem_of_getElem? (i := 196) (by decide +kernel))) rfl
theorem wm_77 : Cond.code yX1_init cX1_init 2 none ∈ wsL_law := wm (wt_1 (List.mem_of_getElem? (i := 197) (by decide +kernel))) rfl
theorem wm_78 : Cond.methodLink RX1 3 objectInit ∈ wsL_law := wm (wt_1 (List.mem_of_getElem? (i := 198) (by decide +kernel))) rfl
theorem wm_79 : Cond.classLink RX1 9 RX6 ∈ wsL_law := wm (wt_1 (List.mem_of_getElem? (i := 199) (by decide +kernel))) rfl
theorem wm_80 : Cond.fieldLink RX1 11 "SealedGroups$History" "rows" "[LSealedGroups$Store;" ∈ wsL_law := wm (wt_1 (List.mem_of_getElem? (i := 202) (by decide +kernel))) rfl
theorem wm_81 : Cond.instanceMethod yX3_init ∈ wsL_law := wm (wt_1 (List.mem_of_getElem? (i := 216) (by decide +kernel))) rfl
theorem wm_82 : Cond.code yX3_init cX3_init 1 none ∈ wsL_law := wm (wt_1 (List.mem_of_getElem? (i := 217) (by decide +kernel))) rfl
theorem wm_83 : Cond.methodLink RX3 3 objectInit ∈ wsL_law := wm (wt_1 (List.mem_of_getElem? (i := 218) (by decide +kernel))) rfl
theorem wm_84 : Cond.arrayClass .char ∈ wsL_law := wm (wt_2 (List.mem_of_getElem? (i := 11) (by decide +kernel))) rfl
theorem wm_85 : Cond.fieldLink RX3 9 "SealedGroups$OrderText" "signs" "[C" ∈ wsL_law := wm (wt_1 (List.mem_of_getElem? (i := 219) (by decide +kernel))) rfl
theorem wm_86 : Cond.methodLink RL 12 yX8_init ∈ wsL_law := wm (wt_3 (List.mem_of_getElem? (i := 233) (by decide +kernel))) rfl
theorem wm_87 : Cond.instanceMethod yX8_init ∈ wsL_law := wm (wt_3 (List.mem_of_getElem? (i := 234) (by decide +kernel))) rfl
theorem wm_88 : Cond.code yX8_init cX8_init 1 none ∈ wsL_law := wm (wt_3 (List.mem_of_getElem? (i := 235) (by decide +kernel))) rfl
theorem wm_89 : Cond.methodLink RX8 1 objectInit ∈ wsL_law := wm (wt_3 (List.mem_of_getElem? (i := 236) (by decide +kernel))) rfl
theorem wm_90 : Cond.fieldLink RX8 7 "SealedGroupsModel" "s" "[I" ∈ wsL_law := wm (wt_3 (List.mem_of_getElem? (i := 237) (by decide +kernel))) rfl
theorem wm_91 : Cond.fieldLink RX8 13 "SealedGroupsModel" "past" "[I" ∈ wsL_law := wm (wt_3 (List.mem_of_getElem? (i := 238) (by decide +kernel))) rfl
theorem wm_92 : Cond.fieldLink RX8 16 "SealedGroupsModel" "held" "[I" ∈ wsL_law := wm (wt_3 (List.mem_of_getElem? (i := 239) (by decide +kernel))) rfl
theorem wm_93 : Cond.fieldLink RX8 19 "SealedGroupsModel" "tried" "[I" ∈ wsL_law := wm (wt_4 (List.mem_of_getElem? (i := 0) (by decide +kernel))) rfl
theorem wm_94 : Cond.fieldLink RX8 22 "SealedGroupsModel" "text" "[I" ∈ wsL_law := wm (wt_4 (List.mem_of_getElem? (i := 3) (by decide +kernel))) rfl
theorem wm_95 : Cond.fieldLink RX8 25 "SealedGroupsModel" "numbers" "[I" ∈ wsL_law := wm (wt_4 (List.mem_of_getElem? (i := 5) (by decide +kernel))) rfl
theorem wm_96 : Cond.fieldLink RX8 28 "SealedGroupsModel" "told" "[I" ∈ wsL_law := wm (wt_4 (List.mem_of_getElem? (i := 12) (by decide +kernel))) rfl
theorem wm_97 : Cond.methodLink RL 13 yX7_begin ∈ wsL_law := wm (wt_2 (List.mem_of_getElem? (i := 37) (by decide +kernel))) rfl
theorem wm_98 : Cond.instanceMethod yX7_begin ∈ wsL_law := wm (wt_2 (List.mem_of_getElem? (i := 38) (by decide +kernel))) rfl
theorem wm_99 : Cond.selects RX7 yX7_begin yX7_begin ∈ wsL_law := wm (wt_2 (List.mem_of_getElem? (i := 39) (by decide +kernel))) rfl
theorem wm_100 : Cond.code yX7_begin cX7_begin 2 (some .int) ∈ wsL_law := wm (wt_2 (List.mem_of_getElem? (i := 40) (by decide +kernel))) rfl
theorem wm_101 : Cond.methodLink RX7 40 yX1_prepare ∈ wsL_law := wm (wt_2 (List.mem_of_getElem? (i := 41) (by decide +kernel))) rfl
theorem wm_102 : Cond.instanceMethod yX1_prepare ∈ wsL_law := wm (wt_2 (List.mem_of_getElem? (i := 42) (by decide +kernel))) rfl
theorem wm_103 : Cond.selects RX1 yX1_prepare yX1_prepare ∈ wsL_law := wm (wt_2 (List.mem_of_getElem? (i := 43) (by decide +kernel))) rfl
theorem wm_104 : Cond.code yX1_prepare cX1_prepare 3 none ∈ wsL_law := wm (wt_2 (List.mem_of_getElem? (i := 44) (by decide +kernel))) rfl
theorem wm_105 : Cond.fieldLink RX1 28 "SealedGroups$History" "size" "I" ∈ wsL_law := wm (wt_1 (List.mem_of_getElem? (i := 204) (by decide +kernel))) rfl
theorem wm_106 : Cond.methodLink RX1 31 yX1_rowAt ∈ wsL_law := wm (wt_2 (List.mem_of_getElem? (i := 45) (by decide +kernel))) rfl
theorem wm_107 : Cond.instanceMethod yX1_rowAt ∈ wsL_law := wm (wt_2 (List.mem_of_getElem? (i := 47) (by decide +kernel))) rfl
theorem wm_108 : Cond.selects RX1 yX1_rowAt yX1_rowAt ∈ wsL_law := wm (wp_1 (List.mem_of_getElem? (i := 0) (by decide +kernel))) rfl
theorem wm_109 : Cond.code yX1_rowAt cX1_rowAt 3 (some (.object "SealedGroups$Store")) ∈ wsL_law := wm (wt_2 (List.mem_of_getElem? (i := 48) (by decide +kernel))) rfl
theorem wm_110 : Cond.fieldLink RX1 18 "SealedGroups$History" "oldest" "I" ∈ wsL_law := wm (wt_1 (List.mem_of_getElem? (i := 203) (by decide +kernel))) rfl
theorem wm_111 : Cond.methodLink RX1 22 yJ9_floorMod_7cf53 ∈ wsL_law := wm (wt_2 (List.mem_of_getElem? (i := 49) (by decide +kernel))) rfl
theorem wm_112 : Cond.static yJ9_floorMod_7cf53 ∈ wsL_law := wm (wt_2 (List.mem_of_getElem? (i := 50) (by decide +kernel))) rfl
theorem wm_113 : Cond.initialized RJ9 ∈ wsL_law := wm (wt_1 (List.mem_of_getElem? (i := 10) (by decide +kernel))) rfl
theorem wm_114 : Cond.code yJ9_floorMod_7cf53 cJ9_floorMod_7cf53 3 (some .int) ∈ wsL_law := wm (wt_2 (List.mem_of_getElem? (i := 51) (by decide +kernel))) rfl
theorem wm_115 : Cond.methodLink RX1 35 yX6_copyFrom ∈ wsL_law := wm (wt_2 (List.mem_of_getElem? (i := 52) (by decide +kernel))) rfl
theorem wm_116 : Cond.instanceMethod yX6_copyFrom ∈ wsL_law := wm (wt_2 (List.mem_of_getElem? (i := 53) (by decide +kernel))) rfl
theorem wm_117 : Cond.selects RX6 yX6_copyFrom yX6_copyFrom ∈ wsL_law := wm (wt_2 (List.mem_of_getElem? (i := 54) (by decide +kernel))) rfl
theorem wm_118 : Cond.code yX6_copyFrom cX6_copyFrom 2 none ∈ wsL_law := wm (wt_2 (List.mem_of_getElem? (i := 55) (by decide +kernel))) rfl
theorem wm_119 : Cond.fieldLink RX6 42 "SealedGroups$Store" "stopped" "Z" ∈ wsL_law := wm (wt_1 (List.mem_of_getElem? (i := 152) (by decide +kernel))) rfl
theorem wm_120 : Cond.fieldLink RX6 46 "SealedGroups$Store" "doneAgain" "I" ∈ wsL_law := wm (wt_1 (List.mem_of_getElem? (i := 154) (by decide +kernel))) rfl
theorem wm_121 : Cond.methodLink RX6 32 yX4_copyFrom ∈ wsL_law := wm (wt_2 (List.mem_of_getElem? (i := 56) (by decide +kernel))) rfl
theorem wm_122 : Cond.instanceMethod yX4_copyFrom ∈ wsL_law := wm (wt_2 (List.mem_of_getElem? (i := 57) (by decide +kernel))) rfl
theorem wm_123 : Cond.selects RX4 yX4_copyFrom yX4_copyFrom ∈ wsL_law := wm (wt_2 (List.mem_of_getElem? (i := 58) (by decide +kernel))) rfl
theorem wm_124 : Cond.code yX4_copyFrom cX4_copyFrom 2 none ∈ wsL_law := wm (wt_2 (List.mem_of_getElem? (i := 59) (by decide +kernel))) rfl
theorem wm_125 : Cond.methodLink RX4 27 arraycopyName ∈ wsL_law := wm (wt_2 (List.mem_of_getElem? (i := 60) (by decide +kernel))) rfl
theorem wm_126 : Cond.native arraycopyName ∈ wsL_law := wm (wt_2 (List.mem_of_getElem? (i := 62) (by decide +kernel))) rfl
theorem wm_127 : Cond.static arraycopyName ∈ wsL_law := wm (wt_2 (List.mem_of_getElem? (i := 61) (by decide +kernel))) rfl
theorem wm_128 : Cond.initialized "java/lang/System" ∈ wsL_law := wm (wt_1 (List.mem_of_getElem? (i := 11) (by decide +kernel))) rfl
theorem wm_129 : Cond.fieldLink RX4 33 "SealedGroups$Pages" "cached" "I" ∈ wsL_law := wm (wt_1 (List.mem_of_getElem? (i := 39) (by decide +kernel))) rfl
theorem wm_130 : Cond.fieldLink RX4 37 "SealedGroups$Pages" "dirty" "I" ∈ wsL_law := wm (wt_1 (List.mem_of_getElem? (i := 42) (by decide +kernel))) rfl
theorem wm_131 : Cond.methodLink RX6 36 yX0_copyFrom ∈ wsL_law := wm (wt_2 (List.mem_of_getElem? (i := 63) (by decide +kernel))) rfl
theorem wm_132 : Cond.instanceMethod yX0_copyFrom ∈ wsL_law := wm (wt_2 (List.mem_of_getElem? (i := 64) (by decide +kernel))) rfl
theorem wm_133 : Cond.selects RX0 yX0_copyFrom yX0_copyFrom ∈ wsL_law := wm (wt_2 (List.mem_of_getElem? (i := 65) (by decide +kernel))) rfl
theorem wm_134 : Cond.code yX0_copyFrom cX0_copyFrom 2 none ∈ wsL_law := wm (wt_2 (List.mem_of_getElem? (i := 66) (by decide +kernel))) rfl
theorem wm_135 : Cond.methodLink RX0 21 arraycopyName ∈ wsL_law := wm (wt_2 (List.mem_of_getElem? (i := 67) (by decide +kernel))) rfl
theorem wm_136 : Cond.fieldLink RX0 27 "SealedGroups$Groups" "open" "I" ∈ wsL_law := wm (wt_1 (List.mem_of_getElem? (i := 72) (by decide +kernel))) rfl
theorem wm_137 : Cond.methodLink RX6 39 yX2_copyFrom ∈ wsL_law := wm (wt_2 (List.mem_of_getElem? (i := 68) (by decide +kernel))) rfl
theorem wm_138 : Cond.instanceMethod yX2_copyFrom ∈ wsL_law := wm (wt_2 (List.mem_of_getElem? (i := 69) (by decide +kernel))) rfl
theorem wm_139 : Cond.selects RX2 yX2_copyFrom yX2_copyFrom ∈ wsL_law := wm (wt_2 (List.mem_of_getElem? (i := 70) (by decide +kernel))) rfl
theorem wm_140 : Cond.code yX2_copyFrom cX2_copyFrom 2 none ∈ wsL_law := wm (wt_2 (List.mem_of_getElem? (i := 71) (by decide +kernel))) rfl
theorem wm_141 : Cond.methodLink RX2 37 arraycopyName ∈ wsL_law := wm (wt_2 (List.mem_of_getElem? (i := 72) (by decide +kernel))) rfl
theorem wm_142 : Cond.fieldLink RX2 43 "SealedGroups$Journal" "size" "I" ∈ wsL_law := wm (wt_1 (List.mem_of_getElem? (i := 111) (by decide +kernel))) rfl
theorem wm_143 : Cond.fieldLink RX2 46 "SealedGroups$Journal" "forced" "I" ∈ wsL_law := wm (wt_1 (List.mem_of_getElem? (i := 113) (by decide +kernel))) rfl
theorem wm_144 : Cond.fieldLink RX2 49 "SealedGroups$Journal" "latestCheckpoint" "I" ∈ wsL_law := wm (wt_1 (List.mem_of_getElem? (i := 114) (by decide +kernel))) rfl
theorem wm_145 : Cond.fieldLink RX2 52 "SealedGroups$Journal" "dropLimit" "I" ∈ wsL_law := wm (wt_1 (List.mem_of_getElem? (i := 117) (by decide +kernel))) rfl
theorem wm_146 : Cond.methodLink RX7 44 yX6_beginGroup ∈ wsL_law := wm (wt_2 (List.mem_of_getElem? (i := 73) (by decide +kernel))) rfl
theorem wm_147 : Cond.instanceMethod yX6_beginGroup ∈ wsL_law := wm (wt_2 (List.mem_of_getElem? (i := 74) (by decide +kernel))) rfl
theorem wm_148 : Cond.selects RX6 yX6_beginGroup yX6_beginGroup ∈ wsL_law := wm (wt_2 (List.mem_of_getElem? (i := 75) (by decide +kernel))) rfl
theorem wm_149 : Cond.code yX6_beginGroup cX6_beginGroup 3 (some .int) ∈ wsL_law := wm (wt_2 (List.mem_of_getElem? (i := 76) (by decide +kernel))) rfl
theorem wm_150 : Cond.constant RX6 50 (-1000001) ∈ wsL_law := wm (wt_2 (List.mem_of_getElem? (i := 77) (by decide +kernel))) rfl
theorem wm_151 : Cond.constant RX6 55 (-1000002) ∈ wsL_law := wm (wt_2 (List.mem_of_getElem? (i := 82) (by decide +kernel))) rfl
theorem wm_152 : Cond.constant RX6 60 (-1000003) ∈ wsL_law := wm (wt_2 (List.mem_of_getElem? (i := 87) (by decide +kernel))) rfl
theorem wm_153 : Cond.constant RX6 61 (-1000004) ∈ wsL_law := wm (wt_2 (List.mem_of_getElem? (i := 88) (by decide +kernel))) rfl
theorem wm_154 : Cond.methodLink RX6 51 yX0_isOpen ∈ wsL_law := wm (wt_2 (List.mem_of_getElem? (i := 78) (by decide +kernel))) rfl
theorem wm_155 : Cond.instanceMethod yX0_isOpen ∈ wsL_law := wm (wt_2 (List.mem_of_getElem? (i := 79) (by decide +kernel))) rfl
theorem wm_156 : Cond.selects RX0 yX0_isOpen yX0_isOpen ∈ wsL_law := wm (wt_2 (List.mem_of_getElem? (i := 80) (by decide +kernel))) rfl
theorem wm_157 : Cond.code yX0_isOpen cX0_isOpen 2 (some .boolean) ∈ wsL_law := wm (wt_2 (List.mem_of_getElem? (i := 81) (by decide +kernel))) rfl
theorem wm_158 : Cond.methodLink RX6 56 yX2_isFull ∈ wsL_law := wm (wt_2 (List.mem_of_getElem? (i := 83) (by decide +kernel))) rfl
theorem wm_159 : Cond.instanceMethod yX2_isFull ∈ wsL_law := wm (wt_2 (List.mem_of_getElem? (i := 84) (by decide +kernel))) rfl
theorem wm_160 : Cond.selects RX2 yX2_isFull yX2_isFull ∈ wsL_law := wm (wt_2 (List.mem_of_getElem? (i := 85) (by decide +kernel))) rfl
theorem wm_161 : Cond.code yX2_isFull cX2_isFull 1 (some .boolean) ∈ wsL_law := wm (wt_2 (List.mem_of_getElem? (i := 86) (by decide +kernel))) rfl
theorem wm_162 : Cond.methodLink RX6 62 yX2_append ∈ wsL_law := wm (wt_2 (List.mem_of_getElem? (i := 89) (by decide +kernel))) rfl
theorem wm_163 : Cond.instanceMethod yX2_append ∈ wsL_law := wm (wt_2 (List.mem_of_getElem? (i := 90) (by decide +kernel))) rfl
theorem wm_164 : Cond.selects RX2 yX2_append yX2_append ∈ wsL_law := wm (wt_2 (List.mem_of_getElem? (i := 91) (by decide +kernel))) rfl
theorem wm_165 : Cond.code yX2_append cX2_append 7 (some .int) ∈ wsL_law := wm (wt_2 (List.mem_of_getElem? (i := 92) (by decide +kernel))) rfl
theorem wm_166 : Cond.constant RX2 55 (-1000004) ∈ wsL_law := wm (wt_2 (List.mem_of_getElem? (i := 93) (by decide +kernel))) rfl
theorem wm_167 : Cond.methodLink RX6 66 yX0_enter ∈ wsL_law := wm (wt_2 (List.mem_of_getElem? (i := 94) (by decide +kernel))) rfl
theorem wm_168 : Cond.instanceMethod yX0_enter ∈ wsL_law := wm (wt_2 (List.mem_of_getElem? (i := 95) (by decide +kernel))) rfl
theorem wm_169 : Cond.selects RX0 yX0_enter yX0_enter ∈ wsL_law := wm (wt_2 (List.mem_of_getElem? (i := 96) (by decide +kernel))) rfl
theorem wm_170 : Cond.code yX0_enter cX0_enter 3 none ∈ wsL_law := wm (wt_2 (List.mem_of_getElem? (i := 97) (by decide +kernel))) rfl
theorem wm_171 : Cond.methodLink RX7 48 yX1_keepUnlessError ∈ wsL_law := wm (wt_2 (List.mem_of_getElem? (i := 98) (by decide +kernel))) rfl
theorem wm_172 : Cond.instanceMethod yX1_keepUnlessError ∈ wsL_law := wm (wt_2 (List.mem_of_getElem? (i := 99) (by decide +kernel))) rfl
theorem wm_173 : Cond.selects RX1 yX1_keepUnlessError yX1_keepUnlessError ∈ wsL_law := wm (wt_2 (List.mem_of_getElem? (i := 100) (by decide +kernel))) rfl
theorem wm_174 : Cond.code yX1_keepUnlessError cX1_keepUnlessError 2 (some .int) ∈ wsL_law := wm (wt_2 (List.mem_of_getElem? (i := 101) (by decide +kernel))) rfl
theorem wm_175 : Cond.methodLink RL 17 yX8_begin ∈ wsL_law := wm (wt_4 (List.mem_of_getElem? (i := 46) (by decide +kernel))) rfl
theorem wm_176 : Cond.instanceMethod yX8_begin ∈ wsL_law := wm (wt_4 (List.mem_of_getElem? (i := 47) (by decide +kernel))) rfl
theorem wm_177 : Cond.selects RX8 yX8_begin yX8_begin ∈ wsL_law := wm (wt_4 (List.mem_of_getElem? (i := 48) (by decide +kernel))) rfl
theorem wm_178 : Cond.code yX8_begin cX8_begin 3 (some .int) ∈ wsL_law := wm (wt_4 (List.mem_of_getElem? (i := 49) (by decide +kernel))) rfl
theorem wm_179 : Cond.constant RX8 70 (-1000001) ∈ wsL_law := wm (wt_4 (List.mem_of_getElem? (i := 53) (by decide +kernel))) rfl
theorem wm_180 : Cond.constant RX8 75 (-1000002) ∈ wsL_law := wm (wt_4 (List.mem_of_getElem? (i := 66) (by decide +kernel))) rfl
theorem wm_181 : Cond.constant RX8 76 (-1000003) ∈ wsL_law := wm (wt_4 (List.mem_of_getElem? (i := 67) (by decide +kernel))) rfl
theorem wm_182 : Cond.constant RX8 62 (-1000004) ∈ wsL_law := wm (wt_4 (List.mem_of_getElem? (i := 72) (by decide +kernel))) rfl
theorem wm_183 : Cond.methodLink RX8 66 yX8_in ∈ wsL_law := wm (wt_4 (List.mem_of_getElem? (i := 50) (by decide +kernel))) rfl
theorem wm_184 : Cond.static yX8_in ∈ wsL_law := wm (wt_4 (List.mem_of_getElem? (i := 51) (by decide +kernel))) rfl
theorem wm_185 : Cond.code yX8_in cX8_in 3 (some .boolean) ∈ wsL_law := wm (wt_4 (List.mem_of_getElem? (i := 52) (by decide +kernel))) rfl
theorem wm_186 : Cond.methodLink RX8 71 yX8_isStopped ∈ wsL_law := wm (wt_4 (List.mem_of_getElem? (i := 54) (by decide +kernel))) rfl
theorem wm_187 : Cond.instanceMethod yX8_isStopped ∈ wsL_law := wm (wt_4 (List.mem_of_getElem? (i := 56) (by decide +kernel))) rfl
theorem wm_188 : Cond.selects RX8 yX8_isStopped yX8_isStopped ∈ wsL_law := wm (wp_2 (List.mem_of_getElem? (i := 2) (by decide +kernel))) rfl
theorem wm_189 : Cond.code yX8_isStopped cX8_isStopped 1 (some .boolean) ∈ wsL_law := wm (wt_4 (List.mem_of_getElem? (i := 57) (by decide +kernel))) rfl
theorem wm_190 : Cond.methodLink RX8 63 yX8_isOpen ∈ wsL_law := wm (wt_4 (List.mem_of_getElem? (i := 58) (by decide +kernel))) rfl
theorem wm_191 : Cond.instanceMethod yX8_isOpen ∈ wsL_law := wm (wt_4 (List.mem_of_getElem? (i := 60) (by decide +kernel))) rfl
theorem wm_192 : Cond.selects RX8 yX8_isOpen yX8_isOpen ∈ wsL_law := wm (wp_2 (List.mem_of_getElem? (i := 3) (by decide +kernel))) rfl
theorem wm_193 : Cond.code yX8_isOpen cX8_isOpen 2 (some .boolean) ∈ wsL_law := wm (wt_4 (List.mem_of_getElem? (i := 61) (by decide +kernel))) rfl
theorem wm_194 : Cond.methodLink RX8 39 yX8_ofGroup ∈ wsL_law := wm (wt_4 (List.mem_of_getElem? (i := 62) (by decide +kernel))) rfl
theorem wm_195 : Cond.instanceMethod yX8_ofGroup ∈ wsL_law := wm (wt_4 (List.mem_of_getElem? (i := 64) (by decide +kernel))) rfl
theorem wm_196 : Cond.selects RX8 yX8_ofGroup yX8_ofGroup ∈ wsL_law := wm (wp_2 (List.mem_of_getElem? (i := 4) (by decide +kernel))) rfl
theorem wm_197 : Cond.code yX8_ofGroup cX8_ofGroup 3 (some .int) ∈ wsL_law := wm (wt_4 (List.mem_of_getElem? (i := 65) (by decide +kernel))) rfl
theorem wm_198 : Cond.methodLink RX8 77 yX8_changes ∈ wsL_law := wm (wt_4 (List.mem_of_getElem? (i := 68) (by decide +kernel))) rfl
theorem wm_199 : Cond.instanceMethod yX8_changes ∈ wsL_law := wm (wt_4 (List.mem_of_getElem? (i := 70) (by decide +kernel))) rfl
theorem wm_200 : Cond.selects RX8 yX8_changes yX8_changes ∈ wsL_law := wm (wp_2 (List.mem_of_getElem? (i := 5) (by decide +kernel))) rfl
theorem wm_201 : Cond.code yX8_changes cX8_changes 2 none ∈ wsL_law := wm (wt_4 (List.mem_of_getElem? (i := 71) (by decide +kernel))) rfl
theorem wm_202 : Cond.fieldLink RX8 31 "SealedGroupsModel" "runs" "Z" ∈ wsL_law := wm (wt_4 (List.mem_of_getElem? (i := 2) (by decide +kernel))) rfl
theorem wm_203 : Cond.fieldLink RX8 35 "SealedGroupsModel" "pasts" "I" ∈ wsL_law := wm (wt_4 (List.mem_of_getElem? (i := 1) (by decide +kernel))) rfl
theorem wm_204 : Cond.methodLink RX8 80 yX8_adds ∈ wsL_law := wm (wt_4 (List.mem_of_getElem? (i := 73) (by decide +kernel))) rfl
theorem wm_205 : Cond.instanceMethod yX8_adds ∈ wsL_law := wm (wt_4 (List.mem_of_getElem? (i := 75) (by decide +kernel))) rfl
theorem wm_206 : Cond.selects RX8 yX8_adds yX8_adds ∈ wsL_law := wm (wp_2 (List.mem_of_getElem? (i := 6) (by decide +kernel))) rfl
theorem wm_207 : Cond.code yX8_adds cX8_adds 9 (some .int) ∈ wsL_law := wm (wt_4 (List.mem_of_getElem? (i := 76) (by decide +kernel))) rfl
theorem wm_208 : Cond.methodLink RX8 50 yX8_last ∈ wsL_law := wm (wt_4 (List.mem_of_getElem? (i := 77) (by decide +kernel))) rfl
theorem wm_209 : Cond.instanceMethod yX8_last ∈ wsL_law := wm (wt_4 (List.mem_of_getElem? (i := 79) (by decide +kernel))) rfl
theorem wm_210 : Cond.selects RX8 yX8_last yX8_last ∈ wsL_law := wm (wp_2 (List.mem_of_getElem? (i := 7) (by decide +kernel))) rfl
theorem wm_211 : Cond.code yX8_last cX8_last 1 (some .int) ∈ wsL_law := wm (wt_4 (List.mem_of_getElem? (i := 80) (by decide +kernel))) rfl
theorem wm_212 : Cond.methodLink RX8 84 yX8_putsGroup ∈ wsL_law := wm (wt_4 (List.mem_of_getElem? (i := 81) (by decide +kernel))) rfl
theorem wm_213 : Cond.instanceMethod yX8_putsGroup ∈ wsL_law := wm (wt_4 (List.mem_of_getElem? (i := 83) (by decide +kernel))) rfl
theorem wm_214 : Cond.selects RX8 yX8_putsGroup yX8_putsGroup ∈ wsL_law := wm (wp_2 (List.mem_of_getElem? (i := 8) (by decide +kernel))) rfl
theorem wm_215 : Cond.code yX8_putsGroup cX8_putsGroup 4 none ∈ wsL_law := wm (wt_4 (List.mem_of_getElem? (i := 84) (by decide +kernel))) rfl
theorem wm_216 : Cond.methodLink RL 18 yX7_write ∈ wsL_law := wm (wt_2 (List.mem_of_getElem? (i := 102) (by decide +kernel))) rfl
theorem wm_217 : Cond.instanceMethod yX7_write ∈ wsL_law := wm (wt_2 (List.mem_of_getElem? (i := 103) (by decide +kernel))) rfl
theorem wm_218 : Cond.selects RX7 yX7_write yX7_write ∈ wsL_law := wm (wt_2 (List.mem_of_getElem? (i := 104) (by decide +kernel))) rfl
theorem wm_219 : Cond.code yX7_write cX7_write 4 (some .int) ∈ wsL_law := wm (wt_2 (List.mem_of_getElem? (i := 105) (by decide +kernel))) rfl
theorem wm_220 : Cond.methodLink RX7 51 yX6_writePage ∈ wsL_law := wm (wt_2 (List.mem_of_getElem? (i := 106) (by decide +kernel))) rfl
theorem wm_221 : Cond.instanceMethod yX6_writePage ∈ wsL_law := wm (wt_2 (List.mem_of_getElem? (i := 107) (by decide +kernel))) rfl
theorem wm_222 : Cond.selects RX6 yX6_writePage yX6_writePage ∈ wsL_law := wm (wt_2 (List.mem_of_getElem? (i := 108) (by decide +kernel))) rfl
theorem wm_223 : Cond.code yX6_writePage cX6_writePage 7 (some .int) ∈ wsL_law := wm (wt_2 (List.mem_of_getElem? (i := 109) (by decide +kernel))) rfl
theorem wm_224 : Cond.methodLink RX6 70 yX0_holderOf ∈ wsL_law := wm (wt_2 (List.mem_of_getElem? (i := 110) (by decide +kernel))) rfl
theorem wm_225 : Cond.instanceMethod yX0_holderOf ∈ wsL_law := wm (wt_2 (List.mem_of_getElem? (i := 111) (by decide +kernel))) rfl
theorem wm_226 : Cond.selects RX0 yX0_holderOf yX0_holderOf ∈ wsL_law := wm (wt_2 (List.mem_of_getElem? (i := 112) (by decide +kernel))) rfl
theorem wm_227 : Cond.code yX0_holderOf cX0_holderOf 3 (some .int) ∈ wsL_law := wm (wt_2 (List.mem_of_getElem? (i := 113) (by decide +kernel))) rfl
theorem wm_228 : Cond.constant RX0 31 (-1000004) ∈ wsL_law := wm (wt_2 (List.mem_of_getElem? (i := 114) (by decide +kernel))) rfl
theorem wm_229 : Cond.methodLink RX6 74 yX4_valueOf ∈ wsL_law := wm (wt_2 (List.mem_of_getElem? (i := 115) (by decide +kernel))) rfl
theorem wm_230 : Cond.instanceMethod yX4_valueOf ∈ wsL_law := wm (wt_2 (List.mem_of_getElem? (i := 116) (by decide +kernel))) rfl
theorem wm_231 : Cond.selects RX4 yX4_valueOf yX4_valueOf ∈ wsL_law := wm (wt_2 (List.mem_of_getElem? (i := 117) (by decide +kernel))) rfl
theorem wm_232 : Cond.code yX4_valueOf cX4_valueOf 2 (some .int) ∈ wsL_law := wm (wt_2 (List.mem_of_getElem? (i := 118) (by decide +kernel))) rfl
theorem wm_233 : Cond.methodLink RX6 77 yX4_put ∈ wsL_law := wm (wt_2 (List.mem_of_getElem? (i := 119) (by decide +kernel))) rfl
theorem wm_234 : Cond.instanceMethod yX4_put ∈ wsL_law := wm (wt_2 (List.mem_of_getElem? (i := 120) (by decide +kernel))) rfl
theorem wm_235 : Cond.selects RX4 yX4_put yX4_put ∈ wsL_law := wm (wt_2 (List.mem_of_getElem? (i := 121) (by decide +kernel))) rfl
theorem wm_236 : Cond.code yX4_put cX4_put 5 none ∈ wsL_law := wm (wt_2 (List.mem_of_getElem? (i := 122) (by decide +kernel))) rfl
theorem wm_237 : Cond.methodLink RX6 81 yX0_hold ∈ wsL_law := wm (wt_2 (List.mem_of_getElem? (i := 123) (by decide +kernel))) rfl
theorem wm_238 : Cond.instanceMethod yX0_hold ∈ wsL_law := wm (wt_2 (List.mem_of_getElem? (i := 124) (by decide +kernel))) rfl
theorem wm_239 : Cond.selects RX0 yX0_hold yX0_hold ∈ wsL_law := wm (wt_2 (List.mem_of_getElem? (i := 125) (by decide +kernel))) rfl
theorem wm_240 : Cond.code yX0_hold cX0_hold 3 none ∈ wsL_law := wm (wt_2 (List.mem_of_getElem? (i := 126) (by decide +kernel))) rfl
theorem wm_241 : Cond.methodLink RL 22 yX8_write ∈ wsL_law := wm (wt_4 (List.mem_of_getElem? (i := 85) (by decide +kernel))) rfl
theorem wm_242 : Cond.instanceMethod yX8_write ∈ wsL_law := wm (wt_4 (List.mem_of_getElem? (i := 86) (by decide +kernel))) rfl
theorem wm_243 : Cond.selects RX8 yX8_write yX8_write ∈ wsL_law := wm (wt_4 (List.mem_of_getElem? (i := 87) (by decide +kernel))) rfl
theorem wm_244 : Cond.code yX8_write cX8_write 7 (some .int) ∈ wsL_law := wm (wt_4 (List.mem_of_getElem? (i := 88) (by decide +kernel))) rfl
theorem wm_245 : Cond.methodLink RX8 87 yX8_holder ∈ wsL_law := wm (wt_4 (List.mem_of_getElem? (i := 89) (by decide +kernel))) rfl
theorem wm_246 : Cond.instanceMethod yX8_holder ∈ wsL_law := wm (wt_4 (List.mem_of_getElem? (i := 91) (by decide +kernel))) rfl
theorem wm_247 : Cond.selects RX8 yX8_holder yX8_holder ∈ wsL_law := wm (wp_2 (List.mem_of_getElem? (i := 9) (by decide +kernel))) rfl
theorem wm_248 : Cond.code yX8_holder cX8_holder 4 (some .int) ∈ wsL_law := wm (wt_4 (List.mem_of_getElem? (i := 92) (by decide +kernel))) rfl
theorem wm_249 : Cond.methodLink RX8 90 yX8_value ∈ wsL_law := wm (wt_4 (List.mem_of_getElem? (i := 93) (by decide +kernel))) rfl
theorem wm_250 : Cond.instanceMethod yX8_value ∈ wsL_law := wm (wt_4 (List.mem_of_getElem? (i := 95) (by decide +kernel))) rfl
theorem wm_251 : Cond.selects RX8 yX8_value yX8_value ∈ wsL_law := wm (wp_2 (List.mem_of_getElem? (i := 10) (by decide +kernel))) rfl
theorem wm_252 : Cond.code yX8_value cX8_value 2 (some .int) ∈ wsL_law := wm (wt_4 (List.mem_of_getElem? (i := 96) (by decide +kernel))) rfl
theorem wm_253 : Cond.methodLink RX8 43 yX8_ofPage ∈ wsL_law := wm (wt_4 (List.mem_of_getElem? (i := 97) (by decide +kernel))) rfl
theorem wm_254 : Cond.instanceMethod yX8_ofPage ∈ wsL_law := wm (wt_4 (List.mem_of_getElem? (i := 99) (by decide +kernel))) rfl
theorem wm_255 : Cond.selects RX8 yX8_ofPage yX8_ofPage ∈ wsL_law := wm (wp_2 (List.mem_of_getElem? (i := 11) (by decide +kernel))) rfl
theorem wm_256 : Cond.code yX8_ofPage cX8_ofPage 3 (some .int) ∈ wsL_law := wm (wt_4 (List.mem_of_getElem? (i := 100) (by decide +kernel))) rfl
theorem wm_257 : Cond.methodLink RX8 93 yX8_comes ∈ wsL_law := wm (wt_4 (List.mem_of_getElem? (i := 101) (by decide +kernel))) rfl
theorem wm_258 : Cond.instanceMethod yX8_comes ∈ wsL_law := wm (wt_4 (List.mem_of_getElem? (i := 103) (by decide +kernel))) rfl
theorem wm_259 : Cond.selects RX8 yX8_comes yX8_comes ∈ wsL_law := wm (wp_2 (List.mem_of_getElem? (i := 12) (by decide +kernel))) rfl
theorem wm_260 : Cond.code yX8_comes cX8_comes 4 none ∈ wsL_law := wm (wt_4 (List.mem_of_getElem? (i := 104) (by decide +kernel))) rfl
theorem wm_261 : Cond.methodLink RX8 54 yX8_isDirty ∈ wsL_law := wm (wt_4 (List.mem_of_getElem? (i := 105) (by decide +kernel))) rfl
theorem wm_262 : Cond.instanceMethod yX8_isDirty ∈ wsL_law := wm (wt_4 (List.mem_of_getElem? (i := 107) (by decide +kernel))) rfl
theorem wm_263 : Cond.selects RX8 yX8_isDirty yX8_isDirty ∈ wsL_law := wm (wp_2 (List.mem_of_getElem? (i := 13) (by decide +kernel))) rfl
theorem wm_264 : Cond.code yX8_isDirty cX8_isDirty 2 (some .boolean) ∈ wsL_law := wm (wt_4 (List.mem_of_getElem? (i := 108) (by decide +kernel))) rfl
theorem wm_265 : Cond.methodLink RX8 46 yX8_mark ∈ wsL_law := wm (wt_4 (List.mem_of_getElem? (i := 109) (by decide +kernel))) rfl
theorem wm_266 : Cond.instanceMethod yX8_mark ∈ wsL_law := wm (wt_4 (List.mem_of_getElem? (i := 111) (by decide +kernel))) rfl
theorem wm_267 : Cond.selects RX8 yX8_mark yX8_mark ∈ wsL_law := wm (wp_2 (List.mem_of_getElem? (i := 14) (by decide +kernel))) rfl
theorem wm_268 : Cond.code yX8_mark cX8_mark 2 (some .int) ∈ wsL_law := wm (wt_4 (List.mem_of_getElem? (i := 112) (by decide +kernel))) rfl
theorem wm_269 : Cond.methodLink RX8 58 yX8_putsPage ∈ wsL_law := wm (wt_4 (List.mem_of_getElem? (i := 113) (by decide +kernel))) rfl
theorem wm_270 : Cond.instanceMethod yX8_putsPage ∈ wsL_law := wm (wt_4 (List.mem_of_getElem? (i := 115) (by decide +kernel))) rfl
theorem wm_271 : Cond.selects RX8 yX8_putsPage yX8_putsPage ∈ wsL_law := wm (wp_2 (List.mem_of_getElem? (i := 15) (by decide +kernel))) rfl
theorem wm_272 : Cond.code yX8_putsPage cX8_putsPage 4 none ∈ wsL_law := wm (wt_4 (List.mem_of_getElem? (i := 116) (by decide +kernel))) rfl
theorem wm_273 : Cond.methodLink RL 23 yX7_settle ∈ wsL_law := wm (wt_2 (List.mem_of_getElem? (i := 127) (by decide +kernel))) rfl
theorem wm_274 : Cond.instanceMethod yX7_settle ∈ wsL_law := wm (wt_2 (List.mem_of_getElem? (i := 128) (by decide +kernel))) rfl
theorem wm_275 : Cond.selects RX7 yX7_settle yX7_settle ∈ wsL_law := wm (wt_2 (List.mem_of_getElem? (i := 129) (by decide +kernel))) rfl
theorem wm_276 : Cond.code yX7_settle cX7_settle 2 (some .int) ∈ wsL_law := wm (wt_2 (List.mem_of_getElem? (i := 130) (by decide +kernel))) rfl
theorem wm_277 : Cond.methodLink RX7 55 yX6_settleGroup ∈ wsL_law := wm (wt_2 (List.mem_of_getElem? (i := 131) (by decide +kernel))) rfl
theorem wm_278 : Cond.instanceMethod yX6_settleGroup ∈ wsL_law := wm (wt_2 (List.mem_of_getElem? (i := 132) (by decide +kernel))) rfl
theorem wm_279 : Cond.selects RX6 yX6_settleGroup yX6_settleGroup ∈ wsL_law := wm (wt_2 (List.mem_of_getElem? (i := 133) (by decide +kernel))) rfl
theorem wm_280 : Cond.code yX6_settleGroup cX6_settleGroup 3 (some .int) ∈ wsL_law := wm (wt_2 (List.mem_of_getElem? (i := 134) (by decide +kernel))) rfl
theorem wm_281 : Cond.methodLink RX6 87 yX6_errorOfEnding ∈ wsL_law := wm (wt_2 (List.mem_of_getElem? (i := 135) (by decide +kernel))) rfl
theorem wm_282 : Cond.instanceMethod yX6_errorOfEnding ∈ wsL_law := wm (wt_2 (List.mem_of_getElem? (i := 137) (by decide +kernel))) rfl
theorem wm_283 : Cond.selects RX6 yX6_errorOfEnding yX6_errorOfEnding ∈ wsL_law := wm (wp_1 (List.mem_of_getElem? (i := 1) (by decide +kernel))) rfl
theorem wm_284 : Cond.code yX6_errorOfEnding cX6_errorOfEnding 3 (some .int) ∈ wsL_law := wm (wt_2 (List.mem_of_getElem? (i := 138) (by decide +kernel))) rfl
theorem wm_285 : Cond.methodLink RX6 91 yX2_forceUpTo ∈ wsL_law := wm (wt_2 (List.mem_of_getElem? (i := 139) (by decide +kernel))) rfl
theorem wm_286 : Cond.instanceMethod yX2_forceUpTo ∈ wsL_law := wm (wt_2 (List.mem_of_getElem? (i := 140) (by decide +kernel))) rfl
theorem wm_287 : Cond.selects RX2 yX2_forceUpTo yX2_forceUpTo ∈ wsL_law := wm (wt_2 (List.mem_of_getElem? (i := 141) (by decide +kernel))) rfl
theorem wm_288 : Cond.code yX2_forceUpTo cX2_forceUpTo 3 (some .int) ∈ wsL_law := wm (wt_2 (List.mem_of_getElem? (i := 142) (by decide +kernel))) rfl
theorem wm_289 : Cond.methodLink RX2 56 Lib.Math.max.name ∈ wsL_law := wm (wt_2 (List.mem_of_getElem? (i := 143) (by decide +kernel))) rfl
theorem wm_290 : Cond.static Lib.Math.max.name ∈ wsL_law := wm (wt_2 (List.mem_of_getElem? (i := 144) (by decide +kernel))) rfl
theorem wm_292 : Cond.code Lib.Math.max.name Lib.Math.max.code 2 (some .int) ∈ wsL_law := wm (wt_2 (List.mem_of_getElem? (i := 145) (by decide +kernel))) rfl
theorem wm_293 : Cond.methodLink RX6 94 yX0_leave ∈ wsL_law := wm (wt_2 (List.mem_of_getElem? (i := 146) (by decide +kernel))) rfl
theorem wm_294 : Cond.instanceMethod yX0_leave ∈ wsL_law := wm (wt_2 (List.mem_of_getElem? (i := 147) (by decide +kernel))) rfl
theorem wm_295 : Cond.selects RX0 yX0_leave yX0_leave ∈ wsL_law := wm (wt_2 (List.mem_of_getElem? (i := 148) (by decide +kernel))) rfl
theorem wm_296 : Cond.code yX0_leave cX0_leave 2 none ∈ wsL_law := wm (wt_2 (List.mem_of_getElem? (i := 149) (by decide +kernel))) rfl
theorem wm_297 : Cond.methodLink RX6 98 yX0_heldBy ∈ wsL_law := wm (wt_2 (List.mem_of_getElem? (i := 150) (by decide +kernel))) rfl
theorem wm_298 : Cond.instanceMethod yX0_heldBy ∈ wsL_law := wm (wt_2 (List.mem_of_getElem? (i := 151) (by decide +kernel))) rfl
theorem wm_299 : Cond.selects RX0 yX0_heldBy yX0_heldBy ∈ wsL_law := wm (wt_2 (List.mem_of_getElem? (i := 152) (by decide +kernel))) rfl
theorem wm_300 : Cond.code yX0_heldBy cX0_heldBy 2 (some .int) ∈ wsL_law := wm (wt_2 (List.mem_of_getElem? (i := 153) (by decide +kernel))) rfl
theorem wm_301 : Cond.methodLink RX6 101 yJ6_bitCount_0f7a4 ∈ wsL_law := wm (wt_2 (List.mem_of_getElem? (i := 154) (by decide +kernel))) rfl
theorem wm_302 : Cond.static yJ6_bitCount_0f7a4 ∈ wsL_law := wm (wt_2 (List.mem_of_getElem? (i := 155) (by decide +kernel))) rfl
theorem wm_303 : Cond.initialized RJ6 ∈ wsL_law := wm (wt_1 (List.mem_of_getElem? (i := 12) (by decide +kernel))) rfl
theorem wm_304 : Cond.code yJ6_bitCount_0f7a4 cJ6_bitCount_0f7a4 1 (some .int) ∈ wsL_law := wm (wt_2 (List.mem_of_getElem? (i := 156) (by decide +kernel))) rfl
theorem wm_305 : Cond.constant RJ6 265 (1431655765) ∈ wsL_law := wm (wt_2 (List.mem_of_getElem? (i := 157) (by decide +kernel))) rfl
theorem wm_306 : Cond.constant RJ6 266 (858993459) ∈ wsL_law := wm (wt_2 (List.mem_of_getElem? (i := 158) (by decide +kernel))) rfl
theorem wm_307 : Cond.constant RJ6 267 (252645135) ∈ wsL_law := wm (wt_2 (List.mem_of_getElem? (i := 159) (by decide +kernel))) rfl
theorem wm_308 : Cond.methodLink RL 26 yX8_settle ∈ wsL_law := wm (wt_4 (List.mem_of_getElem? (i := 117) (by decide +kernel))) rfl
theorem wm_309 : Cond.instanceMethod yX8_settle ∈ wsL_law := wm (wt_4 (List.mem_of_getElem? (i := 118) (by decide +kernel))) rfl
theorem wm_310 : Cond.selects RX8 yX8_settle yX8_settle ∈ wsL_law := wm (wt_4 (List.mem_of_getElem? (i := 119) (by decide +kernel))) rfl
theorem wm_311 : Cond.code yX8_settle cX8_settle 3 (some .int) ∈ wsL_law := wm (wt_4 (List.mem_of_getElem? (i := 120) (by decide +kernel))) rfl
theorem wm_312 : Cond.methodLink RX8 96 yX8_forces ∈ wsL_law := wm (wt_4 (List.mem_of_getElem? (i := 121) (by decide +kernel))) rfl
theorem wm_313 : Cond.instanceMethod yX8_forces ∈ wsL_law := wm (wt_4 (List.mem_of_getElem? (i := 123) (by decide +kernel))) rfl
theorem wm_314 : Cond.selects RX8 yX8_forces yX8_forces ∈ wsL_law := wm (wp_3 (List.mem_of_getElem? (i := 0) (by decide +kernel))) rfl
theorem wm_315 : Cond.code yX8_forces cX8_forces 3 (some .int) ∈ wsL_law := wm (wt_4 (List.mem_of_getElem? (i := 124) (by decide +kernel))) rfl
theorem wm_316 : Cond.methodLink RX8 99 yX8_bits ∈ wsL_law := wm (wt_4 (List.mem_of_getElem? (i := 125) (by decide +kernel))) rfl
theorem wm_317 : Cond.static yX8_bits ∈ wsL_law := wm (wt_4 (List.mem_of_getElem? (i := 126) (by decide +kernel))) rfl
theorem wm_318 : Cond.code yX8_bits cX8_bits 3 (some .int) ∈ wsL_law := wm (wt_4 (List.mem_of_getElem? (i := 127) (by decide +kernel))) rfl
theorem wm_319 : Cond.methodLink RX8 102 yX8_closes ∈ wsL_law := wm (wt_4 (List.mem_of_getElem? (i := 128) (by decide +kernel))) rfl
theorem wm_320 : Cond.instanceMethod yX8_closes ∈ wsL_law := wm (wt_4 (List.mem_of_getElem? (i := 130) (by decide +kernel))) rfl
theorem wm_321 : Cond.selects RX8 yX8_closes yX8_closes ∈ wsL_law := wm (wp_3 (List.mem_of_getElem? (i := 1) (by decide +kernel))) rfl
theorem wm_322 : Cond.code yX8_closes cX8_closes 3 none ∈ wsL_law := wm (wt_4 (List.mem_of_getElem? (i := 131) (by decide +kernel))) rfl
theorem wm_323 : Cond.methodLink RL 27 yX7_takeBack ∈ wsL_law := wm (wt_2 (List.mem_of_getElem? (i := 160) (by decide +kernel))) rfl
theorem wm_324 : Cond.instanceMethod yX7_takeBack ∈ wsL_law := wm (wt_2 (List.mem_of_getElem? (i := 161) (by decide +kernel))) rfl
theorem wm_325 : Cond.selects RX7 yX7_takeBack yX7_takeBack ∈ wsL_law := wm (wt_2 (List.mem_of_getElem? (i := 162) (by decide +kernel))) rfl
theorem wm_326 : Cond.code yX7_takeBack cX7_takeBack 2 (some .int) ∈ wsL_law := wm (wt_2 (List.mem_of_getElem? (i := 163) (by decide +kernel))) rfl
theorem wm_327 : Cond.methodLink RX7 58 yX6_takeGroupBack ∈ wsL_law := wm (wt_2 (List.mem_of_getElem? (i := 164) (by decide +kernel))) rfl
theorem wm_328 : Cond.instanceMethod yX6_takeGroupBack ∈ wsL_law := wm (wt_2 (List.mem_of_getElem? (i := 165) (by decide +kernel))) rfl
theorem wm_329 : Cond.selects RX6 yX6_takeGroupBack yX6_takeGroupBack ∈ wsL_law := wm (wt_2 (List.mem_of_getElem? (i := 166) (by decide +kernel))) rfl
theorem wm_330 : Cond.code yX6_takeGroupBack cX6_takeGroupBack 7 (some .int) ∈ wsL_law := wm (wt_2 (List.mem_of_getElem? (i := 167) (by decide +kernel))) rfl
theorem wm_331 : Cond.methodLink RX6 106 yX0_writesOf ∈ wsL_law := wm (wt_2 (List.mem_of_getElem? (i := 168) (by decide +kernel))) rfl
theorem wm_332 : Cond.instanceMethod yX0_writesOf ∈ wsL_law := wm (wt_2 (List.mem_of_getElem? (i := 169) (by decide +kernel))) rfl
theorem wm_333 : Cond.selects RX0 yX0_writesOf yX0_writesOf ∈ wsL_law := wm (wt_2 (List.mem_of_getElem? (i := 170) (by decide +kernel))) rfl
theorem wm_334 : Cond.code yX0_writesOf cX0_writesOf 2 (some .int) ∈ wsL_law := wm (wt_2 (List.mem_of_getElem? (i := 171) (by decide +kernel))) rfl
theorem wm_335 : Cond.methodLink RX6 109 yX0_beginOf ∈ wsL_law := wm (wt_2 (List.mem_of_getElem? (i := 172) (by decide +kernel))) rfl
theorem wm_336 : Cond.instanceMethod yX0_beginOf ∈ wsL_law := wm (wt_2 (List.mem_of_getElem? (i := 173) (by decide +kernel))) rfl
theorem wm_337 : Cond.selects RX0 yX0_beginOf yX0_beginOf ∈ wsL_law := wm (wt_2 (List.mem_of_getElem? (i := 174) (by decide +kernel))) rfl
theorem wm_338 : Cond.code yX0_beginOf cX0_beginOf 2 (some .int) ∈ wsL_law := wm (wt_2 (List.mem_of_getElem? (i := 175) (by decide +kernel))) rfl
theorem wm_339 : Cond.methodLink RX6 112 yX2_last ∈ wsL_law := wm (wt_2 (List.mem_of_getElem? (i := 176) (by decide +kernel))) rfl
theorem wm_340 : Cond.instanceMethod yX2_last ∈ wsL_law := wm (wt_2 (List.mem_of_getElem? (i := 177) (by decide +kernel))) rfl
theorem wm_341 : Cond.selects RX2 yX2_last yX2_last ∈ wsL_law := wm (wt_2 (List.mem_of_getElem? (i := 178) (by decide +kernel))) rfl
theorem wm_342 : Cond.code yX2_last cX2_last 1 (some .int) ∈ wsL_law := wm (wt_2 (List.mem_of_getElem? (i := 179) (by decide +kernel))) rfl
theorem wm_343 : Cond.methodLink RX6 120 yX2_at ∈ wsL_law := wm (wt_2 (List.mem_of_getElem? (i := 180) (by decide +kernel))) rfl
theorem wm_344 : Cond.instanceMethod yX2_at ∈ wsL_law := wm (wt_2 (List.mem_of_getElem? (i := 181) (by decide +kernel))) rfl
theorem wm_345 : Cond.selects RX2 yX2_at yX2_at ∈ wsL_law := wm (wt_2 (List.mem_of_getElem? (i := 182) (by decide +kernel))) rfl
theorem wm_346 : Cond.code yX2_at cX2_at 4 (some .int) ∈ wsL_law := wm (wt_2 (List.mem_of_getElem? (i := 183) (by decide +kernel))) rfl
theorem wm_347 : Cond.methodLink RX6 127 yX6_takeWriteBack ∈ wsL_law := wm (wt_2 (List.mem_of_getElem? (i := 184) (by decide +kernel))) rfl
theorem wm_348 : Cond.instanceMethod yX6_takeWriteBack ∈ wsL_law := wm (wt_2 (List.mem_of_getElem? (i := 185) (by decide +kernel))) rfl
theorem wm_349 : Cond.selects RX6 yX6_takeWriteBack yX6_takeWriteBack ∈ wsL_law := wm (wt_2 (List.mem_of_getElem? (i := 186) (by decide +kernel))) rfl
theorem wm_350 : Cond.code yX6_takeWriteBack cX6_takeWriteBack 6 none ∈ wsL_law := wm (wt_2 (List.mem_of_getElem? (i := 187) (by decide +kernel))) rfl
theorem wm_351 : Cond.methodLink RX6 130 yX6_endGroup ∈ wsL_law := wm (wt_2 (List.mem_of_getElem? (i := 188) (by decide +kernel))) rfl
theorem wm_352 : Cond.instanceMethod yX6_endGroup ∈ wsL_law := wm (wt_2 (List.mem_of_getElem? (i := 189) (by decide +kernel))) rfl
theorem wm_353 : Cond.selects RX6 yX6_endGroup yX6_endGroup ∈ wsL_law := wm (wt_2 (List.mem_of_getElem? (i := 190) (by decide +kernel))) rfl
theorem wm_354 : Cond.code yX6_endGroup cX6_endGroup 2 none ∈ wsL_law := wm (wt_2 (List.mem_of_getElem? (i := 191) (by decide +kernel))) rfl
theorem wm_355 : Cond.methodLink RL 30 yX8_takeBack ∈ wsL_law := wm (wt_4 (List.mem_of_getElem? (i := 132) (by decide +kernel))) rfl
theorem wm_356 : Cond.instanceMethod yX8_takeBack ∈ wsL_law := wm (wt_4 (List.mem_of_getElem? (i := 133) (by decide +kernel))) rfl
theorem wm_357 : Cond.selects RX8 yX8_takeBack yX8_takeBack ∈ wsL_law := wm (wt_4 (List.mem_of_getElem? (i := 134) (by decide +kernel))) rfl
theorem wm_358 : Cond.code yX8_takeBack cX8_takeBack 3 (some .int) ∈ wsL_law := wm (wt_4 (List.mem_of_getElem? (i := 135) (by decide +kernel))) rfl
theorem wm_359 : Cond.methodLink RX8 112 yX8_takes ∈ wsL_law := wm (wt_4 (List.mem_of_getElem? (i := 136) (by decide +kernel))) rfl
theorem wm_360 : Cond.instanceMethod yX8_takes ∈ wsL_law := wm (wt_4 (List.mem_of_getElem? (i := 138) (by decide +kernel))) rfl
theorem wm_361 : Cond.selects RX8 yX8_takes yX8_takes ∈ wsL_law := wm (wp_3 (List.mem_of_getElem? (i := 2) (by decide +kernel))) rfl
theorem wm_362 : Cond.code yX8_takes cX8_takes 8 (some .int) ∈ wsL_law := wm (wt_4 (List.mem_of_getElem? (i := 139) (by decide +kernel))) rfl
theorem wm_363 : Cond.methodLink RX8 106 yX8_of ∈ wsL_law := wm (wt_4 (List.mem_of_getElem? (i := 140) (by decide +kernel))) rfl
theorem wm_364 : Cond.instanceMethod yX8_of ∈ wsL_law := wm (wt_4 (List.mem_of_getElem? (i := 142) (by decide +kernel))) rfl
theorem wm_365 : Cond.selects RX8 yX8_of yX8_of ∈ wsL_law := wm (wp_3 (List.mem_of_getElem? (i := 3) (by decide +kernel))) rfl
theorem wm_366 : Cond.code yX8_of cX8_of 3 (some .int) ∈ wsL_law := wm (wt_4 (List.mem_of_getElem? (i := 143) (by decide +kernel))) rfl
theorem wm_367 : Cond.methodLink RX8 109 yX8_isTakenBack ∈ wsL_law := wm (wt_4 (List.mem_of_getElem? (i := 144) (by decide +kernel))) rfl
theorem wm_368 : Cond.instanceMethod yX8_isTakenBack ∈ wsL_law := wm (wt_4 (List.mem_of_getElem? (i := 146) (by decide +kernel))) rfl
theorem wm_369 : Cond.selects RX8 yX8_isTakenBack yX8_isTakenBack ∈ wsL_law := wm (wp_3 (List.mem_of_getElem? (i := 4) (by decide +kernel))) rfl
theorem wm_370 : Cond.code yX8_isTakenBack cX8_isTakenBack 4 (some .boolean) ∈ wsL_law := wm (wt_4 (List.mem_of_getElem? (i := 147) (by decide +kernel))) rfl
theorem wm_371 : Cond.methodLink RL 31 yX7_writeOut ∈ wsL_law := wm (wt_2 (List.mem_of_getElem? (i := 192) (by decide +kernel))) rfl
theorem wm_372 : Cond.instanceMethod yX7_writeOut ∈ wsL_law := wm (wt_2 (List.mem_of_getElem? (i := 193) (by decide +kernel))) rfl
theorem wm_373 : Cond.selects RX7 yX7_writeOut yX7_writeOut ∈ wsL_law := wm (wt_2 (List.mem_of_getElem? (i := 194) (by decide +kernel))) rfl
theorem wm_374 : Cond.code yX7_writeOut cX7_writeOut 2 (some .int) ∈ wsL_law := wm (wt_2 (List.mem_of_getElem? (i := 195) (by decide +kernel))) rfl
theorem wm_375 : Cond.methodLink RX7 61 yX6_writePageOut ∈ wsL_law := wm (wt_2 (List.mem_of_getElem? (i := 196) (by decide +kernel))) rfl
theorem wm_376 : Cond.instanceMethod yX6_writePageOut ∈ wsL_law := wm (wt_2 (List.mem_of_getElem? (i := 197) (by decide +kernel))) rfl
theorem wm_377 : Cond.selects RX6 yX6_writePageOut yX6_writePageOut ∈ wsL_law := wm (wt_2 (List.mem_of_getElem? (i := 198) (by decide +kernel))) rfl
theorem wm_378 : Cond.code yX6_writePageOut cX6_writePageOut 3 (some .int) ∈ wsL_law := wm (wt_2 (List.mem_of_getElem? (i := 199) (by decide +kernel))) rfl
theorem wm_379 : Cond.methodLink RX6 142 yX4_markOf ∈ wsL_law := wm (wt_2 (List.mem_of_getElem? (i := 200) (by decide +kernel))) rfl
theorem wm_380 : Cond.instanceMethod yX4_markOf ∈ wsL_law := wm (wt_2 (List.mem_of_getElem? (i := 201) (by decide +kernel))) rfl
theorem wm_381 : Cond.selects RX4 yX4_markOf yX4_markOf ∈ wsL_law := wm (wt_2 (List.mem_of_getElem? (i := 202) (by decide +kernel))) rfl
theorem wm_382 : Cond.code yX4_markOf cX4_markOf 2 (some .int) ∈ wsL_law := wm (wt_2 (List.mem_of_getElem? (i := 203) (by decide +kernel))) rfl
theorem wm_383 : Cond.methodLink RX6 145 yX4_toDisk ∈ wsL_law := wm (wt_2 (List.mem_of_getElem? (i := 204) (by decide +kernel))) rfl
theorem wm_384 : Cond.instanceMethod yX4_toDisk ∈ wsL_law := wm (wt_2 (List.mem_of_getElem? (i := 205) (by decide +kernel))) rfl
theorem wm_385 : Cond.selects RX4 yX4_toDisk yX4_toDisk ∈ wsL_law := wm (wt_2 (List.mem_of_getElem? (i := 206) (by decide +kernel))) rfl
theorem wm_386 : Cond.code yX4_toDisk cX4_toDisk 2 none ∈ wsL_law := wm (wt_2 (List.mem_of_getElem? (i := 207) (by decide +kernel))) rfl
theorem wm_387 : Cond.methodLink RL 34 yX8_writeOut ∈ wsL_law := wm (wt_4 (List.mem_of_getElem? (i := 148) (by decide +kernel))) rfl
theorem wm_388 : Cond.instanceMethod yX8_writeOut ∈ wsL_law := wm (wt_4 (List.mem_of_getElem? (i := 149) (by decide +kernel))) rfl
theorem wm_389 : Cond.selects RX8 yX8_writeOut yX8_writeOut ∈ wsL_law := wm (wt_4 (List.mem_of_getElem? (i := 150) (by decide +kernel))) rfl
theorem wm_390 : Cond.code yX8_writeOut cX8_writeOut 3 (some .int) ∈ wsL_law := wm (wt_4 (List.mem_of_getElem? (i := 151) (by decide +kernel))) rfl
theorem wm_391 : Cond.methodLink RL 35 yX7_dropOut ∈ wsL_law := wm (wt_2 (List.mem_of_getElem? (i := 208) (by decide +kernel))) rfl
theorem wm_392 : Cond.instanceMethod yX7_dropOut ∈ wsL_law := wm (wt_2 (List.mem_of_getElem? (i := 209) (by decide +kernel))) rfl
theorem wm_393 : Cond.selects RX7 yX7_dropOut yX7_dropOut ∈ wsL_law := wm (wt_2 (List.mem_of_getElem? (i := 210) (by decide +kernel))) rfl
theorem wm_394 : Cond.code yX7_dropOut cX7_dropOut 2 (some .int) ∈ wsL_law := wm (wt_2 (List.mem_of_getElem? (i := 211) (by decide +kernel))) rfl
theorem wm_395 : Cond.methodLink RX7 64 yX6_dropPageOut ∈ wsL_law := wm (wt_2 (List.mem_of_getElem? (i := 212) (by decide +kernel))) rfl
theorem wm_396 : Cond.instanceMethod yX6_dropPageOut ∈ wsL_law := wm (wt_2 (List.mem_of_getElem? (i := 213) (by decide +kernel))) rfl
theorem wm_397 : Cond.selects RX6 yX6_dropPageOut yX6_dropPageOut ∈ wsL_law := wm (wt_2 (List.mem_of_getElem? (i := 214) (by decide +kernel))) rfl
theorem wm_398 : Cond.code yX6_dropPageOut cX6_dropPageOut 3 (some .int) ∈ wsL_law := wm (wt_2 (List.mem_of_getElem? (i := 215) (by decide +kernel))) rfl
theorem wm_399 : Cond.methodLink RL 38 yX8_dropOut ∈ wsL_law := wm (wt_4 (List.mem_of_getElem? (i := 152) (by decide +kernel))) rfl
theorem wm_400 : Cond.instanceMethod yX8_dropOut ∈ wsL_law := wm (wt_4 (List.mem_of_getElem? (i := 153) (by decide +kernel))) rfl
theorem wm_401 : Cond.selects RX8 yX8_dropOut yX8_dropOut ∈ wsL_law := wm (wt_4 (List.mem_of_getElem? (i := 154) (by decide +kernel))) rfl
theorem wm_402 : Cond.code yX8_dropOut cX8_dropOut 2 (some .int) ∈ wsL_law := wm (wt_4 (List.mem_of_getElem? (i := 155) (by decide +kernel))) rfl
theorem wm_403 : Cond.methodLink RX8 115 yX8_pages ∈ wsL_law := wm (wt_4 (List.mem_of_getElem? (i := 156) (by decide +kernel))) rfl
theorem wm_404 : Cond.instanceMethod yX8_pages ∈ wsL_law := wm (wt_4 (List.mem_of_getElem? (i := 158) (by decide +kernel))) rfl
theorem wm_405 : Cond.selects RX8 yX8_pages yX8_pages ∈ wsL_law := wm (wp_3 (List.mem_of_getElem? (i := 5) (by decide +kernel))) rfl
theorem wm_406 : Cond.code yX8_pages cX8_pages 4 (some .int) ∈ wsL_law := wm (wt_4 (List.mem_of_getElem? (i := 159) (by decide +kernel))) rfl
theorem wm_407 : Cond.methodLink RL 39 yX7_checkpoint ∈ wsL_law := wm (wt_2 (List.mem_of_getElem? (i := 216) (by decide +kernel))) rfl
theorem wm_408 : Cond.instanceMethod yX7_checkpoint ∈ wsL_law := wm (wt_2 (List.mem_of_getElem? (i := 217) (by decide +kernel))) rfl
theorem wm_409 : Cond.selects RX7 yX7_checkpoint yX7_checkpoint ∈ wsL_law := wm (wt_2 (List.mem_of_getElem? (i := 218) (by decide +kernel))) rfl
theorem wm_410 : Cond.code yX7_checkpoint cX7_checkpoint 1 (some .int) ∈ wsL_law := wm (wt_2 (List.mem_of_getElem? (i := 219) (by decide +kernel))) rfl
theorem wm_411 : Cond.methodLink RX7 67 yX6_makeCheckpoint ∈ wsL_law := wm (wt_2 (List.mem_of_getElem? (i := 220) (by decide +kernel))) rfl
theorem wm_412 : Cond.instanceMethod yX6_makeCheckpoint ∈ wsL_law := wm (wt_2 (List.mem_of_getElem? (i := 221) (by decide +kernel))) rfl
theorem wm_413 : Cond.selects RX6 yX6_makeCheckpoint yX6_makeCheckpoint ∈ wsL_law := wm (wt_2 (List.mem_of_getElem? (i := 222) (by decide +kernel))) rfl
theorem wm_414 : Cond.code yX6_makeCheckpoint cX6_makeCheckpoint 1 (some .int) ∈ wsL_law := wm (wt_2 (List.mem_of_getElem? (i := 223) (by decide +kernel))) rfl
theorem wm_415 : Cond.methodLink RX6 151 yX2_appendCheckpoint ∈ wsL_law := wm (wt_2 (List.mem_of_getElem? (i := 224) (by decide +kernel))) rfl
theorem wm_416 : Cond.instanceMethod yX2_appendCheckpoint ∈ wsL_law := wm (wt_2 (List.mem_of_getElem? (i := 225) (by decide +kernel))) rfl
theorem wm_417 : Cond.selects RX2 yX2_appendCheckpoint yX2_appendCheckpoint ∈ wsL_law := wm (wt_2 (List.mem_of_getElem? (i := 226) (by decide +kernel))) rfl
theorem wm_418 : Cond.code yX2_appendCheckpoint cX2_appendCheckpoint 6 (some .int) ∈ wsL_law := wm (wt_2 (List.mem_of_getElem? (i := 227) (by decide +kernel))) rfl
theorem wm_419 : Cond.methodLink RX2 79 Lib.Math.min.name ∈ wsL_law := wm (wt_2 (List.mem_of_getElem? (i := 229) (by decide +kernel))) rfl
theorem wm_420 : Cond.static Lib.Math.min.name ∈ wsL_law := wm (wt_2 (List.mem_of_getElem? (i := 230) (by decide +kernel))) rfl
theorem wm_421 : Cond.code Lib.Math.min.name Lib.Math.min.code 2 (some .int) ∈ wsL_law := wm (wt_2 (List.mem_of_getElem? (i := 231) (by decide +kernel))) rfl
theorem wm_422 : Cond.methodLink RX2 72 yX2_append ∈ wsL_law := wm (wt_2 (List.mem_of_getElem? (i := 228) (by decide +kernel))) rfl
theorem wm_423 : Cond.methodLink RX2 85 yX2_forceUpTo ∈ wsL_law := wm (wt_2 (List.mem_of_getElem? (i := 232) (by decide +kernel))) rfl
theorem wm_424 : Cond.methodLink RL 43 yX8_checkpoint ∈ wsL_law := wm (wt_4 (List.mem_of_getElem? (i := 160) (by decide +kernel))) rfl
theorem wm_425 : Cond.instanceMethod yX8_checkpoint ∈ wsL_law := wm (wt_4 (List.mem_of_getElem? (i := 161) (by decide +kernel))) rfl
theorem wm_426 : Cond.selects RX8 yX8_checkpoint yX8_checkpoint ∈ wsL_law := wm (wt_4 (List.mem_of_getElem? (i := 162) (by decide +kernel))) rfl
theorem wm_427 : Cond.code yX8_checkpoint cX8_checkpoint 4 (some .int) ∈ wsL_law := wm (wt_4 (List.mem_of_getElem? (i := 163) (by decide +kernel))) rfl
theorem wm_428 : Cond.methodLink RX8 118 yX8_openSet ∈ wsL_law := wm (wt_4 (List.mem_of_getElem? (i := 164) (by decide +kernel))) rfl
theorem wm_429 : Cond.instanceMethod yX8_openSet ∈ wsL_law := wm (wt_4 (List.mem_of_getElem? (i := 166) (by decide +kernel))) rfl
theorem wm_430 : Cond.selects RX8 yX8_openSet yX8_openSet ∈ wsL_law := wm (wp_3 (List.mem_of_getElem? (i := 6) (by decide +kernel))) rfl
theorem wm_431 : Cond.code yX8_openSet cX8_openSet 3 (some .int) ∈ wsL_law := wm (wt_4 (List.mem_of_getElem? (i := 167) (by decide +kernel))) rfl
theorem wm_432 : Cond.methodLink RL 44 yX7_dropRecords ∈ wsL_law := wm (wt_2 (List.mem_of_getElem? (i := 233) (by decide +kernel))) rfl
theorem wm_433 : Cond.instanceMethod yX7_dropRecords ∈ wsL_law := wm (wt_2 (List.mem_of_getElem? (i := 234) (by decide +kernel))) rfl
theorem wm_434 : Cond.selects RX7 yX7_dropRecords yX7_dropRecords ∈ wsL_law := wm (wt_2 (List.mem_of_getElem? (i := 235) (by decide +kernel))) rfl
theorem wm_435 : Cond.code yX7_dropRecords cX7_dropRecords 1 (some .int) ∈ wsL_law := wm (wt_2 (List.mem_of_getElem? (i := 236) (by decide +kernel))) rfl
theorem wm_436 : Cond.methodLink RX7 71 yX6_dropOldRecords ∈ wsL_law := wm (wt_2 (List.mem_of_getElem? (i := 237) (by decide +kernel))) rfl
theorem wm_437 : Cond.instanceMethod yX6_dropOldRecords ∈ wsL_law := wm (wt_2 (List.mem_of_getElem? (i := 238) (by decide +kernel))) rfl
theorem wm_438 : Cond.selects RX6 yX6_dropOldRecords yX6_dropOldRecords ∈ wsL_law := wm (wt_2 (List.mem_of_getElem? (i := 239) (by decide +kernel))) rfl
theorem wm_439 : Cond.code yX6_dropOldRecords cX6_dropOldRecords 1 (some .int) ∈ wsL_law := wm (wt_3 (List.mem_of_getElem? (i := 0) (by decide +kernel))) rfl
theorem wm_440 : Cond.methodLink RX6 158 yX2_dropFirst ∈ wsL_law := wm (wt_3 (List.mem_of_getElem? (i := 1) (by decide +kernel))) rfl
theorem wm_441 : Cond.instanceMethod yX2_dropFirst ∈ wsL_law := wm (wt_3 (List.mem_of_getElem? (i := 2) (by decide +kernel))) rfl
theorem wm_442 : Cond.selects RX2 yX2_dropFirst yX2_dropFirst ∈ wsL_law := wm (wt_3 (List.mem_of_getElem? (i := 3) (by decide +kernel))) rfl
theorem wm_443 : Cond.code yX2_dropFirst cX2_dropFirst 3 (some .int) ∈ wsL_law := wm (wt_3 (List.mem_of_getElem? (i := 4) (by decide +kernel))) rfl
theorem wm_444 : Cond.methodLink RX2 89 yX2_droppable ∈ wsL_law := wm (wt_3 (List.mem_of_getElem? (i := 5) (by decide +kernel))) rfl
theorem wm_445 : Cond.instanceMethod yX2_droppable ∈ wsL_law := wm (wt_3 (List.mem_of_getElem? (i := 6) (by decide +kernel))) rfl
theorem wm_446 : Cond.selects RX2 yX2_droppable yX2_droppable ∈ wsL_law := wm (wt_3 (List.mem_of_getElem? (i := 7) (by decide +kernel))) rfl
theorem wm_447 : Cond.code yX2_droppable cX2_droppable 1 (some .int) ∈ wsL_law := wm (wt_3 (List.mem_of_getElem? (i := 8) (by decide +kernel))) rfl
theorem wm_448 : Cond.methodLink RL 47 yX8_dropRecords ∈ wsL_law := wm (wt_4 (List.mem_of_getElem? (i := 168) (by decide +kernel))) rfl
theorem wm_449 : Cond.instanceMethod yX8_dropRecords ∈ wsL_law := wm (wt_4 (List.mem_of_getElem? (i := 169) (by decide +kernel))) rfl
theorem wm_450 : Cond.selects RX8 yX8_dropRecords yX8_dropRecords ∈ wsL_law := wm (wt_4 (List.mem_of_getElem? (i := 170) (by decide +kernel))) rfl
theorem wm_451 : Cond.code yX8_dropRecords cX8_dropRecords 3 (some .int) ∈ wsL_law := wm (wt_4 (List.mem_of_getElem? (i := 171) (by decide +kernel))) rfl
theorem wm_452 : Cond.methodLink RX8 121 yX8_latest ∈ wsL_law := wm (wt_4 (List.mem_of_getElem? (i := 172) (by decide +kernel))) rfl
theorem wm_453 : Cond.instanceMethod yX8_latest ∈ wsL_law := wm (wt_4 (List.mem_of_getElem? (i := 174) (by decide +kernel))) rfl
theorem wm_454 : Cond.selects RX8 yX8_latest yX8_latest ∈ wsL_law := wm (wp_3 (List.mem_of_getElem? (i := 7) (by decide +kernel))) rfl
theorem wm_455 : Cond.code yX8_latest cX8_latest 3 (some .int) ∈ wsL_law := wm (wt_4 (List.mem_of_getElem? (i := 175) (by decide +kernel))) rfl
theorem wm_456 : Cond.methodLink RX8 124 yX8_canDrop ∈ wsL_law := wm (wt_4 (List.mem_of_getElem? (i := 176) (by decide +kernel))) rfl
theorem wm_457 : Cond.instanceMethod yX8_canDrop ∈ wsL_law := wm (wt_4 (List.mem_of_getElem? (i := 178) (by decide +kernel))) rfl
theorem wm_458 : Cond.selects RX8 yX8_canDrop yX8_canDrop ∈ wsL_law := wm (wp_3 (List.mem_of_getElem? (i := 8) (by decide +kernel))) rfl
theorem wm_459 : Cond.code yX8_canDrop cX8_canDrop 6 (some .int) ∈ wsL_law := wm (wt_4 (List.mem_of_getElem? (i := 179) (by decide +kernel))) rfl
theorem wm_460 : Cond.methodLink RL 48 yX7_force ∈ wsL_law := wm (wt_3 (List.mem_of_getElem? (i := 9) (by decide +kernel))) rfl
theorem wm_461 : Cond.instanceMethod yX7_force ∈ wsL_law := wm (wt_3 (List.mem_of_getElem? (i := 10) (by decide +kernel))) rfl
theorem wm_462 : Cond.selects RX7 yX7_force yX7_force ∈ wsL_law := wm (wt_3 (List.mem_of_getElem? (i := 11) (by decide +kernel))) rfl
theorem wm_463 : Cond.code yX7_force cX7_force 1 (some .int) ∈ wsL_law := wm (wt_3 (List.mem_of_getElem? (i := 12) (by decide +kernel))) rfl
theorem wm_464 : Cond.methodLink RX7 74 yX6_forceAll ∈ wsL_law := wm (wt_3 (List.mem_of_getElem? (i := 13) (by decide +kernel))) rfl
theorem wm_465 : Cond.instanceMethod yX6_forceAll ∈ wsL_law := wm (wt_3 (List.mem_of_getElem? (i := 14) (by decide +kernel))) rfl
theorem wm_466 : Cond.selects RX6 yX6_forceAll yX6_forceAll ∈ wsL_law := wm (wt_3 (List.mem_of_getElem? (i := 15) (by decide +kernel))) rfl
theorem wm_467 : Cond.code yX6_forceAll cX6_forceAll 1 (some .int) ∈ wsL_law := wm (wt_3 (List.mem_of_getElem? (i := 16) (by decide +kernel))) rfl
theorem wm_468 : Cond.methodLink RL 51 yX8_force ∈ wsL_law := wm (wt_4 (List.mem_of_getElem? (i := 180) (by decide +kernel))) rfl
theorem wm_469 : Cond.instanceMethod yX8_force ∈ wsL_law := wm (wt_4 (List.mem_of_getElem? (i := 181) (by decide +kernel))) rfl
theorem wm_470 : Cond.selects RX8 yX8_force yX8_force ∈ wsL_law := wm (wt_4 (List.mem_of_getElem? (i := 182) (by decide +kernel))) rfl
theorem wm_471 : Cond.code yX8_force cX8_force 1 (some .int) ∈ wsL_law := wm (wt_4 (List.mem_of_getElem? (i := 183) (by decide +kernel))) rfl
theorem wm_472 : Cond.methodLink RL 52 yX7_stop ∈ wsL_law := wm (wt_3 (List.mem_of_getElem? (i := 17) (by decide +kernel))) rfl
theorem wm_473 : Cond.instanceMethod yX7_stop ∈ wsL_law := wm (wt_3 (List.mem_of_getElem? (i := 18) (by decide +kernel))) rfl
theorem wm_474 : Cond.selects RX7 yX7_stop yX7_stop ∈ wsL_law := wm (wt_3 (List.mem_of_getElem? (i := 19) (by decide +kernel))) rfl
theorem wm_475 : Cond.code yX7_stop cX7_stop 2 (some .int) ∈ wsL_law := wm (wt_3 (List.mem_of_getElem? (i := 20) (by decide +kernel))) rfl
theorem wm_476 : Cond.methodLink RX7 77 yX6_stopStore ∈ wsL_law := wm (wt_3 (List.mem_of_getElem? (i := 21) (by decide +kernel))) rfl
theorem wm_477 : Cond.instanceMethod yX6_stopStore ∈ wsL_law := wm (wt_3 (List.mem_of_getElem? (i := 22) (by decide +kernel))) rfl
theorem wm_478 : Cond.selects RX6 yX6_stopStore yX6_stopStore ∈ wsL_law := wm (wt_3 (List.mem_of_getElem? (i := 23) (by decide +kernel))) rfl
theorem wm_479 : Cond.code yX6_stopStore cX6_stopStore 3 (some .int) ∈ wsL_law := wm (wt_3 (List.mem_of_getElem? (i := 24) (by decide +kernel))) rfl
theorem wm_480 : Cond.methodLink RX6 161 yX4_highestDiskMark ∈ wsL_law := wm (wt_3 (List.mem_of_getElem? (i := 25) (by decide +kernel))) rfl
theorem wm_481 : Cond.instanceMethod yX4_highestDiskMark ∈ wsL_law := wm (wt_3 (List.mem_of_getElem? (i := 26) (by decide +kernel))) rfl
theorem wm_482 : Cond.selects RX4 yX4_highestDiskMark yX4_highestDiskMark ∈ wsL_law := wm (wt_3 (List.mem_of_getElem? (i := 27) (by decide +kernel))) rfl
theorem wm_483 : Cond.code yX4_highestDiskMark cX4_highestDiskMark 3 (some .int) ∈ wsL_law := wm (wt_3 (List.mem_of_getElem? (i := 28) (by decide +kernel))) rfl
theorem wm_484 : Cond.methodLink RX4 41 Lib.Math.max.name ∈ wsL_law := wm (wt_3 (List.mem_of_getElem? (i := 29) (by decide +kernel))) rfl
theorem wm_485 : Cond.methodLink RX6 164 yX2_loseRecords ∈ wsL_law := wm (wt_3 (List.mem_of_getElem? (i := 30) (by decide +kernel))) rfl
theorem wm_486 : Cond.instanceMethod yX2_loseRecords ∈ wsL_law := wm (wt_3 (List.mem_of_getElem? (i := 31) (by decide +kernel))) rfl
theorem wm_487 : Cond.selects RX2 yX2_loseRecords yX2_loseRecords ∈ wsL_law := wm (wt_3 (List.mem_of_getElem? (i := 32) (by decide +kernel))) rfl
theorem wm_488 : Cond.code yX2_loseRecords cX2_loseRecords 6 (some .int) ∈ wsL_law := wm (wt_3 (List.mem_of_getElem? (i := 33) (by decide +kernel))) rfl
theorem wm_489 : Cond.methodLink RX2 93 yX2_last ∈ wsL_law := wm (wt_3 (List.mem_of_getElem? (i := 34) (by decide +kernel))) rfl
theorem wm_490 : Cond.methodLink RX2 96 yX2_has ∈ wsL_law := wm (wt_3 (List.mem_of_getElem? (i := 35) (by decide +kernel))) rfl
theorem wm_491 : Cond.instanceMethod yX2_has ∈ wsL_law := wm (wt_3 (List.mem_of_getElem? (i := 36) (by decide +kernel))) rfl
theorem wm_492 : Cond.selects RX2 yX2_has yX2_has ∈ wsL_law := wm (wt_3 (List.mem_of_getElem? (i := 37) (by decide +kernel))) rfl
theorem wm_493 : Cond.code yX2_has cX2_has 2 (some .boolean) ∈ wsL_law := wm (wt_3 (List.mem_of_getElem? (i := 38) (by decide +kernel))) rfl
theorem wm_494 : Cond.methodLink RX2 100 yX2_at ∈ wsL_law := wm (wt_3 (List.mem_of_getElem? (i := 39) (by decide +kernel))) rfl
theorem wm_495 : Cond.methodLink RX6 168 yX4_emptyCache ∈ wsL_law := wm (wt_3 (List.mem_of_getElem? (i := 40) (by decide +kernel))) rfl
theorem wm_496 : Cond.instanceMethod yX4_emptyCache ∈ wsL_law := wm (wt_3 (List.mem_of_getElem? (i := 41) (by decide +kernel))) rfl
theorem wm_497 : Cond.selects RX4 yX4_emptyCache yX4_emptyCache ∈ wsL_law := wm (wt_3 (List.mem_of_getElem? (i := 42) (by decide +kernel))) rfl
theorem wm_498 : Cond.code yX4_emptyCache cX4_emptyCache 1 none ∈ wsL_law := wm (wt_3 (List.mem_of_getElem? (i := 43) (by decide +kernel))) rfl
theorem wm_499 : Cond.methodLink RL 55 yX8_stop ∈ wsL_law := wm (wt_4 (List.mem_of_getElem? (i := 184) (by decide +kernel))) rfl
theorem wm_500 : Cond.instanceMethod yX8_stop ∈ wsL_law := wm (wt_4 (List.mem_of_getElem? (i := 185) (by decide +kernel))) rfl
theorem wm_501 : Cond.selects RX8 yX8_stop yX8_stop ∈ wsL_law := wm (wt_4 (List.mem_of_getElem? (i := 186) (by decide +kernel))) rfl
theorem wm_502 : Cond.code yX8_stop cX8_stop 2 (some .int) ∈ wsL_law := wm (wt_4 (List.mem_of_getElem? (i := 187) (by decide +kernel))) rfl
theorem wm_503 : Cond.methodLink RX8 130 yX8_stops ∈ wsL_law := wm (wt_4 (List.mem_of_getElem? (i := 188) (by decide +kernel))) rfl
theorem wm_504 : Cond.instanceMethod yX8_stops ∈ wsL_law := wm (wt_4 (List.mem_of_getElem? (i := 190) (by decide +kernel))) rfl
theorem wm_505 : Cond.selects RX8 yX8_stops yX8_stops ∈ wsL_law := wm (wp_3 (List.mem_of_getElem? (i := 9) (by decide +kernel))) rfl
theorem wm_506 : Cond.code yX8_stops cX8_stops 4 (some .int) ∈ wsL_law := wm (wt_4 (List.mem_of_getElem? (i := 191) (by decide +kernel))) rfl
theorem wm_507 : Cond.methodLink RX8 127 yX8_isTorn ∈ wsL_law := wm (wt_4 (List.mem_of_getElem? (i := 192) (by decide +kernel))) rfl
theorem wm_508 : Cond.instanceMethod yX8_isTorn ∈ wsL_law := wm (wt_4 (List.mem_of_getElem? (i := 194) (by decide +kernel))) rfl
theorem wm_509 : Cond.selects RX8 yX8_isTorn yX8_isTorn ∈ wsL_law := wm (wp_3 (List.mem_of_getElem? (i := 10) (by decide +kernel))) rfl
theorem wm_510 : Cond.code yX8_isTorn cX8_isTorn 3 (some .boolean) ∈ wsL_law := wm (wt_4 (List.mem_of_getElem? (i := 195) (by decide +kernel))) rfl
theorem wm_511 : Cond.methodLink RL 56 yX7_restart ∈ wsL_law := wm (wt_3 (List.mem_of_getElem? (i := 44) (by decide +kernel))) rfl
theorem wm_512 : Cond.instanceMethod yX7_restart ∈ wsL_law := wm (wt_3 (List.mem_of_getElem? (i := 45) (by decide +kernel))) rfl
theorem wm_513 : Cond.selects RX7 yX7_restart yX7_restart ∈ wsL_law := wm (wt_3 (List.mem_of_getElem? (i := 46) (by decide +kernel))) rfl
theorem wm_514 : Cond.code yX7_restart cX7_restart 1 (some .int) ∈ wsL_law := wm (wt_3 (List.mem_of_getElem? (i := 47) (by decide +kernel))) rfl
theorem wm_515 : Cond.methodLink RX7 80 yX5_run ∈ wsL_law := wm (wt_3 (List.mem_of_getElem? (i := 48) (by decide +kernel))) rfl
theorem wm_516 : Cond.instanceMethod yX5_run ∈ wsL_law := wm (wt_3 (List.mem_of_getElem? (i := 49) (by decide +kernel))) rfl
theorem wm_517 : Cond.selects RX5 yX5_run yX5_run ∈ wsL_law := wm (wt_3 (List.mem_of_getElem? (i := 50) (by decide +kernel))) rfl
theorem wm_518 : Cond.code yX5_run cX5_run 2 (some .int) ∈ wsL_law := wm (wt_3 (List.mem_of_getElem? (i := 51) (by decide +kernel))) rfl
theorem wm_519 : Cond.constant RX5 24 (-1000002) ∈ wsL_law := wm (wt_3 (List.mem_of_getElem? (i := 52) (by decide +kernel))) rfl
theorem wm_520 : Cond.fieldLink RX5 59 "SealedGroups$Restarter" "doneAgain" "I" ∈ wsL_law := wm (wt_1 (List.mem_of_getElem? (i := 178) (by decide +kernel))) rfl
theorem wm_521 : Cond.methodLink RX5 29 yX5_look ∈ wsL_law := wm (wt_3 (List.mem_of_getElem? (i := 53) (by decide +kernel))) rfl
theorem wm_522 : Cond.instanceMethod yX5_look ∈ wsL_law := wm (wt_3 (List.mem_of_getElem? (i := 55) (by decide +kernel))) rfl
theorem wm_523 : Cond.selects RX5 yX5_look yX5_look ∈ wsL_law := wm (wp_1 (List.mem_of_getElem? (i := 2) (by decide +kernel))) rfl
theorem wm_524 : Cond.code yX5_look cX5_look 6 none ∈ wsL_law := wm (wt_3 (List.mem_of_getElem? (i := 56) (by decide +kernel))) rfl
theorem wm_525 : Cond.methodLink RX5 80 Lib.Math.max.name ∈ wsL_law := wm (wt_3 (List.mem_of_getElem? (i := 58) (by decide +kernel))) rfl
theorem wm_526 : Cond.fieldLink RX5 63 "SealedGroups$Restarter" "losers" "I" ∈ wsL_law := wm (wt_1 (List.mem_of_getElem? (i := 177) (by decide +kernel))) rfl
theorem wm_527 : Cond.fieldLink RX5 66 "SealedGroups$Restarter" "lookedFrom" "I" ∈ wsL_law := wm (wt_1 (List.mem_of_getElem? (i := 176) (by decide +kernel))) rfl
theorem wm_528 : Cond.methodLink RX5 76 yX2_at ∈ wsL_law := wm (wt_3 (List.mem_of_getElem? (i := 57) (by decide +kernel))) rfl
theorem wm_529 : Cond.methodLink RX5 86 yX2_tellNumber ∈ wsL_law := wm (wt_3 (List.mem_of_getElem? (i := 59) (by decide +kernel))) rfl
theorem wm_530 : Cond.instanceMethod yX2_tellNumber ∈ wsL_law := wm (wt_3 (List.mem_of_getElem? (i := 60) (by decide +kernel))) rfl
theorem wm_531 : Cond.selects RX2 yX2_tellNumber yX2_tellNumber ∈ wsL_law := wm (wt_3 (List.mem_of_getElem? (i := 61) (by decide +kernel))) rfl
theorem wm_532 : Cond.code yX2_tellNumber cX2_tellNumber 2 (some .int) ∈ wsL_law := wm (wt_3 (List.mem_of_getElem? (i := 62) (by decide +kernel))) rfl
theorem wm_533 : Cond.constant RX2 104 (-1000001) ∈ wsL_law := wm (wt_3 (List.mem_of_getElem? (i := 63) (by decide +kernel))) rfl
theorem wm_534 : Cond.methodLink RX5 45 yX2_last ∈ wsL_law := wm (wt_3 (List.mem_of_getElem? (i := 64) (by decide +kernel))) rfl
theorem wm_535 : Cond.methodLink RX5 95 yX5_lookAt ∈ wsL_law := wm (wt_3 (List.mem_of_getElem? (i := 65) (by decide +kernel))) rfl
theorem wm_536 : Cond.instanceMethod yX5_lookAt ∈ wsL_law := wm (wt_3 (List.mem_of_getElem? (i := 67) (by decide +kernel))) rfl
theorem wm_537 : Cond.selects RX5 yX5_lookAt yX5_lookAt ∈ wsL_law := wm (wp_1 (List.mem_of_getElem? (i := 3) (by decide +kernel))) rfl
theorem wm_538 : Cond.code yX5_lookAt cX5_lookAt 6 none ∈ wsL_law := wm (wt_3 (List.mem_of_getElem? (i := 68) (by decide +kernel))) rfl
theorem wm_539 : Cond.methodLink RX5 37 yX5_doAgain ∈ wsL_law := wm (wt_3 (List.mem_of_getElem? (i := 69) (by decide +kernel))) rfl
theorem wm_540 : Cond.instanceMethod yX5_doAgain ∈ wsL_law := wm (wt_3 (List.mem_of_getElem? (i := 71) (by decide +kernel))) rfl
theorem wm_541 : Cond.selects RX5 yX5_doAgain yX5_doAgain ∈ wsL_law := wm (wp_1 (List.mem_of_getElem? (i := 4) (by decide +kernel))) rfl
theorem wm_542 : Cond.code yX5_doAgain cX5_doAgain 9 none ∈ wsL_law := wm (wt_3 (List.mem_of_getElem? (i := 72) (by decide +kernel))) rfl
theorem wm_543 : Cond.methodLink RX5 108 yX5_leastStart ∈ wsL_law := wm (wt_3 (List.mem_of_getElem? (i := 73) (by decide +kernel))) rfl
theorem wm_544 : Cond.instanceMethod yX5_leastStart ∈ wsL_law := wm (wt_3 (List.mem_of_getElem? (i := 75) (by decide +kernel))) rfl
theorem wm_545 : Cond.selects RX5 yX5_leastStart yX5_leastStart ∈ wsL_law := wm (wp_1 (List.mem_of_getElem? (i := 5) (by decide +kernel))) rfl
theorem wm_546 : Cond.code yX5_leastStart cX5_leastStart 3 (some .int) ∈ wsL_law := wm (wt_3 (List.mem_of_getElem? (i := 76) (by decide +kernel))) rfl
theorem wm_547 : Cond.methodLink RX5 111 yX5_isAfterStart ∈ wsL_law := wm (wt_3 (List.mem_of_getElem? (i := 77) (by decide +kernel))) rfl
theorem wm_548 : Cond.instanceMethod yX5_isAfterStart ∈ wsL_law := wm (wt_3 (List.mem_of_getElem? (i := 79) (by decide +kernel))) rfl
theorem wm_549 : Cond.selects RX5 yX5_isAfterStart yX5_isAfterStart ∈ wsL_law := wm (wp_1 (List.mem_of_getElem? (i := 6) (by decide +kernel))) rfl
theorem wm_550 : Cond.code yX5_isAfterStart cX5_isAfterStart 3 (some .boolean) ∈ wsL_law := wm (wt_3 (List.mem_of_getElem? (i := 80) (by decide +kernel))) rfl
theorem wm_551 : Cond.methodLink RX5 115 yX4_markOf ∈ wsL_law := wm (wt_3 (List.mem_of_getElem? (i := 81) (by decide +kernel))) rfl
theorem wm_552 : Cond.methodLink RX5 123 yX4_put ∈ wsL_law := wm (wt_3 (List.mem_of_getElem? (i := 82) (by decide +kernel))) rfl
theorem wm_553 : Cond.methodLink RX5 41 yX5_takeLosersBack ∈ wsL_law := wm (wt_3 (List.mem_of_getElem? (i := 83) (by decide +kernel))) rfl
theorem wm_554 : Cond.instanceMethod yX5_takeLosersBack ∈ wsL_law := wm (wt_3 (List.mem_of_getElem? (i := 85) (by decide +kernel))) rfl
theorem wm_555 : Cond.selects RX5 yX5_takeLosersBack yX5_takeLosersBack ∈ wsL_law := wm (wp_1 (List.mem_of_getElem? (i := 7) (by decide +kernel))) rfl
theorem wm_556 : Cond.code yX5_takeLosersBack cX5_takeLosersBack 8 none ∈ wsL_law := wm (wt_3 (List.mem_of_getElem? (i := 86) (by decide +kernel))) rfl
theorem wm_557 : Cond.fieldLink RX5 60 "SealedGroups$Restarter" "writesTakenBack" "I" ∈ wsL_law := wm (wt_1 (List.mem_of_getElem? (i := 179) (by decide +kernel))) rfl
theorem wm_558 : Cond.methodLink RX5 130 yX5_noteTakenBack ∈ wsL_law := wm (wt_3 (List.mem_of_getElem? (i := 87) (by decide +kernel))) rfl
theorem wm_559 : Cond.instanceMethod yX5_noteTakenBack ∈ wsL_law := wm (wt_3 (List.mem_of_getElem? (i := 89) (by decide +kernel))) rfl
theorem wm_560 : Cond.selects RX5 yX5_noteTakenBack yX5_noteTakenBack ∈ wsL_law := wm (wp_1 (List.mem_of_getElem? (i := 8) (by decide +kernel))) rfl
theorem wm_561 : Cond.code yX5_noteTakenBack cX5_noteTakenBack 2 none ∈ wsL_law := wm (wt_3 (List.mem_of_getElem? (i := 90) (by decide +kernel))) rfl
theorem wm_562 : Cond.methodLink RX5 134 yX6_endGroup ∈ wsL_law := wm (wt_3 (List.mem_of_getElem? (i := 91) (by decide +kernel))) rfl
theorem wm_563 : Cond.methodLink RX5 137 yX5_isTakenBack ∈ wsL_law := wm (wt_3 (List.mem_of_getElem? (i := 92) (by decide +kernel))) rfl
theorem wm_564 : Cond.instanceMethod yX5_isTakenBack ∈ wsL_law := wm (wt_3 (List.mem_of_getElem? (i := 94) (by decide +kernel))) rfl
theorem wm_565 : Cond.selects RX5 yX5_isTakenBack yX5_isTakenBack ∈ wsL_law := wm (wp_1 (List.mem_of_getElem? (i := 9) (by decide +kernel))) rfl
theorem wm_566 : Cond.code yX5_isTakenBack cX5_isTakenBack 2 (some .boolean) ∈ wsL_law := wm (wt_3 (List.mem_of_getElem? (i := 95) (by decide +kernel))) rfl
theorem wm_567 : Cond.methodLink RX5 141 yX6_takeWriteBack ∈ wsL_law := wm (wt_3 (List.mem_of_getElem? (i := 96) (by decide +kernel))) rfl
theorem wm_568 : Cond.methodLink RX5 51 yX2_forceUpTo ∈ wsL_law := wm (wt_3 (List.mem_of_getElem? (i := 97) (by decide +kernel))) rfl
theorem wm_569 : Cond.methodLink RL 59 yX8_restart ∈ wsL_law := wm (wt_4 (List.mem_of_getElem? (i := 196) (by decide +kernel))) rfl
theorem wm_570 : Cond.instanceMethod yX8_restart ∈ wsL_law := wm (wt_4 (List.mem_of_getElem? (i := 197) (by decide +kernel))) rfl
theorem wm_571 : Cond.selects RX8 yX8_restart yX8_restart ∈ wsL_law := wm (wt_4 (List.mem_of_getElem? (i := 198) (by decide +kernel))) rfl
theorem wm_572 : Cond.code yX8_restart cX8_restart 1 (some .int) ∈ wsL_law := wm (wt_4 (List.mem_of_getElem? (i := 199) (by decide +kernel))) rfl
theorem wm_573 : Cond.methodLink RX8 142 yX8_restarts ∈ wsL_law := wm (wt_4 (List.mem_of_getElem? (i := 200) (by decide +kernel))) rfl
theorem wm_574 : Cond.instanceMethod yX8_restarts ∈ wsL_law := wm (wt_4 (List.mem_of_getElem? (i := 202) (by decide +kernel))) rfl
theorem wm_575 : Cond.selects RX8 yX8_restarts yX8_restarts ∈ wsL_law := wm (wp_3 (List.mem_of_getElem? (i := 11) (by decide +kernel))) rfl
theorem wm_576 : Cond.code yX8_restarts cX8_restarts 5 (some .int) ∈ wsL_law := wm (wt_4 (List.mem_of_getElem? (i := 203) (by decide +kernel))) rfl
theorem wm_577 : Cond.fieldLink RX8 133 "SealedGroupsModel" "losers" "I" ∈ wsL_law := wm (wt_4 (List.mem_of_getElem? (i := 6) (by decide +kernel))) rfl
theorem wm_578 : Cond.fieldLink RX8 139 "SealedGroupsModel" "taken" "I" ∈ wsL_law := wm (wt_4 (List.mem_of_getElem? (i := 7) (by decide +kernel))) rfl
theorem wm_579 : Cond.methodLink RX8 136 yX8_looks ∈ wsL_law := wm (wt_4 (List.mem_of_getElem? (i := 204) (by decide +kernel))) rfl
theorem wm_580 : Cond.instanceMethod yX8_looks ∈ wsL_law := wm (wt_4 (List.mem_of_getElem? (i := 206) (by decide +kernel))) rfl
theorem wm_581 : Cond.selects RX8 yX8_looks yX8_looks ∈ wsL_law := wm (wp_3 (List.mem_of_getElem? (i := 12) (by decide +kernel))) rfl
theorem wm_582 : Cond.code yX8_looks cX8_looks 4 none ∈ wsL_law := wm (wt_4 (List.mem_of_getElem? (i := 207) (by decide +kernel))) rfl
theorem wm_583 : Cond.methodLink RL 60 yX7_pageOf ∈ wsL_law := wm (wt_3 (List.mem_of_getElem? (i := 98) (by decide +kernel))) rfl
theorem wm_584 : Cond.instanceMethod yX7_pageOf ∈ wsL_law := wm (wt_3 (List.mem_of_getElem? (i := 99) (by decide +kernel))) rfl
theorem wm_585 : Cond.selects RX7 yX7_pageOf yX7_pageOf ∈ wsL_law := wm (wt_3 (List.mem_of_getElem? (i := 100) (by decide +kernel))) rfl
theorem wm_586 : Cond.code yX7_pageOf cX7_pageOf 3 (some .int) ∈ wsL_law := wm (wt_3 (List.mem_of_getElem? (i := 101) (by decide +kernel))) rfl
theorem wm_587 : Cond.constant RX7 84 (-1000001) ∈ wsL_law := wm (wt_3 (List.mem_of_getElem? (i := 102) (by decide +kernel))) rfl
theorem wm_588 : Cond.methodLink RX7 89 yX0_holderOf ∈ wsL_law := wm (wt_3 (List.mem_of_getElem? (i := 103) (by decide +kernel))) rfl
theorem wm_589 : Cond.methodLink RX7 98 yX2_settledValueOf ∈ wsL_law := wm (wt_3 (List.mem_of_getElem? (i := 104) (by decide +kernel))) rfl
theorem wm_590 : Cond.instanceMethod yX2_settledValueOf ∈ wsL_law := wm (wt_3 (List.mem_of_getElem? (i := 105) (by decide +kernel))) rfl
theorem wm_591 : Cond.selects RX2 yX2_settledValueOf yX2_settledValueOf ∈ wsL_law := wm (wt_3 (List.mem_of_getElem? (i := 106) (by decide +kernel))) rfl
theorem wm_592 : Cond.code yX2_settledValueOf cX2_settledValueOf 5 (some .int) ∈ wsL_law := wm (wt_3 (List.mem_of_getElem? (i := 107) (by decide +kernel))) rfl
theorem wm_593 : Cond.methodLink RX7 107 yX4_tell ∈ wsL_law := wm (wt_3 (List.mem_of_getElem? (i := 108) (by decide +kernel))) rfl
theorem wm_594 : Cond.instanceMethod yX4_tell ∈ wsL_law := wm (wt_3 (List.mem_of_getElem? (i := 109) (by decide +kernel))) rfl
theorem wm_595 : Cond.selects RX4 yX4_tell yX4_tell ∈ wsL_law := wm (wt_3 (List.mem_of_getElem? (i := 110) (by decide +kernel))) rfl
theorem wm_596 : Cond.code yX4_tell cX4_tell 3 (some .int) ∈ wsL_law := wm (wt_3 (List.mem_of_getElem? (i := 111) (by decide +kernel))) rfl
theorem wm_597 : Cond.constant RX4 47 (-1000001) ∈ wsL_law := wm (wt_3 (List.mem_of_getElem? (i := 112) (by decide +kernel))) rfl
theorem wm_598 : Cond.methodLink RX4 48 yX4_valueOf ∈ wsL_law := wm (wt_3 (List.mem_of_getElem? (i := 113) (by decide +kernel))) rfl
theorem wm_599 : Cond.methodLink RX4 52 yX4_markOf ∈ wsL_law := wm (wt_3 (List.mem_of_getElem? (i := 114) (by decide +kernel))) rfl
theorem wm_600 : Cond.methodLink RX4 55 yX4_startOf ∈ wsL_law := wm (wt_3 (List.mem_of_getElem? (i := 115) (by decide +kernel))) rfl
theorem wm_601 : Cond.instanceMethod yX4_startOf ∈ wsL_law := wm (wt_3 (List.mem_of_getElem? (i := 116) (by decide +kernel))) rfl
theorem wm_602 : Cond.selects RX4 yX4_startOf yX4_startOf ∈ wsL_law := wm (wt_3 (List.mem_of_getElem? (i := 117) (by decide +kernel))) rfl
theorem wm_603 : Cond.code yX4_startOf cX4_startOf 2 (some .int) ∈ wsL_law := wm (wt_3 (List.mem_of_getElem? (i := 118) (by decide +kernel))) rfl
theorem wm_604 : Cond.constant RX4 40 (-1000004) ∈ wsL_law := wm (wt_3 (List.mem_of_getElem? (i := 119) (by decide +kernel))) rfl
theorem wm_605 : Cond.methodLink RL 64 yX8_pageOf ∈ wsL_law := wm (wt_4 (List.mem_of_getElem? (i := 208) (by decide +kernel))) rfl
theorem wm_606 : Cond.instanceMethod yX8_pageOf ∈ wsL_law := wm (wt_4 (List.mem_of_getElem? (i := 209) (by decide +kernel))) rfl
theorem wm_607 : Cond.selects RX8 yX8_pageOf yX8_pageOf ∈ wsL_law := wm (wt_4 (List.mem_of_getElem? (i := 210) (by decide +kernel))) rfl
theorem wm_608 : Cond.code yX8_pageOf cX8_pageOf 3 (some .int) ∈ wsL_law := wm (wt_4 (List.mem_of_getElem? (i := 211) (by decide +kernel))) rfl
theorem wm_609 : Cond.methodLink RX8 148 yX8_settledValue ∈ wsL_law := wm (wt_4 (List.mem_of_getElem? (i := 212) (by decide +kernel))) rfl
theorem wm_610 : Cond.instanceMethod yX8_settledValue ∈ wsL_law := wm (wt_4 (List.mem_of_getElem? (i := 214) (by decide +kernel))) rfl
theorem wm_611 : Cond.selects RX8 yX8_settledValue yX8_settledValue ∈ wsL_law := wm (wp_3 (List.mem_of_getElem? (i := 13) (by decide +kernel))) rfl
theorem wm_612 : Cond.code yX8_settledValue cX8_settledValue 4 (some .int) ∈ wsL_law := wm (wt_4 (List.mem_of_getElem? (i := 215) (by decide +kernel))) rfl
theorem wm_613 : Cond.methodLink RX8 145 yX8_nextKind ∈ wsL_law := wm (wt_4 (List.mem_of_getElem? (i := 216) (by decide +kernel))) rfl
theorem wm_614 : Cond.instanceMethod yX8_nextKind ∈ wsL_law := wm (wt_4 (List.mem_of_getElem? (i := 218) (by decide +kernel))) rfl
theorem wm_615 : Cond.selects RX8 yX8_nextKind yX8_nextKind ∈ wsL_law := wm (wp_3 (List.mem_of_getElem? (i := 14) (by decide +kernel))) rfl
theorem wm_616 : Cond.code yX8_nextKind cX8_nextKind 5 (some .int) ∈ wsL_law := wm (wt_4 (List.mem_of_getElem? (i := 219) (by decide +kernel))) rfl
theorem wm_617 : Cond.methodLink RL 65 yX7_recordOf ∈ wsL_law := wm (wt_3 (List.mem_of_getElem? (i := 120) (by decide +kernel))) rfl
theorem wm_618 : Cond.instanceMethod yX7_recordOf ∈ wsL_law := wm (wt_3 (List.mem_of_getElem? (i := 121) (by decide +kernel))) rfl
theorem wm_619 : Cond.selects RX7 yX7_recordOf yX7_recordOf ∈ wsL_law := wm (wt_3 (List.mem_of_getElem? (i := 122) (by decide +kernel))) rfl
theorem wm_620 : Cond.code yX7_recordOf cX7_recordOf 3 (some .int) ∈ wsL_law := wm (wt_3 (List.mem_of_getElem? (i := 123) (by decide +kernel))) rfl
theorem wm_621 : Cond.methodLink RX7 113 yX2_tell ∈ wsL_law := wm (wt_3 (List.mem_of_getElem? (i := 124) (by decide +kernel))) rfl
theorem wm_622 : Cond.instanceMethod yX2_tell ∈ wsL_law := wm (wt_3 (List.mem_of_getElem? (i := 125) (by decide +kernel))) rfl
theorem wm_623 : Cond.selects RX2 yX2_tell yX2_tell ∈ wsL_law := wm (wt_3 (List.mem_of_getElem? (i := 126) (by decide +kernel))) rfl
theorem wm_624 : Cond.code yX2_tell cX2_tell 5 (some .int) ∈ wsL_law := wm (wt_3 (List.mem_of_getElem? (i := 127) (by decide +kernel))) rfl
theorem wm_625 : Cond.methodLink RL 68 yX8_recordOf ∈ wsL_law := wm (wt_4 (List.mem_of_getElem? (i := 220) (by decide +kernel))) rfl
theorem wm_626 : Cond.instanceMethod yX8_recordOf ∈ wsL_law := wm (wt_4 (List.mem_of_getElem? (i := 221) (by decide +kernel))) rfl
theorem wm_627 : Cond.selects RX8 yX8_recordOf yX8_recordOf ∈ wsL_law := wm (wt_4 (List.mem_of_getElem? (i := 222) (by decide +kernel))) rfl
theorem wm_628 : Cond.code yX8_recordOf cX8_recordOf 4 (some .int) ∈ wsL_law := wm (wt_4 (List.mem_of_getElem? (i := 223) (by decide +kernel))) rfl
theorem wm_629 : Cond.methodLink RX8 151 yX8_isRecord ∈ wsL_law := wm (wt_4 (List.mem_of_getElem? (i := 224) (by decide +kernel))) rfl
theorem wm_630 : Cond.instanceMethod yX8_isRecord ∈ wsL_law := wm (wt_4 (List.mem_of_getElem? (i := 226) (by decide +kernel))) rfl
theorem wm_631 : Cond.selects RX8 yX8_isRecord yX8_isRecord ∈ wsL_law := wm (wp_3 (List.mem_of_getElem? (i := 15) (by decide +kernel))) rfl
theorem wm_632 : Cond.code yX8_isRecord cX8_isRecord 2 (some .boolean) ∈ wsL_law := wm (wt_4 (List.mem_of_getElem? (i := 227) (by decide +kernel))) rfl
theorem wm_633 : Cond.methodLink RL 69 yX7_groupOf ∈ wsL_law := wm (wt_3 (List.mem_of_getElem? (i := 128) (by decide +kernel))) rfl
theorem wm_634 : Cond.instanceMethod yX7_groupOf ∈ wsL_law := wm (wt_3 (List.mem_of_getElem? (i := 129) (by decide +kernel))) rfl
theorem wm_635 : Cond.selects RX7 yX7_groupOf yX7_groupOf ∈ wsL_law := wm (wt_3 (List.mem_of_getElem? (i := 130) (by decide +kernel))) rfl
theorem wm_636 : Cond.code yX7_groupOf cX7_groupOf 3 (some .int) ∈ wsL_law := wm (wt_3 (List.mem_of_getElem? (i := 131) (by decide +kernel))) rfl
theorem wm_637 : Cond.methodLink RX7 114 yX0_tell ∈ wsL_law := wm (wt_3 (List.mem_of_getElem? (i := 132) (by decide +kernel))) rfl
theorem wm_638 : Cond.instanceMethod yX0_tell ∈ wsL_law := wm (wt_3 (List.mem_of_getElem? (i := 133) (by decide +kernel))) rfl
theorem wm_639 : Cond.selects RX0 yX0_tell yX0_tell ∈ wsL_law := wm (wt_3 (List.mem_of_getElem? (i := 134) (by decide +kernel))) rfl
theorem wm_640 : Cond.code yX0_tell cX0_tell 3 (some .int) ∈ wsL_law := wm (wt_3 (List.mem_of_getElem? (i := 135) (by decide +kernel))) rfl
theorem wm_641 : Cond.methodLink RX0 32 yX0_isOpen ∈ wsL_law := wm (wt_3 (List.mem_of_getElem? (i := 136) (by decide +kernel))) rfl
theorem wm_642 : Cond.methodLink RX0 36 yX0_beginOf ∈ wsL_law := wm (wt_3 (List.mem_of_getElem? (i := 137) (by decide +kernel))) rfl
theorem wm_643 : Cond.methodLink RX0 40 yX0_writesOf ∈ wsL_law := wm (wt_3 (List.mem_of_getElem? (i := 138) (by decide +kernel))) rfl
theorem wm_644 : Cond.methodLink RX0 43 yX0_heldBy ∈ wsL_law := wm (wt_3 (List.mem_of_getElem? (i := 139) (by decide +kernel))) rfl
theorem wm_645 : Cond.methodLink RL 72 yX8_groupOf ∈ wsL_law := wm (wt_4 (List.mem_of_getElem? (i := 228) (by decide +kernel))) rfl
theorem wm_646 : Cond.instanceMethod yX8_groupOf ∈ wsL_law := wm (wt_4 (List.mem_of_getElem? (i := 229) (by decide +kernel))) rfl
theorem wm_647 : Cond.selects RX8 yX8_groupOf yX8_groupOf ∈ wsL_law := wm (wt_4 (List.mem_of_getElem? (i := 230) (by decide +kernel))) rfl
theorem wm_648 : Cond.code yX8_groupOf cX8_groupOf 3 (some .int) ∈ wsL_law := wm (wt_4 (List.mem_of_getElem? (i := 231) (by decide +kernel))) rfl
theorem wm_649 : Cond.methodLink RL 73 yX7_would ∈ wsL_law := wm (wt_3 (List.mem_of_getElem? (i := 140) (by decide +kernel))) rfl
theorem wm_650 : Cond.instanceMethod yX7_would ∈ wsL_law := wm (wt_3 (List.mem_of_getElem? (i := 141) (by decide +kernel))) rfl
theorem wm_651 : Cond.selects RX7 yX7_would yX7_would ∈ wsL_law := wm (wt_3 (List.mem_of_getElem? (i := 142) (by decide +kernel))) rfl
theorem wm_652 : Cond.code yX7_would cX7_would 5 (some .int) ∈ wsL_law := wm (wt_3 (List.mem_of_getElem? (i := 143) (by decide +kernel))) rfl
theorem wm_653 : Cond.constant RX7 119 (-1000002) ∈ wsL_law := wm (wt_3 (List.mem_of_getElem? (i := 144) (by decide +kernel))) rfl
theorem wm_654 : Cond.methodLink RX7 120 yX6_copyFrom ∈ wsL_law := wm (wt_3 (List.mem_of_getElem? (i := 145) (by decide +kernel))) rfl
theorem wm_655 : Cond.methodLink RX7 123 yX4_valueOf ∈ wsL_law := wm (wt_3 (List.mem_of_getElem? (i := 146) (by decide +kernel))) rfl
theorem wm_656 : Cond.methodLink RX7 126 yX5_tell ∈ wsL_law := wm (wt_3 (List.mem_of_getElem? (i := 147) (by decide +kernel))) rfl
theorem wm_657 : Cond.instanceMethod yX5_tell ∈ wsL_law := wm (wt_3 (List.mem_of_getElem? (i := 148) (by decide +kernel))) rfl
theorem wm_658 : Cond.selects RX5 yX5_tell yX5_tell ∈ wsL_law := wm (wt_3 (List.mem_of_getElem? (i := 149) (by decide +kernel))) rfl
theorem wm_659 : Cond.code yX5_tell cX5_tell 2 (some .int) ∈ wsL_law := wm (wt_3 (List.mem_of_getElem? (i := 150) (by decide +kernel))) rfl
theorem wm_660 : Cond.constant RX5 69 (-1000004) ∈ wsL_law := wm (wt_3 (List.mem_of_getElem? (i := 151) (by decide +kernel))) rfl
theorem wm_661 : Cond.methodLink RL 76 yX8_would ∈ wsL_law := wm (wt_4 (List.mem_of_getElem? (i := 232) (by decide +kernel))) rfl
theorem wm_662 : Cond.instanceMethod yX8_would ∈ wsL_law := wm (wt_4 (List.mem_of_getElem? (i := 233) (by decide +kernel))) rfl
theorem wm_663 : Cond.selects RX8 yX8_would yX8_would ∈ wsL_law := wm (wt_4 (List.mem_of_getElem? (i := 234) (by decide +kernel))) rfl
theorem wm_664 : Cond.code yX8_would cX8_would 8 (some .int) ∈ wsL_law := wm (wt_4 (List.mem_of_getElem? (i := 235) (by decide +kernel))) rfl
theorem wm_665 : Cond.methodLink RX8 154 yX8_copies ∈ wsL_law := wm (wt_4 (List.mem_of_getElem? (i := 236) (by decide +kernel))) rfl
theorem wm_666 : Cond.static yX8_copies ∈ wsL_law := wm (wt_4 (List.mem_of_getElem? (i := 237) (by decide +kernel))) rfl
theorem wm_667 : Cond.code yX8_copies cX8_copies 3 none ∈ wsL_law := wm (wt_4 (List.mem_of_getElem? (i := 238) (by decide +kernel))) rfl
theorem wm_668 : Cond.methodLink RL 77 yX7_count ∈ wsL_law := wm (wt_3 (List.mem_of_getElem? (i := 152) (by decide +kernel))) rfl
theorem wm_669 : Cond.instanceMethod yX7_count ∈ wsL_law := wm (wt_3 (List.mem_of_getElem? (i := 153) (by decide +kernel))) rfl
theorem wm_670 : Cond.selects RX7 yX7_count yX7_count ∈ wsL_law := wm (wt_3 (List.mem_of_getElem? (i := 154) (by decide +kernel))) rfl
theorem wm_671 : Cond.code yX7_count cX7_count 2 (some .int) ∈ wsL_law := wm (wt_3 (List.mem_of_getElem? (i := 155) (by decide +kernel))) rfl
theorem wm_672 : Cond.methodLink RX7 147 yX2_tellNumber ∈ wsL_law := wm (wt_3 (List.mem_of_getElem? (i := 156) (by decide +kernel))) rfl
theorem wm_673 : Cond.methodLink RL 80 yX8_count ∈ wsL_law := wm (wt_4 (List.mem_of_getElem? (i := 239) (by decide +kernel))) rfl
theorem wm_674 : Cond.instanceMethod yX8_count ∈ wsL_law := wm (wt_5 (List.mem_of_getElem? (i := 0) (by decide +kernel))) rfl
theorem wm_675 : Cond.selects RX8 yX8_count yX8_count ∈ wsL_law := wm (wt_5 (List.mem_of_getElem? (i := 1) (by decide +kernel))) rfl
theorem wm_676 : Cond.code yX8_count cX8_count 2 (some .int) ∈ wsL_law := wm (wt_5 (List.mem_of_getElem? (i := 2) (by decide +kernel))) rfl
theorem wm_677 : Cond.fieldLink RX8 158 "SealedGroupsModel" "typed" "I" ∈ wsL_law := wm (wt_4 (List.mem_of_getElem? (i := 4) (by decide +kernel))) rfl
theorem wm_678 : Cond.methodLink RL 81 yX7_undo ∈ wsL_law := wm (wt_3 (List.mem_of_getElem? (i := 157) (by decide +kernel))) rfl
theorem wm_679 : Cond.instanceMethod yX7_undo ∈ wsL_law := wm (wt_3 (List.mem_of_getElem? (i := 158) (by decide +kernel))) rfl
theorem wm_680 : Cond.selects RX7 yX7_undo yX7_undo ∈ wsL_law := wm (wt_3 (List.mem_of_getElem? (i := 159) (by decide +kernel))) rfl
theorem wm_681 : Cond.code yX7_undo cX7_undo 1 (some .int) ∈ wsL_law := wm (wt_3 (List.mem_of_getElem? (i := 160) (by decide +kernel))) rfl
theorem wm_682 : Cond.methodLink RX7 150 yX1_restoreLatest ∈ wsL_law := wm (wt_3 (List.mem_of_getElem? (i := 161) (by decide +kernel))) rfl
theorem wm_683 : Cond.instanceMethod yX1_restoreLatest ∈ wsL_law := wm (wt_3 (List.mem_of_getElem? (i := 162) (by decide +kernel))) rfl
theorem wm_684 : Cond.selects RX1 yX1_restoreLatest yX1_restoreLatest ∈ wsL_law := wm (wt_3 (List.mem_of_getElem? (i := 163) (by decide +kernel))) rfl
theorem wm_685 : Cond.code yX1_restoreLatest cX1_restoreLatest 3 (some .int) ∈ wsL_law := wm (wt_3 (List.mem_of_getElem? (i := 164) (by decide +kernel))) rfl
theorem wm_686 : Cond.constant RX1 39 (-1000002) ∈ wsL_law := wm (wt_3 (List.mem_of_getElem? (i := 165) (by decide +kernel))) rfl
theorem wm_687 : Cond.methodLink RL 84 yX8_undo ∈ wsL_law := wm (wt_5 (List.mem_of_getElem? (i := 3) (by decide +kernel))) rfl
theorem wm_688 : Cond.instanceMethod yX8_undo ∈ wsL_law := wm (wt_5 (List.mem_of_getElem? (i := 4) (by decide +kernel))) rfl
theorem wm_689 : Cond.selects RX8 yX8_undo yX8_undo ∈ wsL_law := wm (wt_5 (List.mem_of_getElem? (i := 5) (by decide +kernel))) rfl
theorem wm_690 : Cond.code yX8_undo cX8_undo 2 (some .int) ∈ wsL_law := wm (wt_5 (List.mem_of_getElem? (i := 6) (by decide +kernel))) rfl
theorem wm_691 : Cond.methodLink RL 85 yX7_type ∈ wsL_law := wm (wt_3 (List.mem_of_getElem? (i := 166) (by decide +kernel))) rfl
theorem wm_692 : Cond.instanceMethod yX7_type ∈ wsL_law := wm (wt_3 (List.mem_of_getElem? (i := 167) (by decide +kernel))) rfl
theorem wm_693 : Cond.selects RX7 yX7_type yX7_type ∈ wsL_law := wm (wt_3 (List.mem_of_getElem? (i := 168) (by decide +kernel))) rfl
theorem wm_694 : Cond.code yX7_type cX7_type 2 (some .int) ∈ wsL_law := wm (wt_3 (List.mem_of_getElem? (i := 169) (by decide +kernel))) rfl
theorem wm_695 : Cond.methodLink RX7 153 yX3_append ∈ wsL_law := wm (wt_3 (List.mem_of_getElem? (i := 170) (by decide +kernel))) rfl
theorem wm_696 : Cond.instanceMethod yX3_append ∈ wsL_law := wm (wt_3 (List.mem_of_getElem? (i := 171) (by decide +kernel))) rfl
theorem wm_697 : Cond.selects RX3 yX3_append yX3_append ∈ wsL_law := wm (wt_3 (List.mem_of_getElem? (i := 172) (by decide +kernel))) rfl
theorem wm_698 : Cond.code yX3_append cX3_append 2 (some .int) ∈ wsL_law := wm (wt_3 (List.mem_of_getElem? (i := 173) (by decide +kernel))) rfl
theorem wm_699 : Cond.fieldLink RX3 15 "SealedGroups$OrderText" "length" "I" ∈ wsL_law := wm (wt_1 (List.mem_of_getElem? (i := 220) (by decide +kernel))) rfl
theorem wm_700 : Cond.constant RX3 19 (-1000003) ∈ wsL_law := wm (wt_3 (List.mem_of_getElem? (i := 174) (by decide +kernel))) rfl
theorem wm_701 : Cond.methodLink RL 88 yX8_type ∈ wsL_law := wm (wt_5 (List.mem_of_getElem? (i := 7) (by decide +kernel))) rfl
theorem wm_702 : Cond.instanceMethod yX8_type ∈ wsL_law := wm (wt_5 (List.mem_of_getElem? (i := 8) (by decide +kernel))) rfl
theorem wm_703 : Cond.selects RX8 yX8_type yX8_type ∈ wsL_law := wm (wt_5 (List.mem_of_getElem? (i := 9) (by decide +kernel))) rfl
theorem wm_704 : Cond.code yX8_type cX8_type 2 (some .int) ∈ wsL_law := wm (wt_5 (List.mem_of_getElem? (i := 10) (by decide +kernel))) rfl
theorem wm_705 : Cond.methodLink RL 89 yX7_clearText ∈ wsL_law := wm (wt_3 (List.mem_of_getElem? (i := 175) (by decide +kernel))) rfl
theorem wm_706 : Cond.instanceMethod yX7_clearText ∈ wsL_law := wm (wt_3 (List.mem_of_getElem? (i := 176) (by decide +kernel))) rfl
theorem wm_707 : Cond.selects RX7 yX7_clearText yX7_clearText ∈ wsL_law := wm (wt_3 (List.mem_of_getElem? (i := 177) (by decide +kernel))) rfl
theorem wm_708 : Cond.code yX7_clearText cX7_clearText 1 (some .int) ∈ wsL_law := wm (wt_3 (List.mem_of_getElem? (i := 178) (by decide +kernel))) rfl
theorem wm_709 : Cond.methodLink RX7 157 yX3_empty ∈ wsL_law := wm (wt_3 (List.mem_of_getElem? (i := 179) (by decide +kernel))) rfl
theorem wm_710 : Cond.instanceMethod yX3_empty ∈ wsL_law := wm (wt_3 (List.mem_of_getElem? (i := 180) (by decide +kernel))) rfl
theorem wm_711 : Cond.selects RX3 yX3_empty yX3_empty ∈ wsL_law := wm (wt_3 (List.mem_of_getElem? (i := 181) (by decide +kernel))) rfl
theorem wm_712 : Cond.code yX3_empty cX3_empty 2 (some .int) ∈ wsL_law := wm (wt_3 (List.mem_of_getElem? (i := 182) (by decide +kernel))) rfl
theorem wm_713 : Cond.methodLink RL 92 yX8_clearText ∈ wsL_law := wm (wt_5 (List.mem_of_getElem? (i := 11) (by decide +kernel))) rfl
theorem wm_714 : Cond.instanceMethod yX8_clearText ∈ wsL_law := wm (wt_5 (List.mem_of_getElem? (i := 12) (by decide +kernel))) rfl
theorem wm_715 : Cond.selects RX8 yX8_clearText yX8_clearText ∈ wsL_law := wm (wt_5 (List.mem_of_getElem? (i := 13) (by decide +kernel))) rfl
theorem wm_716 : Cond.code yX8_clearText cX8_clearText 2 (some .int) ∈ wsL_law := wm (wt_5 (List.mem_of_getElem? (i := 14) (by decide +kernel))) rfl
theorem wm_717 : Cond.methodLink RL 93 yX7_fault ∈ wsL_law := wm (wt_3 (List.mem_of_getElem? (i := 183) (by decide +kernel))) rfl
theorem wm_718 : Cond.instanceMethod yX7_fault ∈ wsL_law := wm (wt_3 (List.mem_of_getElem? (i := 184) (by decide +kernel))) rfl
theorem wm_719 : Cond.selects RX7 yX7_fault yX7_fault ∈ wsL_law := wm (wt_3 (List.mem_of_getElem? (i := 185) (by decide +kernel))) rfl
theorem wm_720 : Cond.code yX7_fault cX7_fault 2 (some .int) ∈ wsL_law := wm (wt_3 (List.mem_of_getElem? (i := 186) (by decide +kernel))) rfl
theorem wm_721 : Cond.fieldLink RX7 163 "SealedGroups" "faultReason" "I" ∈ wsL_law := wm (wt_2 (List.mem_of_getElem? (i := 18) (by decide +kernel))) rfl
theorem wm_722 : Cond.constant RX7 166 (-1000004) ∈ wsL_law := wm (wt_3 (List.mem_of_getElem? (i := 226) (by decide +kernel))) rfl
theorem wm_723 : Cond.fieldLink RX7 167 "SealedGroups" "faultPosition" "I" ∈ wsL_law := wm (wt_2 (List.mem_of_getElem? (i := 17) (by decide +kernel))) rfl
theorem wm_724 : Cond.methodLink RX7 160 yX7_tryText ∈ wsL_law := wm (wt_3 (List.mem_of_getElem? (i := 187) (by decide +kernel))) rfl
theorem wm_725 : Cond.instanceMethod yX7_tryText ∈ wsL_law := wm (wt_3 (List.mem_of_getElem? (i := 189) (by decide +kernel))) rfl
theorem wm_726 : Cond.selects RX7 yX7_tryText yX7_tryText ∈ wsL_law := wm (wp_1 (List.mem_of_getElem? (i := 10) (by decide +kernel))) rfl
theorem wm_727 : Cond.code yX7_tryText cX7_tryText 2 none ∈ wsL_law := wm (wt_3 (List.mem_of_getElem? (i := 190) (by decide +kernel))) rfl
theorem wm_728 : Cond.fieldLink RX7 173 "SealedGroups" "ordersDone" "I" ∈ wsL_law := wm (wt_2 (List.mem_of_getElem? (i := 19) (by decide +kernel))) rfl
theorem wm_729 : Cond.methodLink RX7 179 yX3_readOrder ∈ wsL_law := wm (wt_3 (List.mem_of_getElem? (i := 191) (by decide +kernel))) rfl
theorem wm_730 : Cond.instanceMethod yX3_readOrder ∈ wsL_law := wm (wt_3 (List.mem_of_getElem? (i := 192) (by decide +kernel))) rfl
theorem wm_731 : Cond.selects RX3 yX3_readOrder yX3_readOrder ∈ wsL_law := wm (wt_3 (List.mem_of_getElem? (i := 193) (by decide +kernel))) rfl
theorem wm_732 : Cond.code yX3_readOrder cX3_readOrder 2 (some .boolean) ∈ wsL_law := wm (wt_3 (List.mem_of_getElem? (i := 194) (by decide +kernel))) rfl
theorem wm_733 : Cond.fieldLink RX3 20 "SealedGroups$OrderText" "next" "I" ∈ wsL_law := wm (wt_1 (List.mem_of_getElem? (i := 222) (by decide +kernel))) rfl
theorem wm_734 : Cond.fieldLink RX3 34 "SealedGroups$OrderText" "brokenAt" "I" ∈ wsL_law := wm (wt_1 (List.mem_of_getElem? (i := 232) (by decide +kernel))) rfl
theorem wm_735 : Cond.methodLink RX3 23 yX3_readLetter ∈ wsL_law := wm (wt_3 (List.mem_of_getElem? (i := 195) (by decide +kernel))) rfl
theorem wm_736 : Cond.instanceMethod yX3_readLetter ∈ wsL_law := wm (wt_3 (List.mem_of_getElem? (i := 197) (by decide +kernel))) rfl
theorem wm_737 : Cond.selects RX3 yX3_readLetter yX3_readLetter ∈ wsL_law := wm (wp_1 (List.mem_of_getElem? (i := 11) (by decide +kernel))) rfl
theorem wm_738 : Cond.code yX3_readLetter cX3_readLetter 1 (some .boolean) ∈ wsL_law := wm (wt_3 (List.mem_of_getElem? (i := 198) (by decide +kernel))) rfl
theorem wm_739 : Cond.fieldLink RX3 41 "SealedGroups$OrderText" "letter" "I" ∈ wsL_law := wm (wt_1 (List.mem_of_getElem? (i := 224) (by decide +kernel))) rfl
theorem wm_740 : Cond.methodLink RX3 37 yX3_sign ∈ wsL_law := wm (wt_3 (List.mem_of_getElem? (i := 199) (by decide +kernel))) rfl
theorem wm_741 : Cond.instanceMethod yX3_sign ∈ wsL_law := wm (wt_3 (List.mem_of_getElem? (i := 201) (by decide +kernel))) rfl
theorem wm_742 : Cond.selects RX3 yX3_sign yX3_sign ∈ wsL_law := wm (wp_1 (List.mem_of_getElem? (i := 12) (by decide +kernel))) rfl
theorem wm_743 : Cond.code yX3_sign cX3_sign 1 (some .int) ∈ wsL_law := wm (wt_3 (List.mem_of_getElem? (i := 202) (by decide +kernel))) rfl
theorem wm_744 : Cond.methodLink RX3 27 yX3_readArguments ∈ wsL_law := wm (wt_3 (List.mem_of_getElem? (i := 203) (by decide +kernel))) rfl
theorem wm_745 : Cond.instanceMethod yX3_readArguments ∈ wsL_law := wm (wt_3 (List.mem_of_getElem? (i := 205) (by decide +kernel))) rfl
theorem wm_746 : Cond.selects RX3 yX3_readArguments yX3_readArguments ∈ wsL_law := wm (wp_1 (List.mem_of_getElem? (i := 13) (by decide +kernel))) rfl
theorem wm_747 : Cond.code yX3_readArguments cX3_readArguments 1 (some .boolean) ∈ wsL_law := wm (wt_3 (List.mem_of_getElem? (i := 206) (by decide +kernel))) rfl
theorem wm_748 : Cond.fieldLink RX3 47 "SealedGroups$OrderText" "number" "I" ∈ wsL_law := wm (wt_1 (List.mem_of_getElem? (i := 226) (by decide +kernel))) rfl
theorem wm_749 : Cond.fieldLink RX3 50 "SealedGroups$OrderText" "page" "I" ∈ wsL_law := wm (wt_1 (List.mem_of_getElem? (i := 228) (by decide +kernel))) rfl
theorem wm_750 : Cond.methodLink RX3 44 yX3_readDigit ∈ wsL_law := wm (wt_3 (List.mem_of_getElem? (i := 207) (by decide +kernel))) rfl
theorem wm_751 : Cond.instanceMethod yX3_readDigit ∈ wsL_law := wm (wt_3 (List.mem_of_getElem? (i := 209) (by decide +kernel))) rfl
theorem wm_752 : Cond.selects RX3 yX3_readDigit yX3_readDigit ∈ wsL_law := wm (wp_1 (List.mem_of_getElem? (i := 14) (by decide +kernel))) rfl
theorem wm_753 : Cond.code yX3_readDigit cX3_readDigit 2 (some .int) ∈ wsL_law := wm (wt_3 (List.mem_of_getElem? (i := 210) (by decide +kernel))) rfl
theorem wm_754 : Cond.methodLink RX3 30 yX3_readSign ∈ wsL_law := wm (wt_3 (List.mem_of_getElem? (i := 211) (by decide +kernel))) rfl
theorem wm_755 : Cond.instanceMethod yX3_readSign ∈ wsL_law := wm (wt_3 (List.mem_of_getElem? (i := 213) (by decide +kernel))) rfl
theorem wm_756 : Cond.selects RX3 yX3_readSign yX3_readSign ∈ wsL_law := wm (wp_1 (List.mem_of_getElem? (i := 15) (by decide +kernel))) rfl
theorem wm_757 : Cond.code yX3_readSign cX3_readSign 2 (some .boolean) ∈ wsL_law := wm (wt_3 (List.mem_of_getElem? (i := 214) (by decide +kernel))) rfl
theorem wm_758 : Cond.methodLink RX3 53 yX3_readValue ∈ wsL_law := wm (wt_3 (List.mem_of_getElem? (i := 215) (by decide +kernel))) rfl
theorem wm_759 : Cond.instanceMethod yX3_readValue ∈ wsL_law := wm (wt_3 (List.mem_of_getElem? (i := 217) (by decide +kernel))) rfl
theorem wm_760 : Cond.selects RX3 yX3_readValue yX3_readValue ∈ wsL_law := wm (wp_2 (List.mem_of_getElem? (i := 0) (by decide +kernel))) rfl
theorem wm_761 : Cond.code yX3_readValue cX3_readValue 2 (some .boolean) ∈ wsL_law := wm (wt_3 (List.mem_of_getElem? (i := 218) (by decide +kernel))) rfl
theorem wm_762 : Cond.fieldLink RX3 56 "SealedGroups$OrderText" "value" "I" ∈ wsL_law := wm (wt_1 (List.mem_of_getElem? (i := 230) (by decide +kernel))) rfl
theorem wm_763 : Cond.methodLink RX7 183 yX7_doOrder ∈ wsL_law := wm (wt_3 (List.mem_of_getElem? (i := 219) (by decide +kernel))) rfl
theorem wm_764 : Cond.instanceMethod yX7_doOrder ∈ wsL_law := wm (wt_3 (List.mem_of_getElem? (i := 221) (by decide +kernel))) rfl
theorem wm_765 : Cond.selects RX7 yX7_doOrder yX7_doOrder ∈ wsL_law := wm (wp_2 (List.mem_of_getElem? (i := 1) (by decide +kernel))) rfl
theorem wm_766 : Cond.code yX7_doOrder cX7_doOrder 1 (some .int) ∈ wsL_law := wm (wt_3 (List.mem_of_getElem? (i := 222) (by decide +kernel))) rfl
theorem wm_767 : Cond.methodLink RX7 186 yX7_reasonOf ∈ wsL_law := wm (wt_3 (List.mem_of_getElem? (i := 223) (by decide +kernel))) rfl
theorem wm_768 : Cond.static yX7_reasonOf ∈ wsL_law := wm (wt_3 (List.mem_of_getElem? (i := 224) (by decide +kernel))) rfl
theorem wm_769 : Cond.code yX7_reasonOf cX7_reasonOf 1 (some .int) ∈ wsL_law := wm (wt_3 (List.mem_of_getElem? (i := 225) (by decide +kernel))) rfl
theorem wm_770 : Cond.methodLink RL 96 yX8_fault ∈ wsL_law := wm (wt_5 (List.mem_of_getElem? (i := 15) (by decide +kernel))) rfl
theorem wm_771 : Cond.instanceMethod yX8_fault ∈ wsL_law := wm (wt_5 (List.mem_of_getElem? (i := 16) (by decide +kernel))) rfl
theorem wm_772 : Cond.selects RX8 yX8_fault yX8_fault ∈ wsL_law := wm (wt_5 (List.mem_of_getElem? (i := 17) (by decide +kernel))) rfl
theorem wm_773 : Cond.code yX8_fault cX8_fault 3 (some .int) ∈ wsL_law := wm (wt_5 (List.mem_of_getElem? (i := 18) (by decide +kernel))) rfl
theorem wm_774 : Cond.fieldLink RX8 196 "SealedGroupsModel" "reason" "I" ∈ wsL_law := wm (wt_4 (List.mem_of_getElem? (i := 9) (by decide +kernel))) rfl
theorem wm_775 : Cond.fieldLink RX8 205 "SealedGroupsModel" "cause" "I" ∈ wsL_law := wm (wt_4 (List.mem_of_getElem? (i := 10) (by decide +kernel))) rfl
theorem wm_776 : Cond.methodLink RX8 211 yX8_plays ∈ wsL_law := wm (wt_5 (List.mem_of_getElem? (i := 19) (by decide +kernel))) rfl
theorem wm_777 : Cond.instanceMethod yX8_plays ∈ wsL_law := wm (wt_5 (List.mem_of_getElem? (i := 21) (by decide +kernel))) rfl
theorem wm_778 : Cond.selects RX8 yX8_plays yX8_plays ∈ wsL_law := wm (wp_4 (List.mem_of_getElem? (i := 0) (by decide +kernel))) rfl
theorem wm_779 : Cond.code yX8_plays cX8_plays 5 (some .int) ∈ wsL_law := wm (wt_5 (List.mem_of_getElem? (i := 22) (by decide +kernel))) rfl
theorem wm_780 : Cond.fieldLink RX8 161 "SealedGroupsModel" "spot" "I" ∈ wsL_law := wm (wt_4 (List.mem_of_getElem? (i := 8) (by decide +kernel))) rfl
theorem wm_781 : Cond.fieldLink RX8 199 "SealedGroupsModel" "orders" "I" ∈ wsL_law := wm (wt_4 (List.mem_of_getElem? (i := 11) (by decide +kernel))) rfl
theorem wm_782 : Cond.methodLink RX8 202 yX8_isForm ∈ wsL_law := wm (wt_5 (List.mem_of_getElem? (i := 23) (by decide +kernel))) rfl
theorem wm_783 : Cond.instanceMethod yX8_isForm ∈ wsL_law := wm (wt_5 (List.mem_of_getElem? (i := 25) (by decide +kernel))) rfl
theorem wm_784 : Cond.selects RX8 yX8_isForm yX8_isForm ∈ wsL_law := wm (wp_4 (List.mem_of_getElem? (i := 1) (by decide +kernel))) rfl
theorem wm_785 : Cond.code yX8_isForm cX8_isForm 2 (some .boolean) ∈ wsL_law := wm (wt_5 (List.mem_of_getElem? (i := 26) (by decide +kernel))) rfl
theorem wm_786 : Cond.methodLink RX8 164 yX8_passes ∈ wsL_law := wm (wt_5 (List.mem_of_getElem? (i := 27) (by decide +kernel))) rfl
theorem wm_787 : Cond.instanceMethod yX8_passes ∈ wsL_law := wm (wt_5 (List.mem_of_getElem? (i := 29) (by decide +kernel))) rfl
theorem wm_788 : Cond.selects RX8 yX8_passes yX8_passes ∈ wsL_law := wm (wp_4 (List.mem_of_getElem? (i := 2) (by decide +kernel))) rfl
theorem wm_789 : Cond.code yX8_passes cX8_passes 3 (some .boolean) ∈ wsL_law := wm (wt_5 (List.mem_of_getElem? (i := 30) (by decide +kernel))) rfl
theorem wm_790 : Cond.methodLink RX8 167 yX8_number ∈ wsL_law := wm (wt_5 (List.mem_of_getElem? (i := 31) (by decide +kernel))) rfl
theorem wm_791 : Cond.instanceMethod yX8_number ∈ wsL_law := wm (wt_5 (List.mem_of_getElem? (i := 33) (by decide +kernel))) rfl
theorem wm_792 : Cond.selects RX8 yX8_number yX8_number ∈ wsL_law := wm (wp_4 (List.mem_of_getElem? (i := 3) (by decide +kernel))) rfl
theorem wm_793 : Cond.code yX8_number cX8_number 4 (some .boolean) ∈ wsL_law := wm (wt_5 (List.mem_of_getElem? (i := 34) (by decide +kernel))) rfl
theorem wm_794 : Cond.methodLink RX8 208 yX8_calls ∈ wsL_law := wm (wt_5 (List.mem_of_getElem? (i := 35) (by decide +kernel))) rfl
theorem wm_795 : Cond.instanceMethod yX8_calls ∈ wsL_law := wm (wt_5 (List.mem_of_getElem? (i := 37) (by decide +kernel))) rfl
theorem wm_796 : Cond.selects RX8 yX8_calls yX8_calls ∈ wsL_law := wm (wp_4 (List.mem_of_getElem? (i := 4) (by decide +kernel))) rfl
theorem wm_797 : Cond.code yX8_calls cX8_calls 2 (some .int) ∈ wsL_law := wm (wt_5 (List.mem_of_getElem? (i := 38) (by decide +kernel))) rfl
theorem wm_798 : Cond.methodLink RX8 171 yX8_begin ∈ wsL_law := wm (wt_5 (List.mem_of_getElem? (i := 39) (by decide +kernel))) rfl
theorem wm_799 : Cond.methodLink RX8 174 yX8_write ∈ wsL_law := wm (wt_5 (List.mem_of_getElem? (i := 40) (by decide +kernel))) rfl
theorem wm_800 : Cond.methodLink RX8 178 yX8_settle ∈ wsL_law := wm (wt_5 (List.mem_of_getElem? (i := 41) (by decide +kernel))) rfl
theorem wm_801 : Cond.methodLink RX8 181 yX8_takeBack ∈ wsL_law := wm (wt_5 (List.mem_of_getElem? (i := 42) (by decide +kernel))) rfl
theorem wm_802 : Cond.methodLink RX8 184 yX8_writeOut ∈ wsL_law := wm (wt_5 (List.mem_of_getElem? (i := 43) (by decide +kernel))) rfl
theorem wm_803 : Cond.methodLink RX8 187 yX8_checkpoint ∈ wsL_law := wm (wt_5 (List.mem_of_getElem? (i := 44) (by decide +kernel))) rfl
theorem wm_804 : Cond.methodLink RX8 190 yX8_stop ∈ wsL_law := wm (wt_5 (List.mem_of_getElem? (i := 45) (by decide +kernel))) rfl
theorem wm_805 : Cond.methodLink RX8 193 yX8_restart ∈ wsL_law := wm (wt_5 (List.mem_of_getElem? (i := 46) (by decide +kernel))) rfl
theorem wm_806 : Cond.methodLink RL 97 yX7_play ∈ wsL_law := wm (wt_3 (List.mem_of_getElem? (i := 227) (by decide +kernel))) rfl
theorem wm_807 : Cond.instanceMethod yX7_play ∈ wsL_law := wm (wt_3 (List.mem_of_getElem? (i := 228) (by decide +kernel))) rfl
theorem wm_808 : Cond.selects RX7 yX7_play yX7_play ∈ wsL_law := wm (wt_3 (List.mem_of_getElem? (i := 229) (by decide +kernel))) rfl
theorem wm_809 : Cond.code yX7_play cX7_play 1 (some .int) ∈ wsL_law := wm (wt_3 (List.mem_of_getElem? (i := 230) (by decide +kernel))) rfl
theorem wm_810 : Cond.methodLink RL 100 yX8_play ∈ wsL_law := wm (wt_5 (List.mem_of_getElem? (i := 47) (by decide +kernel))) rfl
theorem wm_811 : Cond.instanceMethod yX8_play ∈ wsL_law := wm (wt_5 (List.mem_of_getElem? (i := 48) (by decide +kernel))) rfl
theorem wm_812 : Cond.selects RX8 yX8_play yX8_play ∈ wsL_law := wm (wt_5 (List.mem_of_getElem? (i := 49) (by decide +kernel))) rfl
theorem wm_813 : Cond.code yX8_play cX8_play 2 (some .int) ∈ wsL_law := wm (wt_5 (List.mem_of_getElem? (i := 50) (by decide +kernel))) rfl
