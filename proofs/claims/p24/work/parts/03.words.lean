theorem wt_1 {w : Cond} (h : w ∈ tables_1_1) : w ∈ lw_tbl := List.mem_append_right _ (List.mem_append_left _ h)
theorem wt_2 {w : Cond} (h : w ∈ tables_1_2) : w ∈ lw_tbl := List.mem_append_right _ (List.mem_append_right _ (List.mem_append_left _ h))
theorem wt_3 {w : Cond} (h : w ∈ tables_1_3) : w ∈ lw_tbl := List.mem_append_right _ (List.mem_append_right _ (List.mem_append_right _ h))
theorem wpl_1 {q : MethodName × Nat} (h : q ∈ lw_privs_1) : q ∈ lw_privs := h
theorem wp_1 {w : Cond} (h : w ∈ k2_sels lw_privs_1) : w ∈ lw_tbl := by
  obtain ⟨q, hq, rfl⟩ := List.mem_map.mp h
  exact List.mem_append_left _ (List.mem_map.mpr ⟨q, wpl_1 hq, rfl⟩)
theorem wm_0 : Cond.classLink RL 52 RX7 ∈ wsL_law := wm (wt_1 (List.mem_of_getElem? (i := 12) (by decide +kernel))) rfl
theorem wm_1 : Cond.instantiable RX7 8 ∈ wsL_law := wm (wt_1 (List.mem_of_getElem? (i := 13) (by decide +kernel))) rfl
theorem wm_2 : Cond.initialized RX7 ∈ wsL_law := wm (wt_1 (List.mem_of_getElem? (i := 1) (by decide +kernel))) rfl
theorem wm_3 : Cond.arrayClass .int ∈ wsL_law := wm (wt_1 (List.mem_of_getElem? (i := 60) (by decide +kernel))) rfl
theorem wm_4 : Cond.arrayClass .long ∈ wsL_law := wm (wt_3 (List.mem_of_getElem? (i := 209) (by decide +kernel))) rfl
theorem wm_5 : Cond.constant RL 50 (-1000002) ∈ wsL_law := wm (wt_2 (List.mem_of_getElem? (i := 238) (by decide +kernel))) rfl
theorem wm_6 : Cond.constant RL 45 (10000000) ∈ wsL_law := wm (wt_2 (List.mem_of_getElem? (i := 237) (by decide +kernel))) rfl
theorem wm_7 : Cond.constant RL 115 (-1000001) ∈ wsL_law := wm (wt_3 (List.mem_of_getElem? (i := 197) (by decide +kernel))) rfl
theorem wm_8 : Cond.methodLink RL 133 yX7_init ∈ wsL_law := wm (wt_1 (List.mem_of_getElem? (i := 14) (by decide +kernel))) rfl
theorem wm_9 : Cond.instanceMethod yX7_init ∈ wsL_law := wm (wt_1 (List.mem_of_getElem? (i := 15) (by decide +kernel))) rfl
theorem wm_10 : Cond.code yX7_init cX7_init 1 none ∈ wsL_law := wm (wt_1 (List.mem_of_getElem? (i := 16) rfl)) rfl
theorem wm_11 : Cond.methodLink RX7 1 objectInit ∈ wsL_law := wm (wt_1 (List.mem_of_getElem? (i := 17) (by decide +kernel))) rfl
theorem wm_12 : Cond.instanceMethod objectInit ∈ wsL_law := wm (wt_1 (List.mem_of_getElem? (i := 18) (by decide +kernel))) rfl
theorem wm_13 : Cond.code objectInit ⟨#[0xb1]⟩ 1 none ∈ wsL_law := wm (wt_1 (List.mem_of_getElem? (i := 19) rfl)) rfl
theorem wm_14 : Cond.classLink RX7 7 RX6 ∈ wsL_law := wm (wt_1 (List.mem_of_getElem? (i := 20) (by decide +kernel))) rfl
theorem wm_15 : Cond.instantiable RX6 5 ∈ wsL_law := wm (wt_1 (List.mem_of_getElem? (i := 21) (by decide +kernel))) rfl
theorem wm_16 : Cond.initialized RX6 ∈ wsL_law := wm (wt_1 (List.mem_of_getElem? (i := 2) (by decide +kernel))) rfl
theorem wm_17 : Cond.fieldLink RX7 10 "SealedGroups" "now" "LSealedGroups$Store;" ∈ wsL_law := wm (wt_1 (List.mem_of_getElem? (i := 238) (by decide +kernel))) rfl
theorem wm_18 : Cond.fieldLink RX7 16 "SealedGroups" "trial" "LSealedGroups$Store;" ∈ wsL_law := wm (wt_1 (List.mem_of_getElem? (i := 239) (by decide +kernel))) rfl
theorem wm_19 : Cond.classLink RX7 19 RX5 ∈ wsL_law := wm (wt_1 (List.mem_of_getElem? (i := 167) (by decide +kernel))) rfl
theorem wm_20 : Cond.instantiable RX5 6 ∈ wsL_law := wm (wt_1 (List.mem_of_getElem? (i := 168) (by decide +kernel))) rfl
theorem wm_21 : Cond.initialized RX5 ∈ wsL_law := wm (wt_1 (List.mem_of_getElem? (i := 6) (by decide +kernel))) rfl
theorem wm_22 : Cond.fieldLink RX7 22 "SealedGroups" "restarter" "LSealedGroups$Restarter;" ∈ wsL_law := wm (wt_2 (List.mem_of_getElem? (i := 0) (by decide +kernel))) rfl
theorem wm_23 : Cond.classLink RX7 26 RX1 ∈ wsL_law := wm (wt_1 (List.mem_of_getElem? (i := 192) (by decide +kernel))) rfl
theorem wm_24 : Cond.instantiable RX1 3 ∈ wsL_law := wm (wt_1 (List.mem_of_getElem? (i := 193) (by decide +kernel))) rfl
theorem wm_25 : Cond.initialized RX1 ∈ wsL_law := wm (wt_1 (List.mem_of_getElem? (i := 7) (by decide +kernel))) rfl
theorem wm_26 : Cond.fieldLink RX7 29 "SealedGroups" "history" "LSealedGroups$History;" ∈ wsL_law := wm (wt_2 (List.mem_of_getElem? (i := 1) (by decide +kernel))) rfl
theorem wm_27 : Cond.classLink RX7 33 RX3 ∈ wsL_law := wm (wt_1 (List.mem_of_getElem? (i := 212) (by decide +kernel))) rfl
theorem wm_28 : Cond.instantiable RX3 8 ∈ wsL_law := wm (wt_1 (List.mem_of_getElem? (i := 213) (by decide +kernel))) rfl
theorem wm_29 : Cond.initialized RX3 ∈ wsL_law := wm (wt_1 (List.mem_of_getElem? (i := 8) (by decide +kernel))) rfl
theorem wm_30 : Cond.fieldLink RX7 36 "SealedGroups" "text" "LSealedGroups$OrderText;" ∈ wsL_law := wm (wt_2 (List.mem_of_getElem? (i := 2) (by decide +kernel))) rfl
theorem wm_31 : Cond.instanceMethod yX6_init ∈ wsL_law := wm (wt_1 (List.mem_of_getElem? (i := 23) (by decide +kernel))) rfl
theorem wm_32 : Cond.code yX6_init cX6_init 1 none ∈ wsL_law := wm (wt_1 (List.mem_of_getElem? (i := 24) rfl)) rfl
theorem wm_33 : Cond.methodLink RX6 3 objectInit ∈ wsL_law := wm (wt_1 (List.mem_of_getElem? (i := 25) (by decide +kernel))) rfl
theorem wm_34 : Cond.classLink RX6 9 RX4 ∈ wsL_law := wm (wt_1 (List.mem_of_getElem? (i := 26) (by decide +kernel))) rfl
theorem wm_35 : Cond.instantiable RX4 7 ∈ wsL_law := wm (wt_1 (List.mem_of_getElem? (i := 27) (by decide +kernel))) rfl
theorem wm_36 : Cond.initialized RX4 ∈ wsL_law := wm (wt_1 (List.mem_of_getElem? (i := 3) (by decide +kernel))) rfl
theorem wm_37 : Cond.fieldLink RX6 12 "SealedGroups$Store" "pages" "LSealedGroups$Pages;" ∈ wsL_law := wm (wt_1 (List.mem_of_getElem? (i := 142) (by decide +kernel))) rfl
theorem wm_38 : Cond.classLink RX6 18 RX0 ∈ wsL_law := wm (wt_1 (List.mem_of_getElem? (i := 61) (by decide +kernel))) rfl
theorem wm_39 : Cond.instantiable RX0 4 ∈ wsL_law := wm (wt_1 (List.mem_of_getElem? (i := 62) (by decide +kernel))) rfl
theorem wm_40 : Cond.initialized RX0 ∈ wsL_law := wm (wt_1 (List.mem_of_getElem? (i := 4) (by decide +kernel))) rfl
theorem wm_41 : Cond.fieldLink RX6 21 "SealedGroups$Store" "groups" "LSealedGroups$Groups;" ∈ wsL_law := wm (wt_1 (List.mem_of_getElem? (i := 145) (by decide +kernel))) rfl
theorem wm_42 : Cond.classLink RX6 25 RX2 ∈ wsL_law := wm (wt_1 (List.mem_of_getElem? (i := 84) (by decide +kernel))) rfl
theorem wm_43 : Cond.instantiable RX2 12 ∈ wsL_law := wm (wt_1 (List.mem_of_getElem? (i := 85) (by decide +kernel))) rfl
theorem wm_44 : Cond.initialized RX2 ∈ wsL_law := wm (wt_1 (List.mem_of_getElem? (i := 5) (by decide +kernel))) rfl
theorem wm_45 : Cond.fieldLink RX6 28 "SealedGroups$Store" "journal" "LSealedGroups$Journal;" ∈ wsL_law := wm (wt_1 (List.mem_of_getElem? (i := 147) (by decide +kernel))) rfl
theorem wm_46 : Cond.instanceMethod yX4_init ∈ wsL_law := wm (wt_1 (List.mem_of_getElem? (i := 29) (by decide +kernel))) rfl
theorem wm_47 : Cond.code yX4_init cX4_init 1 none ∈ wsL_law := wm (wt_1 (List.mem_of_getElem? (i := 30) rfl)) rfl
theorem wm_48 : Cond.methodLink RX4 3 objectInit ∈ wsL_law := wm (wt_1 (List.mem_of_getElem? (i := 31) (by decide +kernel))) rfl
theorem wm_49 : Cond.fieldLink RX4 9 "SealedGroups$Pages" "diskValues" "[I" ∈ wsL_law := wm (wt_1 (List.mem_of_getElem? (i := 32) (by decide +kernel))) rfl
theorem wm_50 : Cond.fieldLink RX4 15 "SealedGroups$Pages" "diskMarks" "[I" ∈ wsL_law := wm (wt_1 (List.mem_of_getElem? (i := 33) (by decide +kernel))) rfl
theorem wm_51 : Cond.fieldLink RX4 18 "SealedGroups$Pages" "values" "[I" ∈ wsL_law := wm (wt_1 (List.mem_of_getElem? (i := 34) (by decide +kernel))) rfl
theorem wm_52 : Cond.fieldLink RX4 21 "SealedGroups$Pages" "marks" "[I" ∈ wsL_law := wm (wt_1 (List.mem_of_getElem? (i := 35) (by decide +kernel))) rfl
theorem wm_53 : Cond.fieldLink RX4 24 "SealedGroups$Pages" "starts" "[I" ∈ wsL_law := wm (wt_1 (List.mem_of_getElem? (i := 36) (by decide +kernel))) rfl
theorem wm_54 : Cond.instanceMethod yX0_init ∈ wsL_law := wm (wt_1 (List.mem_of_getElem? (i := 64) (by decide +kernel))) rfl
theorem wm_55 : Cond.code yX0_init cX0_init 1 none ∈ wsL_law := wm (wt_1 (List.mem_of_getElem? (i := 65) rfl)) rfl
theorem wm_56 : Cond.methodLink RX0 3 objectInit ∈ wsL_law := wm (wt_1 (List.mem_of_getElem? (i := 66) (by decide +kernel))) rfl
theorem wm_57 : Cond.fieldLink RX0 9 "SealedGroups$Groups" "begins" "[I" ∈ wsL_law := wm (wt_1 (List.mem_of_getElem? (i := 67) (by decide +kernel))) rfl
theorem wm_58 : Cond.fieldLink RX0 15 "SealedGroups$Groups" "writes" "[I" ∈ wsL_law := wm (wt_1 (List.mem_of_getElem? (i := 69) (by decide +kernel))) rfl
theorem wm_59 : Cond.fieldLink RX0 18 "SealedGroups$Groups" "held" "[I" ∈ wsL_law := wm (wt_1 (List.mem_of_getElem? (i := 70) (by decide +kernel))) rfl
theorem wm_60 : Cond.instanceMethod yX2_init ∈ wsL_law := wm (wt_1 (List.mem_of_getElem? (i := 87) (by decide +kernel))) rfl
theorem wm_61 : Cond.code yX2_init cX2_init 1 none ∈ wsL_law := wm (wt_1 (List.mem_of_getElem? (i := 88) rfl)) rfl
theorem wm_62 : Cond.methodLink RX2 3 objectInit ∈ wsL_law := wm (wt_1 (List.mem_of_getElem? (i := 89) (by decide +kernel))) rfl
theorem wm_63 : Cond.fieldLink RX2 9 "SealedGroups$Journal" "kinds" "[I" ∈ wsL_law := wm (wt_1 (List.mem_of_getElem? (i := 90) (by decide +kernel))) rfl
theorem wm_64 : Cond.fieldLink RX2 15 "SealedGroups$Journal" "owners" "[I" ∈ wsL_law := wm (wt_1 (List.mem_of_getElem? (i := 93) (by decide +kernel))) rfl
theorem wm_65 : Cond.fieldLink RX2 18 "SealedGroups$Journal" "pageNumbers" "[I" ∈ wsL_law := wm (wt_1 (List.mem_of_getElem? (i := 96) (by decide +kernel))) rfl
theorem wm_66 : Cond.fieldLink RX2 21 "SealedGroups$Journal" "olds" "[I" ∈ wsL_law := wm (wt_1 (List.mem_of_getElem? (i := 99) (by decide +kernel))) rfl
theorem wm_67 : Cond.fieldLink RX2 24 "SealedGroups$Journal" "news" "[I" ∈ wsL_law := wm (wt_1 (List.mem_of_getElem? (i := 102) (by decide +kernel))) rfl
theorem wm_68 : Cond.fieldLink RX2 27 "SealedGroups$Journal" "targets" "[I" ∈ wsL_law := wm (wt_1 (List.mem_of_getElem? (i := 104) (by decide +kernel))) rfl
theorem wm_69 : Cond.fieldLink RX2 30 "SealedGroups$Journal" "checkpointStarts" "[I" ∈ wsL_law := wm (wt_1 (List.mem_of_getElem? (i := 106) (by decide +kernel))) rfl
theorem wm_70 : Cond.fieldLink RX2 33 "SealedGroups$Journal" "first" "I" ∈ wsL_law := wm (wt_1 (List.mem_of_getElem? (i := 108) (by decide +kernel))) rfl
theorem wm_71 : Cond.instanceMethod yX5_init ∈ wsL_law := wm (wt_1 (List.mem_of_getElem? (i := 170) (by decide +kernel))) rfl
theorem wm_72 : Cond.code yX5_init cX5_init 1 none ∈ wsL_law := wm (wt_1 (List.mem_of_getElem? (i := 171) rfl)) rfl
theorem wm_73 : Cond.methodLink RX5 3 objectInit ∈ wsL_law := wm (wt_1 (List.mem_of_getElem? (i := 172) (by decide +kernel))) rfl
theorem wm_74 : Cond.fieldLink RX5 9 "SealedGroups$Restarter" "starts" "[I" ∈ wsL_law := wm (wt_1 (List.mem_of_getElem? (i := 173) (by decide +kernel))) rfl
theorem wm_75 : Cond.fieldLink RX5 15 "SealedGroups$Restarter" "takenBack" "[I" ∈ wsL_law := wm (wt_1 (List.mem_of_getElem? (i := 174) (by decide +kernel))) rfl
theorem wm_76 : Cond.methodLink RX7 28 yX1_init ∈ wsL_law := wm (wt_1 (List.mem_of_getElem? (i := 194) (by decide +kernel))) rfl
theorem wm_77 : Cond.instanceMethod yX1_init ∈ wsL_law := wm (wt_1 (List.mem_of_getElem? (i := 195) (by decide +kernel))) rfl
theorem wm_78 : Cond.code yX1_init cX1_init 2 none ∈ wsL_law := wm (wt_1 (List.mem_of_getElem? (i := 196) rfl)) rfl
theorem wm_79 : Cond.methodLink RX1 3 objectInit ∈ wsL_law := wm (wt_1 (List.mem_of_getElem? (i := 197) (by decide +kernel))) rfl
theorem wm_80 : Cond.classLink RX1 9 RX6 ∈ wsL_law := wm (wt_1 (List.mem_of_getElem? (i := 198) (by decide +kernel))) rfl
theorem wm_81 : Cond.fieldLink RX1 11 "SealedGroups$History" "rows" "[LSealedGroups$Store;" ∈ wsL_law := wm (wt_1 (List.mem_of_getElem? (i := 201) (by decide +kernel))) rfl
theorem wm_82 : Cond.instanceMethod yX3_init ∈ wsL_law := wm (wt_1 (List.mem_of_getElem? (i := 215) (by decide +kernel))) rfl
theorem wm_83 : Cond.code yX3_init cX3_init 1 none ∈ wsL_law := wm (wt_1 (List.mem_of_getElem? (i := 216) rfl)) rfl
theorem wm_84 : Cond.methodLink RX3 3 objectInit ∈ wsL_law := wm (wt_1 (List.mem_of_getElem? (i := 217) (by decide +kernel))) rfl
theorem wm_85 : Cond.arrayClass .char ∈ wsL_law := wm (wt_1 (List.mem_of_getElem? (i := 237) (by decide +kernel))) rfl
theorem wm_86 : Cond.fieldLink RX3 9 "SealedGroups$OrderText" "signs" "[C" ∈ wsL_law := wm (wt_1 (List.mem_of_getElem? (i := 218) (by decide +kernel))) rfl
theorem wm_87 : Cond.methodLink RL 134 yL_isSo ∈ wsL_law := wm (wt_3 (List.mem_of_getElem? (i := 190) (by decide +kernel))) rfl
theorem wm_88 : Cond.static yL_isSo ∈ wsL_law := wm (wt_3 (List.mem_of_getElem? (i := 191) (by decide +kernel))) rfl
theorem wm_89 : Cond.initialized RL ∈ wsL_law := wm (wt_1 (List.mem_of_getElem? (i := 0) (by decide +kernel))) rfl
theorem wm_90 : Cond.code yL_isSo cL_isSo 10 (some .boolean) ∈ wsL_law := wm (wt_3 (List.mem_of_getElem? (i := 192) rfl)) rfl
theorem wm_91 : Cond.constant RL 111 (-1000004) ∈ wsL_law := wm (wt_3 (List.mem_of_getElem? (i := 196) (by decide +kernel))) rfl
theorem wm_92 : Cond.methodLink RL 122 yL_arePages ∈ wsL_law := wm (wt_3 (List.mem_of_getElem? (i := 193) (by decide +kernel))) rfl
theorem wm_93 : Cond.static yL_arePages ∈ wsL_law := wm (wt_3 (List.mem_of_getElem? (i := 194) (by decide +kernel))) rfl
theorem wm_94 : Cond.code yL_arePages cL_arePages 7 (some .boolean) ∈ wsL_law := wm (wt_3 (List.mem_of_getElem? (i := 195) rfl)) rfl
theorem wm_95 : Cond.methodLink RL 15 yL_mark ∈ wsL_law := wm (wt_3 (List.mem_of_getElem? (i := 157) (by decide +kernel))) rfl
theorem wm_96 : Cond.static yL_mark ∈ wsL_law := wm (wt_3 (List.mem_of_getElem? (i := 158) (by decide +kernel))) rfl
theorem wm_97 : Cond.code yL_mark cL_mark 2 (some .int) ∈ wsL_law := wm (wt_3 (List.mem_of_getElem? (i := 159) rfl)) rfl
theorem wm_98 : Cond.methodLink RL 95 yL_holder ∈ wsL_law := wm (wt_3 (List.mem_of_getElem? (i := 175) (by decide +kernel))) rfl
theorem wm_99 : Cond.static yL_holder ∈ wsL_law := wm (wt_3 (List.mem_of_getElem? (i := 176) (by decide +kernel))) rfl
theorem wm_100 : Cond.code yL_holder cL_holder 4 (some .int) ∈ wsL_law := wm (wt_3 (List.mem_of_getElem? (i := 177) rfl)) rfl
theorem wm_101 : Cond.methodLink RL 116 yX7_pageOf ∈ wsL_law := wm (wt_2 (List.mem_of_getElem? (i := 168) (by decide +kernel))) rfl
theorem wm_102 : Cond.instanceMethod yX7_pageOf ∈ wsL_law := wm (wt_2 (List.mem_of_getElem? (i := 169) (by decide +kernel))) rfl
theorem wm_103 : Cond.selects RX7 yX7_pageOf yX7_pageOf ∈ wsL_law := wm (wt_2 (List.mem_of_getElem? (i := 170) (by decide +kernel))) rfl
theorem wm_104 : Cond.code yX7_pageOf cX7_pageOf 3 (some .int) ∈ wsL_law := wm (wt_2 (List.mem_of_getElem? (i := 171) rfl)) rfl
theorem wm_105 : Cond.constant RX7 84 (-1000001) ∈ wsL_law := wm (wt_2 (List.mem_of_getElem? (i := 172) (by decide +kernel))) rfl
theorem wm_106 : Cond.methodLink RX7 89 yX0_holderOf ∈ wsL_law := wm (wt_2 (List.mem_of_getElem? (i := 173) (by decide +kernel))) rfl
theorem wm_107 : Cond.instanceMethod yX0_holderOf ∈ wsL_law := wm (wt_2 (List.mem_of_getElem? (i := 174) (by decide +kernel))) rfl
theorem wm_108 : Cond.selects RX0 yX0_holderOf yX0_holderOf ∈ wsL_law := wm (wt_2 (List.mem_of_getElem? (i := 175) (by decide +kernel))) rfl
theorem wm_109 : Cond.code yX0_holderOf cX0_holderOf 3 (some .int) ∈ wsL_law := wm (wt_2 (List.mem_of_getElem? (i := 176) rfl)) rfl
theorem wm_110 : Cond.fieldLink RX0 27 "SealedGroups$Groups" "open" "I" ∈ wsL_law := wm (wt_1 (List.mem_of_getElem? (i := 71) (by decide +kernel))) rfl
theorem wm_111 : Cond.constant RX0 31 (-1000004) ∈ wsL_law := wm (wt_2 (List.mem_of_getElem? (i := 177) (by decide +kernel))) rfl
theorem wm_112 : Cond.methodLink RX7 98 yX2_settledValueOf ∈ wsL_law := wm (wt_2 (List.mem_of_getElem? (i := 178) (by decide +kernel))) rfl
theorem wm_113 : Cond.instanceMethod yX2_settledValueOf ∈ wsL_law := wm (wt_2 (List.mem_of_getElem? (i := 179) (by decide +kernel))) rfl
theorem wm_114 : Cond.selects RX2 yX2_settledValueOf yX2_settledValueOf ∈ wsL_law := wm (wt_2 (List.mem_of_getElem? (i := 180) (by decide +kernel))) rfl
theorem wm_115 : Cond.code yX2_settledValueOf cX2_settledValueOf 5 (some .int) ∈ wsL_law := wm (wt_2 (List.mem_of_getElem? (i := 181) rfl)) rfl
theorem wm_116 : Cond.fieldLink RX2 43 "SealedGroups$Journal" "size" "I" ∈ wsL_law := wm (wt_1 (List.mem_of_getElem? (i := 110) (by decide +kernel))) rfl
theorem wm_117 : Cond.methodLink RX2 79 Lib.Math.min.name ∈ wsL_law := wm (wt_2 (List.mem_of_getElem? (i := 182) (by decide +kernel))) rfl
theorem wm_118 : Cond.static Lib.Math.min.name ∈ wsL_law := wm (wt_2 (List.mem_of_getElem? (i := 183) (by decide +kernel))) rfl
theorem wm_119 : Cond.initialized "java/lang/Math" ∈ wsL_law := wm (wt_1 (List.mem_of_getElem? (i := 9) (by decide +kernel))) rfl
theorem wm_120 : Cond.code Lib.Math.min.name Lib.Math.min.code 2 (some .int) ∈ wsL_law := wm (wt_2 (List.mem_of_getElem? (i := 184) rfl)) rfl
theorem wm_121 : Cond.constant RX2 55 (-1000004) ∈ wsL_law := wm (wt_2 (List.mem_of_getElem? (i := 93) (by decide +kernel))) rfl
theorem wm_122 : Cond.methodLink RX7 107 yX4_tell ∈ wsL_law := wm (wt_2 (List.mem_of_getElem? (i := 185) (by decide +kernel))) rfl
theorem wm_123 : Cond.instanceMethod yX4_tell ∈ wsL_law := wm (wt_2 (List.mem_of_getElem? (i := 186) (by decide +kernel))) rfl
theorem wm_124 : Cond.selects RX4 yX4_tell yX4_tell ∈ wsL_law := wm (wt_2 (List.mem_of_getElem? (i := 187) (by decide +kernel))) rfl
theorem wm_125 : Cond.code yX4_tell cX4_tell 3 (some .int) ∈ wsL_law := wm (wt_2 (List.mem_of_getElem? (i := 188) rfl)) rfl
theorem wm_126 : Cond.constant RX4 47 (-1000001) ∈ wsL_law := wm (wt_2 (List.mem_of_getElem? (i := 189) (by decide +kernel))) rfl
theorem wm_127 : Cond.fieldLink RX4 33 "SealedGroups$Pages" "cached" "I" ∈ wsL_law := wm (wt_1 (List.mem_of_getElem? (i := 38) (by decide +kernel))) rfl
theorem wm_128 : Cond.fieldLink RX4 37 "SealedGroups$Pages" "dirty" "I" ∈ wsL_law := wm (wt_1 (List.mem_of_getElem? (i := 41) (by decide +kernel))) rfl
theorem wm_129 : Cond.methodLink RX4 48 yX4_valueOf ∈ wsL_law := wm (wt_2 (List.mem_of_getElem? (i := 190) (by decide +kernel))) rfl
theorem wm_130 : Cond.instanceMethod yX4_valueOf ∈ wsL_law := wm (wt_2 (List.mem_of_getElem? (i := 160) (by decide +kernel))) rfl
theorem wm_131 : Cond.selects RX4 yX4_valueOf yX4_valueOf ∈ wsL_law := wm (wt_2 (List.mem_of_getElem? (i := 161) (by decide +kernel))) rfl
theorem wm_132 : Cond.code yX4_valueOf cX4_valueOf 2 (some .int) ∈ wsL_law := wm (wt_2 (List.mem_of_getElem? (i := 162) rfl)) rfl
theorem wm_133 : Cond.methodLink RX4 52 yX4_markOf ∈ wsL_law := wm (wt_2 (List.mem_of_getElem? (i := 191) (by decide +kernel))) rfl
theorem wm_134 : Cond.instanceMethod yX4_markOf ∈ wsL_law := wm (wt_2 (List.mem_of_getElem? (i := 122) (by decide +kernel))) rfl
theorem wm_135 : Cond.selects RX4 yX4_markOf yX4_markOf ∈ wsL_law := wm (wt_2 (List.mem_of_getElem? (i := 123) (by decide +kernel))) rfl
theorem wm_136 : Cond.code yX4_markOf cX4_markOf 2 (some .int) ∈ wsL_law := wm (wt_2 (List.mem_of_getElem? (i := 124) rfl)) rfl
theorem wm_137 : Cond.methodLink RX4 55 yX4_startOf ∈ wsL_law := wm (wt_2 (List.mem_of_getElem? (i := 192) (by decide +kernel))) rfl
theorem wm_138 : Cond.instanceMethod yX4_startOf ∈ wsL_law := wm (wt_2 (List.mem_of_getElem? (i := 193) (by decide +kernel))) rfl
theorem wm_139 : Cond.selects RX4 yX4_startOf yX4_startOf ∈ wsL_law := wm (wt_2 (List.mem_of_getElem? (i := 194) (by decide +kernel))) rfl
theorem wm_140 : Cond.code yX4_startOf cX4_startOf 2 (some .int) ∈ wsL_law := wm (wt_2 (List.mem_of_getElem? (i := 195) rfl)) rfl
theorem wm_141 : Cond.constant RX4 40 (-1000004) ∈ wsL_law := wm (wt_2 (List.mem_of_getElem? (i := 196) (by decide +kernel))) rfl
theorem wm_142 : Cond.methodLink RL 27 yL_value ∈ wsL_law := wm (wt_3 (List.mem_of_getElem? (i := 169) (by decide +kernel))) rfl
theorem wm_143 : Cond.static yL_value ∈ wsL_law := wm (wt_3 (List.mem_of_getElem? (i := 170) (by decide +kernel))) rfl
theorem wm_144 : Cond.code yL_value cL_value 2 (some .int) ∈ wsL_law := wm (wt_3 (List.mem_of_getElem? (i := 171) rfl)) rfl
theorem wm_145 : Cond.methodLink RL 119 yX7_groupOf ∈ wsL_law := wm (wt_2 (List.mem_of_getElem? (i := 197) (by decide +kernel))) rfl
theorem wm_146 : Cond.instanceMethod yX7_groupOf ∈ wsL_law := wm (wt_2 (List.mem_of_getElem? (i := 198) (by decide +kernel))) rfl
theorem wm_147 : Cond.selects RX7 yX7_groupOf yX7_groupOf ∈ wsL_law := wm (wt_2 (List.mem_of_getElem? (i := 199) (by decide +kernel))) rfl
theorem wm_148 : Cond.code yX7_groupOf cX7_groupOf 3 (some .int) ∈ wsL_law := wm (wt_2 (List.mem_of_getElem? (i := 200) rfl)) rfl
theorem wm_149 : Cond.methodLink RX7 114 yX0_tell ∈ wsL_law := wm (wt_2 (List.mem_of_getElem? (i := 201) (by decide +kernel))) rfl
theorem wm_150 : Cond.instanceMethod yX0_tell ∈ wsL_law := wm (wt_2 (List.mem_of_getElem? (i := 202) (by decide +kernel))) rfl
theorem wm_151 : Cond.selects RX0 yX0_tell yX0_tell ∈ wsL_law := wm (wt_2 (List.mem_of_getElem? (i := 203) (by decide +kernel))) rfl
theorem wm_152 : Cond.code yX0_tell cX0_tell 3 (some .int) ∈ wsL_law := wm (wt_2 (List.mem_of_getElem? (i := 204) rfl)) rfl
theorem wm_153 : Cond.methodLink RX0 32 yX0_isOpen ∈ wsL_law := wm (wt_2 (List.mem_of_getElem? (i := 205) (by decide +kernel))) rfl
theorem wm_154 : Cond.instanceMethod yX0_isOpen ∈ wsL_law := wm (wt_2 (List.mem_of_getElem? (i := 206) (by decide +kernel))) rfl
theorem wm_155 : Cond.selects RX0 yX0_isOpen yX0_isOpen ∈ wsL_law := wm (wt_2 (List.mem_of_getElem? (i := 207) (by decide +kernel))) rfl
theorem wm_156 : Cond.code yX0_isOpen cX0_isOpen 2 (some .boolean) ∈ wsL_law := wm (wt_2 (List.mem_of_getElem? (i := 208) rfl)) rfl
theorem wm_157 : Cond.methodLink RX0 36 yX0_beginOf ∈ wsL_law := wm (wt_2 (List.mem_of_getElem? (i := 209) (by decide +kernel))) rfl
theorem wm_158 : Cond.instanceMethod yX0_beginOf ∈ wsL_law := wm (wt_2 (List.mem_of_getElem? (i := 210) (by decide +kernel))) rfl
theorem wm_159 : Cond.selects RX0 yX0_beginOf yX0_beginOf ∈ wsL_law := wm (wt_2 (List.mem_of_getElem? (i := 211) (by decide +kernel))) rfl
theorem wm_160 : Cond.code yX0_beginOf cX0_beginOf 2 (some .int) ∈ wsL_law := wm (wt_2 (List.mem_of_getElem? (i := 212) rfl)) rfl
theorem wm_161 : Cond.methodLink RX0 40 yX0_writesOf ∈ wsL_law := wm (wt_2 (List.mem_of_getElem? (i := 213) (by decide +kernel))) rfl
theorem wm_162 : Cond.instanceMethod yX0_writesOf ∈ wsL_law := wm (wt_2 (List.mem_of_getElem? (i := 214) (by decide +kernel))) rfl
theorem wm_163 : Cond.selects RX0 yX0_writesOf yX0_writesOf ∈ wsL_law := wm (wt_2 (List.mem_of_getElem? (i := 215) (by decide +kernel))) rfl
theorem wm_164 : Cond.code yX0_writesOf cX0_writesOf 2 (some .int) ∈ wsL_law := wm (wt_2 (List.mem_of_getElem? (i := 216) rfl)) rfl
theorem wm_165 : Cond.methodLink RX0 43 yX0_heldBy ∈ wsL_law := wm (wt_2 (List.mem_of_getElem? (i := 217) (by decide +kernel))) rfl
theorem wm_166 : Cond.instanceMethod yX0_heldBy ∈ wsL_law := wm (wt_2 (List.mem_of_getElem? (i := 218) (by decide +kernel))) rfl
theorem wm_167 : Cond.selects RX0 yX0_heldBy yX0_heldBy ∈ wsL_law := wm (wt_2 (List.mem_of_getElem? (i := 219) (by decide +kernel))) rfl
theorem wm_168 : Cond.code yX0_heldBy cX0_heldBy 2 (some .int) ∈ wsL_law := wm (wt_2 (List.mem_of_getElem? (i := 220) rfl)) rfl
theorem wm_169 : Cond.methodLink RL 9 yL_last ∈ wsL_law := wm (wt_3 (List.mem_of_getElem? (i := 151) (by decide +kernel))) rfl
theorem wm_170 : Cond.static yL_last ∈ wsL_law := wm (wt_3 (List.mem_of_getElem? (i := 152) (by decide +kernel))) rfl
theorem wm_171 : Cond.code yL_last cL_last 1 (some .int) ∈ wsL_law := wm (wt_3 (List.mem_of_getElem? (i := 153) rfl)) rfl
theorem wm_172 : Cond.methodLink RL 126 yL_isRecord ∈ wsL_law := wm (wt_3 (List.mem_of_getElem? (i := 198) (by decide +kernel))) rfl
theorem wm_173 : Cond.static yL_isRecord ∈ wsL_law := wm (wt_3 (List.mem_of_getElem? (i := 199) (by decide +kernel))) rfl
theorem wm_174 : Cond.code yL_isRecord cL_isRecord 7 (some .boolean) ∈ wsL_law := wm (wt_3 (List.mem_of_getElem? (i := 200) rfl)) rfl
theorem wm_175 : Cond.methodLink RL 19 yL_of ∈ wsL_law := wm (wt_3 (List.mem_of_getElem? (i := 154) (by decide +kernel))) rfl
theorem wm_176 : Cond.static yL_of ∈ wsL_law := wm (wt_3 (List.mem_of_getElem? (i := 155) (by decide +kernel))) rfl
theorem wm_177 : Cond.code yL_of cL_of 6 (some .int) ∈ wsL_law := wm (wt_3 (List.mem_of_getElem? (i := 156) rfl)) rfl
theorem wm_178 : Cond.methodLink RL 112 yX7_recordOf ∈ wsL_law := wm (wt_3 (List.mem_of_getElem? (i := 201) (by decide +kernel))) rfl
theorem wm_179 : Cond.instanceMethod yX7_recordOf ∈ wsL_law := wm (wt_3 (List.mem_of_getElem? (i := 202) (by decide +kernel))) rfl
theorem wm_180 : Cond.selects RX7 yX7_recordOf yX7_recordOf ∈ wsL_law := wm (wt_3 (List.mem_of_getElem? (i := 203) (by decide +kernel))) rfl
theorem wm_181 : Cond.code yX7_recordOf cX7_recordOf 3 (some .int) ∈ wsL_law := wm (wt_3 (List.mem_of_getElem? (i := 204) rfl)) rfl
theorem wm_182 : Cond.methodLink RX7 113 yX2_tell ∈ wsL_law := wm (wt_3 (List.mem_of_getElem? (i := 205) (by decide +kernel))) rfl
theorem wm_183 : Cond.instanceMethod yX2_tell ∈ wsL_law := wm (wt_3 (List.mem_of_getElem? (i := 206) (by decide +kernel))) rfl
theorem wm_184 : Cond.selects RX2 yX2_tell yX2_tell ∈ wsL_law := wm (wt_3 (List.mem_of_getElem? (i := 207) (by decide +kernel))) rfl
theorem wm_185 : Cond.code yX2_tell cX2_tell 5 (some .int) ∈ wsL_law := wm (wt_3 (List.mem_of_getElem? (i := 208) rfl)) rfl
theorem wm_186 : Cond.fieldLink RX2 46 "SealedGroups$Journal" "forced" "I" ∈ wsL_law := wm (wt_1 (List.mem_of_getElem? (i := 112) (by decide +kernel))) rfl
theorem wm_187 : Cond.methodLink RX2 96 yX2_has ∈ wsL_law := wm (wt_3 (List.mem_of_getElem? (i := 124) (by decide +kernel))) rfl
theorem wm_188 : Cond.instanceMethod yX2_has ∈ wsL_law := wm (wt_3 (List.mem_of_getElem? (i := 125) (by decide +kernel))) rfl
theorem wm_189 : Cond.selects RX2 yX2_has yX2_has ∈ wsL_law := wm (wt_3 (List.mem_of_getElem? (i := 126) (by decide +kernel))) rfl
theorem wm_190 : Cond.code yX2_has cX2_has 2 (some .boolean) ∈ wsL_law := wm (wt_3 (List.mem_of_getElem? (i := 127) rfl)) rfl
theorem wm_191 : Cond.methodLink RX2 100 yX2_at ∈ wsL_law := wm (wt_3 (List.mem_of_getElem? (i := 128) (by decide +kernel))) rfl
theorem wm_192 : Cond.instanceMethod yX2_at ∈ wsL_law := wm (wt_2 (List.mem_of_getElem? (i := 90) (by decide +kernel))) rfl
theorem wm_193 : Cond.selects RX2 yX2_at yX2_at ∈ wsL_law := wm (wt_2 (List.mem_of_getElem? (i := 91) (by decide +kernel))) rfl
theorem wm_194 : Cond.code yX2_at cX2_at 4 (some .int) ∈ wsL_law := wm (wt_2 (List.mem_of_getElem? (i := 92) rfl)) rfl
theorem wm_195 : Cond.methodLink RL 130 yX7_count ∈ wsL_law := wm (wt_2 (List.mem_of_getElem? (i := 221) (by decide +kernel))) rfl
theorem wm_196 : Cond.instanceMethod yX7_count ∈ wsL_law := wm (wt_2 (List.mem_of_getElem? (i := 222) (by decide +kernel))) rfl
theorem wm_197 : Cond.selects RX7 yX7_count yX7_count ∈ wsL_law := wm (wt_2 (List.mem_of_getElem? (i := 223) (by decide +kernel))) rfl
theorem wm_198 : Cond.code yX7_count cX7_count 2 (some .int) ∈ wsL_law := wm (wt_2 (List.mem_of_getElem? (i := 224) rfl)) rfl
theorem wm_199 : Cond.methodLink RX7 147 yX2_tellNumber ∈ wsL_law := wm (wt_2 (List.mem_of_getElem? (i := 225) (by decide +kernel))) rfl
theorem wm_200 : Cond.instanceMethod yX2_tellNumber ∈ wsL_law := wm (wt_2 (List.mem_of_getElem? (i := 96) (by decide +kernel))) rfl
theorem wm_201 : Cond.selects RX2 yX2_tellNumber yX2_tellNumber ∈ wsL_law := wm (wt_2 (List.mem_of_getElem? (i := 97) (by decide +kernel))) rfl
theorem wm_202 : Cond.code yX2_tellNumber cX2_tellNumber 2 (some .int) ∈ wsL_law := wm (wt_2 (List.mem_of_getElem? (i := 98) rfl)) rfl
theorem wm_203 : Cond.methodLink RX2 56 Lib.Math.max.name ∈ wsL_law := wm (wt_2 (List.mem_of_getElem? (i := 69) (by decide +kernel))) rfl
theorem wm_204 : Cond.static Lib.Math.max.name ∈ wsL_law := wm (wt_2 (List.mem_of_getElem? (i := 70) (by decide +kernel))) rfl
theorem wm_205 : Cond.code Lib.Math.max.name Lib.Math.max.code 2 (some .int) ∈ wsL_law := wm (wt_2 (List.mem_of_getElem? (i := 71) rfl)) rfl
theorem wm_206 : Cond.fieldLink RX2 49 "SealedGroups$Journal" "latestCheckpoint" "I" ∈ wsL_law := wm (wt_1 (List.mem_of_getElem? (i := 113) (by decide +kernel))) rfl
theorem wm_207 : Cond.constant RX2 104 (-1000001) ∈ wsL_law := wm (wt_2 (List.mem_of_getElem? (i := 103) (by decide +kernel))) rfl
theorem wm_208 : Cond.methodLink RX2 93 yX2_last ∈ wsL_law := wm (wt_2 (List.mem_of_getElem? (i := 99) (by decide +kernel))) rfl
theorem wm_209 : Cond.instanceMethod yX2_last ∈ wsL_law := wm (wt_2 (List.mem_of_getElem? (i := 100) (by decide +kernel))) rfl
theorem wm_210 : Cond.selects RX2 yX2_last yX2_last ∈ wsL_law := wm (wt_2 (List.mem_of_getElem? (i := 101) (by decide +kernel))) rfl
theorem wm_211 : Cond.code yX2_last cX2_last 1 (some .int) ∈ wsL_law := wm (wt_2 (List.mem_of_getElem? (i := 102) rfl)) rfl
theorem wm_212 : Cond.methodLink RX2 89 yX2_droppable ∈ wsL_law := wm (wt_2 (List.mem_of_getElem? (i := 65) (by decide +kernel))) rfl
theorem wm_213 : Cond.instanceMethod yX2_droppable ∈ wsL_law := wm (wt_2 (List.mem_of_getElem? (i := 66) (by decide +kernel))) rfl
theorem wm_214 : Cond.selects RX2 yX2_droppable yX2_droppable ∈ wsL_law := wm (wt_2 (List.mem_of_getElem? (i := 67) (by decide +kernel))) rfl
theorem wm_215 : Cond.code yX2_droppable cX2_droppable 1 (some .int) ∈ wsL_law := wm (wt_2 (List.mem_of_getElem? (i := 68) rfl)) rfl
theorem wm_216 : Cond.fieldLink RX2 52 "SealedGroups$Journal" "dropLimit" "I" ∈ wsL_law := wm (wt_1 (List.mem_of_getElem? (i := 116) (by decide +kernel))) rfl
theorem wm_217 : Cond.methodLink RL 101 yL_open ∈ wsL_law := wm (wt_3 (List.mem_of_getElem? (i := 181) (by decide +kernel))) rfl
theorem wm_218 : Cond.static yL_open ∈ wsL_law := wm (wt_3 (List.mem_of_getElem? (i := 182) (by decide +kernel))) rfl
theorem wm_219 : Cond.code yL_open cL_open 1 (some .int) ∈ wsL_law := wm (wt_3 (List.mem_of_getElem? (i := 183) rfl)) rfl
theorem wm_220 : Cond.methodLink RL 98 yL_dirty ∈ wsL_law := wm (wt_3 (List.mem_of_getElem? (i := 178) (by decide +kernel))) rfl
theorem wm_221 : Cond.static yL_dirty ∈ wsL_law := wm (wt_3 (List.mem_of_getElem? (i := 179) (by decide +kernel))) rfl
theorem wm_222 : Cond.code yL_dirty cL_dirty 3 (some .int) ∈ wsL_law := wm (wt_3 (List.mem_of_getElem? (i := 180) rfl)) rfl
theorem wm_223 : Cond.methodLink RL 34 yL_latest ∈ wsL_law := wm (wt_3 (List.mem_of_getElem? (i := 148) (by decide +kernel))) rfl
theorem wm_224 : Cond.static yL_latest ∈ wsL_law := wm (wt_3 (List.mem_of_getElem? (i := 149) (by decide +kernel))) rfl
theorem wm_225 : Cond.code yL_latest cL_latest 4 (some .int) ∈ wsL_law := wm (wt_3 (List.mem_of_getElem? (i := 150) rfl)) rfl
theorem wm_226 : Cond.methodLink RL 104 yL_drop ∈ wsL_law := wm (wt_3 (List.mem_of_getElem? (i := 184) (by decide +kernel))) rfl
theorem wm_227 : Cond.static yL_drop ∈ wsL_law := wm (wt_3 (List.mem_of_getElem? (i := 185) (by decide +kernel))) rfl
theorem wm_228 : Cond.code yL_drop cL_drop 8 (some .int) ∈ wsL_law := wm (wt_3 (List.mem_of_getElem? (i := 186) rfl)) rfl
theorem wm_229 : Cond.methodLink RL 92 yX7_restart ∈ wsL_law := wm (wt_2 (List.mem_of_getElem? (i := 76) (by decide +kernel))) rfl
theorem wm_230 : Cond.instanceMethod yX7_restart ∈ wsL_law := wm (wt_2 (List.mem_of_getElem? (i := 77) (by decide +kernel))) rfl
theorem wm_231 : Cond.selects RX7 yX7_restart yX7_restart ∈ wsL_law := wm (wt_2 (List.mem_of_getElem? (i := 78) (by decide +kernel))) rfl
theorem wm_232 : Cond.code yX7_restart cX7_restart 1 (some .int) ∈ wsL_law := wm (wt_2 (List.mem_of_getElem? (i := 79) rfl)) rfl
theorem wm_233 : Cond.methodLink RX7 40 yX1_prepare ∈ wsL_law := wm (wt_2 (List.mem_of_getElem? (i := 24) (by decide +kernel))) rfl
theorem wm_234 : Cond.instanceMethod yX1_prepare ∈ wsL_law := wm (wt_2 (List.mem_of_getElem? (i := 25) (by decide +kernel))) rfl
theorem wm_235 : Cond.selects RX1 yX1_prepare yX1_prepare ∈ wsL_law := wm (wt_2 (List.mem_of_getElem? (i := 26) (by decide +kernel))) rfl
theorem wm_236 : Cond.code yX1_prepare cX1_prepare 3 none ∈ wsL_law := wm (wt_2 (List.mem_of_getElem? (i := 27) rfl)) rfl
theorem wm_237 : Cond.fieldLink RX1 28 "SealedGroups$History" "size" "I" ∈ wsL_law := wm (wt_1 (List.mem_of_getElem? (i := 203) (by decide +kernel))) rfl
theorem wm_238 : Cond.methodLink RX1 31 yX1_rowAt ∈ wsL_law := wm (wt_2 (List.mem_of_getElem? (i := 28) (by decide +kernel))) rfl
theorem wm_239 : Cond.instanceMethod yX1_rowAt ∈ wsL_law := wm (wt_2 (List.mem_of_getElem? (i := 30) (by decide +kernel))) rfl
theorem wm_240 : Cond.selects RX1 yX1_rowAt yX1_rowAt ∈ wsL_law := wm (wp_1 (List.mem_of_getElem? (i := 0) (by decide +kernel))) rfl
theorem wm_241 : Cond.code yX1_rowAt cX1_rowAt 3 (some (.object "SealedGroups$Store")) ∈ wsL_law := wm (wt_2 (List.mem_of_getElem? (i := 31) rfl)) rfl
theorem wm_242 : Cond.fieldLink RX1 18 "SealedGroups$History" "oldest" "I" ∈ wsL_law := wm (wt_1 (List.mem_of_getElem? (i := 202) (by decide +kernel))) rfl
theorem wm_243 : Cond.methodLink RX1 22 yJ9_floorMod_7cf53 ∈ wsL_law := wm (wt_2 (List.mem_of_getElem? (i := 32) (by decide +kernel))) rfl
theorem wm_244 : Cond.static yJ9_floorMod_7cf53 ∈ wsL_law := wm (wt_2 (List.mem_of_getElem? (i := 33) (by decide +kernel))) rfl
theorem wm_246 : Cond.code yJ9_floorMod_7cf53 cJ9_floorMod_7cf53 3 (some .int) ∈ wsL_law := wm (wt_2 (List.mem_of_getElem? (i := 34) rfl)) rfl
theorem wm_247 : Cond.methodLink RX1 35 yX6_copyFrom ∈ wsL_law := wm (wt_2 (List.mem_of_getElem? (i := 35) (by decide +kernel))) rfl
theorem wm_248 : Cond.instanceMethod yX6_copyFrom ∈ wsL_law := wm (wt_2 (List.mem_of_getElem? (i := 36) (by decide +kernel))) rfl
theorem wm_249 : Cond.selects RX6 yX6_copyFrom yX6_copyFrom ∈ wsL_law := wm (wt_2 (List.mem_of_getElem? (i := 37) (by decide +kernel))) rfl
theorem wm_250 : Cond.code yX6_copyFrom cX6_copyFrom 2 none ∈ wsL_law := wm (wt_2 (List.mem_of_getElem? (i := 38) rfl)) rfl
theorem wm_251 : Cond.fieldLink RX6 42 "SealedGroups$Store" "stopped" "Z" ∈ wsL_law := wm (wt_1 (List.mem_of_getElem? (i := 151) (by decide +kernel))) rfl
theorem wm_252 : Cond.fieldLink RX6 46 "SealedGroups$Store" "doneAgain" "I" ∈ wsL_law := wm (wt_1 (List.mem_of_getElem? (i := 153) (by decide +kernel))) rfl
theorem wm_253 : Cond.methodLink RX6 32 yX4_copyFrom ∈ wsL_law := wm (wt_2 (List.mem_of_getElem? (i := 39) (by decide +kernel))) rfl
theorem wm_254 : Cond.instanceMethod yX4_copyFrom ∈ wsL_law := wm (wt_2 (List.mem_of_getElem? (i := 40) (by decide +kernel))) rfl
theorem wm_255 : Cond.selects RX4 yX4_copyFrom yX4_copyFrom ∈ wsL_law := wm (wt_2 (List.mem_of_getElem? (i := 41) (by decide +kernel))) rfl
theorem wm_256 : Cond.code yX4_copyFrom cX4_copyFrom 2 none ∈ wsL_law := wm (wt_2 (List.mem_of_getElem? (i := 42) rfl)) rfl
theorem wm_257 : Cond.methodLink RX4 27 arraycopyName ∈ wsL_law := wm (wt_2 (List.mem_of_getElem? (i := 43) (by decide +kernel))) rfl
theorem wm_258 : Cond.native arraycopyName ∈ wsL_law := wm (wt_2 (List.mem_of_getElem? (i := 45) (by decide +kernel))) rfl
theorem wm_259 : Cond.static arraycopyName ∈ wsL_law := wm (wt_2 (List.mem_of_getElem? (i := 44) (by decide +kernel))) rfl
theorem wm_260 : Cond.initialized "java/lang/System" ∈ wsL_law := wm (wt_1 (List.mem_of_getElem? (i := 10) (by decide +kernel))) rfl
theorem wm_261 : Cond.methodLink RX6 36 yX0_copyFrom ∈ wsL_law := wm (wt_2 (List.mem_of_getElem? (i := 46) (by decide +kernel))) rfl
theorem wm_262 : Cond.instanceMethod yX0_copyFrom ∈ wsL_law := wm (wt_2 (List.mem_of_getElem? (i := 47) (by decide +kernel))) rfl
theorem wm_263 : Cond.selects RX0 yX0_copyFrom yX0_copyFrom ∈ wsL_law := wm (wt_2 (List.mem_of_getElem? (i := 48) (by decide +kernel))) rfl
theorem wm_264 : Cond.code yX0_copyFrom cX0_copyFrom 2 none ∈ wsL_law := wm (wt_2 (List.mem_of_getElem? (i := 49) rfl)) rfl
theorem wm_265 : Cond.methodLink RX0 21 arraycopyName ∈ wsL_law := wm (wt_2 (List.mem_of_getElem? (i := 50) (by decide +kernel))) rfl
theorem wm_266 : Cond.methodLink RX6 39 yX2_copyFrom ∈ wsL_law := wm (wt_2 (List.mem_of_getElem? (i := 51) (by decide +kernel))) rfl
theorem wm_267 : Cond.instanceMethod yX2_copyFrom ∈ wsL_law := wm (wt_2 (List.mem_of_getElem? (i := 52) (by decide +kernel))) rfl
theorem wm_268 : Cond.selects RX2 yX2_copyFrom yX2_copyFrom ∈ wsL_law := wm (wt_2 (List.mem_of_getElem? (i := 53) (by decide +kernel))) rfl
theorem wm_269 : Cond.code yX2_copyFrom cX2_copyFrom 2 none ∈ wsL_law := wm (wt_2 (List.mem_of_getElem? (i := 54) rfl)) rfl
theorem wm_270 : Cond.methodLink RX2 37 arraycopyName ∈ wsL_law := wm (wt_2 (List.mem_of_getElem? (i := 55) (by decide +kernel))) rfl
theorem wm_271 : Cond.methodLink RX7 80 yX5_run ∈ wsL_law := wm (wt_2 (List.mem_of_getElem? (i := 80) (by decide +kernel))) rfl
theorem wm_272 : Cond.instanceMethod yX5_run ∈ wsL_law := wm (wt_2 (List.mem_of_getElem? (i := 81) (by decide +kernel))) rfl
theorem wm_273 : Cond.selects RX5 yX5_run yX5_run ∈ wsL_law := wm (wt_2 (List.mem_of_getElem? (i := 82) (by decide +kernel))) rfl
theorem wm_274 : Cond.code yX5_run cX5_run 2 (some .int) ∈ wsL_law := wm (wt_2 (List.mem_of_getElem? (i := 83) rfl)) rfl
theorem wm_275 : Cond.constant RX5 24 (-1000002) ∈ wsL_law := wm (wt_2 (List.mem_of_getElem? (i := 84) (by decide +kernel))) rfl
theorem wm_276 : Cond.fieldLink RX5 59 "SealedGroups$Restarter" "doneAgain" "I" ∈ wsL_law := wm (wt_1 (List.mem_of_getElem? (i := 177) (by decide +kernel))) rfl
theorem wm_277 : Cond.methodLink RX5 29 yX5_look ∈ wsL_law := wm (wt_2 (List.mem_of_getElem? (i := 85) (by decide +kernel))) rfl
theorem wm_278 : Cond.instanceMethod yX5_look ∈ wsL_law := wm (wt_2 (List.mem_of_getElem? (i := 87) (by decide +kernel))) rfl
theorem wm_279 : Cond.selects RX5 yX5_look yX5_look ∈ wsL_law := wm (wp_1 (List.mem_of_getElem? (i := 1) (by decide +kernel))) rfl
theorem wm_280 : Cond.code yX5_look cX5_look 6 none ∈ wsL_law := wm (wt_2 (List.mem_of_getElem? (i := 88) rfl)) rfl
theorem wm_281 : Cond.methodLink RX5 80 Lib.Math.max.name ∈ wsL_law := wm (wt_2 (List.mem_of_getElem? (i := 94) (by decide +kernel))) rfl
theorem wm_282 : Cond.fieldLink RX5 63 "SealedGroups$Restarter" "losers" "I" ∈ wsL_law := wm (wt_1 (List.mem_of_getElem? (i := 176) (by decide +kernel))) rfl
theorem wm_283 : Cond.fieldLink RX5 66 "SealedGroups$Restarter" "lookedFrom" "I" ∈ wsL_law := wm (wt_1 (List.mem_of_getElem? (i := 175) (by decide +kernel))) rfl
theorem wm_284 : Cond.methodLink RX5 76 yX2_at ∈ wsL_law := wm (wt_2 (List.mem_of_getElem? (i := 89) (by decide +kernel))) rfl
theorem wm_285 : Cond.methodLink RX5 86 yX2_tellNumber ∈ wsL_law := wm (wt_2 (List.mem_of_getElem? (i := 95) (by decide +kernel))) rfl
theorem wm_286 : Cond.methodLink RX5 45 yX2_last ∈ wsL_law := wm (wt_2 (List.mem_of_getElem? (i := 104) (by decide +kernel))) rfl
theorem wm_287 : Cond.methodLink RX5 95 yX5_lookAt ∈ wsL_law := wm (wt_2 (List.mem_of_getElem? (i := 105) (by decide +kernel))) rfl
theorem wm_288 : Cond.instanceMethod yX5_lookAt ∈ wsL_law := wm (wt_2 (List.mem_of_getElem? (i := 107) (by decide +kernel))) rfl
theorem wm_289 : Cond.selects RX5 yX5_lookAt yX5_lookAt ∈ wsL_law := wm (wp_1 (List.mem_of_getElem? (i := 2) (by decide +kernel))) rfl
theorem wm_290 : Cond.code yX5_lookAt cX5_lookAt 6 none ∈ wsL_law := wm (wt_2 (List.mem_of_getElem? (i := 108) rfl)) rfl
theorem wm_291 : Cond.methodLink RX5 37 yX5_doAgain ∈ wsL_law := wm (wt_2 (List.mem_of_getElem? (i := 109) (by decide +kernel))) rfl
theorem wm_292 : Cond.instanceMethod yX5_doAgain ∈ wsL_law := wm (wt_2 (List.mem_of_getElem? (i := 111) (by decide +kernel))) rfl
theorem wm_293 : Cond.selects RX5 yX5_doAgain yX5_doAgain ∈ wsL_law := wm (wp_1 (List.mem_of_getElem? (i := 3) (by decide +kernel))) rfl
theorem wm_294 : Cond.code yX5_doAgain cX5_doAgain 9 none ∈ wsL_law := wm (wt_2 (List.mem_of_getElem? (i := 112) rfl)) rfl
theorem wm_295 : Cond.methodLink RX5 108 yX5_leastStart ∈ wsL_law := wm (wt_2 (List.mem_of_getElem? (i := 113) (by decide +kernel))) rfl
theorem wm_296 : Cond.instanceMethod yX5_leastStart ∈ wsL_law := wm (wt_2 (List.mem_of_getElem? (i := 115) (by decide +kernel))) rfl
theorem wm_297 : Cond.selects RX5 yX5_leastStart yX5_leastStart ∈ wsL_law := wm (wp_1 (List.mem_of_getElem? (i := 4) (by decide +kernel))) rfl
theorem wm_298 : Cond.code yX5_leastStart cX5_leastStart 3 (some .int) ∈ wsL_law := wm (wt_2 (List.mem_of_getElem? (i := 116) rfl)) rfl
theorem wm_299 : Cond.methodLink RX5 111 yX5_isAfterStart ∈ wsL_law := wm (wt_2 (List.mem_of_getElem? (i := 117) (by decide +kernel))) rfl
theorem wm_300 : Cond.instanceMethod yX5_isAfterStart ∈ wsL_law := wm (wt_2 (List.mem_of_getElem? (i := 119) (by decide +kernel))) rfl
theorem wm_301 : Cond.selects RX5 yX5_isAfterStart yX5_isAfterStart ∈ wsL_law := wm (wp_1 (List.mem_of_getElem? (i := 5) (by decide +kernel))) rfl
theorem wm_302 : Cond.code yX5_isAfterStart cX5_isAfterStart 3 (some .boolean) ∈ wsL_law := wm (wt_2 (List.mem_of_getElem? (i := 120) rfl)) rfl
theorem wm_303 : Cond.methodLink RX5 115 yX4_markOf ∈ wsL_law := wm (wt_2 (List.mem_of_getElem? (i := 121) (by decide +kernel))) rfl
theorem wm_304 : Cond.methodLink RX5 123 yX4_put ∈ wsL_law := wm (wt_2 (List.mem_of_getElem? (i := 125) (by decide +kernel))) rfl
theorem wm_305 : Cond.instanceMethod yX4_put ∈ wsL_law := wm (wt_2 (List.mem_of_getElem? (i := 126) (by decide +kernel))) rfl
theorem wm_306 : Cond.selects RX4 yX4_put yX4_put ∈ wsL_law := wm (wt_2 (List.mem_of_getElem? (i := 127) (by decide +kernel))) rfl
theorem wm_307 : Cond.code yX4_put cX4_put 5 none ∈ wsL_law := wm (wt_2 (List.mem_of_getElem? (i := 128) rfl)) rfl
theorem wm_308 : Cond.methodLink RX5 41 yX5_takeLosersBack ∈ wsL_law := wm (wt_2 (List.mem_of_getElem? (i := 129) (by decide +kernel))) rfl
theorem wm_309 : Cond.instanceMethod yX5_takeLosersBack ∈ wsL_law := wm (wt_2 (List.mem_of_getElem? (i := 131) (by decide +kernel))) rfl
theorem wm_310 : Cond.selects RX5 yX5_takeLosersBack yX5_takeLosersBack ∈ wsL_law := wm (wp_1 (List.mem_of_getElem? (i := 6) (by decide +kernel))) rfl
theorem wm_311 : Cond.code yX5_takeLosersBack cX5_takeLosersBack 8 none ∈ wsL_law := wm (wt_2 (List.mem_of_getElem? (i := 132) rfl)) rfl
theorem wm_312 : Cond.fieldLink RX5 60 "SealedGroups$Restarter" "writesTakenBack" "I" ∈ wsL_law := wm (wt_1 (List.mem_of_getElem? (i := 178) (by decide +kernel))) rfl
theorem wm_313 : Cond.methodLink RX5 130 yX5_noteTakenBack ∈ wsL_law := wm (wt_2 (List.mem_of_getElem? (i := 133) (by decide +kernel))) rfl
theorem wm_314 : Cond.instanceMethod yX5_noteTakenBack ∈ wsL_law := wm (wt_2 (List.mem_of_getElem? (i := 135) (by decide +kernel))) rfl
theorem wm_315 : Cond.selects RX5 yX5_noteTakenBack yX5_noteTakenBack ∈ wsL_law := wm (wp_1 (List.mem_of_getElem? (i := 7) (by decide +kernel))) rfl
theorem wm_316 : Cond.code yX5_noteTakenBack cX5_noteTakenBack 2 none ∈ wsL_law := wm (wt_2 (List.mem_of_getElem? (i := 136) rfl)) rfl
theorem wm_317 : Cond.methodLink RX5 134 yX6_endGroup ∈ wsL_law := wm (wt_2 (List.mem_of_getElem? (i := 137) (by decide +kernel))) rfl
theorem wm_318 : Cond.instanceMethod yX6_endGroup ∈ wsL_law := wm (wt_2 (List.mem_of_getElem? (i := 138) (by decide +kernel))) rfl
theorem wm_319 : Cond.selects RX6 yX6_endGroup yX6_endGroup ∈ wsL_law := wm (wt_2 (List.mem_of_getElem? (i := 139) (by decide +kernel))) rfl
theorem wm_320 : Cond.code yX6_endGroup cX6_endGroup 2 none ∈ wsL_law := wm (wt_2 (List.mem_of_getElem? (i := 140) rfl)) rfl
theorem wm_321 : Cond.constant RX6 61 (-1000004) ∈ wsL_law := wm (wt_2 (List.mem_of_getElem? (i := 141) (by decide +kernel))) rfl
theorem wm_322 : Cond.methodLink RX6 62 yX2_append ∈ wsL_law := wm (wt_2 (List.mem_of_getElem? (i := 142) (by decide +kernel))) rfl
theorem wm_323 : Cond.instanceMethod yX2_append ∈ wsL_law := wm (wt_2 (List.mem_of_getElem? (i := 143) (by decide +kernel))) rfl
theorem wm_324 : Cond.selects RX2 yX2_append yX2_append ∈ wsL_law := wm (wt_2 (List.mem_of_getElem? (i := 144) (by decide +kernel))) rfl
theorem wm_325 : Cond.code yX2_append cX2_append 7 (some .int) ∈ wsL_law := wm (wt_2 (List.mem_of_getElem? (i := 145) rfl)) rfl
theorem wm_326 : Cond.methodLink RX6 94 yX0_leave ∈ wsL_law := wm (wt_2 (List.mem_of_getElem? (i := 146) (by decide +kernel))) rfl
theorem wm_327 : Cond.instanceMethod yX0_leave ∈ wsL_law := wm (wt_2 (List.mem_of_getElem? (i := 147) (by decide +kernel))) rfl
theorem wm_328 : Cond.selects RX0 yX0_leave yX0_leave ∈ wsL_law := wm (wt_2 (List.mem_of_getElem? (i := 148) (by decide +kernel))) rfl
theorem wm_329 : Cond.code yX0_leave cX0_leave 2 none ∈ wsL_law := wm (wt_2 (List.mem_of_getElem? (i := 149) rfl)) rfl
theorem wm_330 : Cond.methodLink RX5 137 yX5_isTakenBack ∈ wsL_law := wm (wt_2 (List.mem_of_getElem? (i := 150) (by decide +kernel))) rfl
theorem wm_331 : Cond.instanceMethod yX5_isTakenBack ∈ wsL_law := wm (wt_2 (List.mem_of_getElem? (i := 152) (by decide +kernel))) rfl
theorem wm_332 : Cond.selects RX5 yX5_isTakenBack yX5_isTakenBack ∈ wsL_law := wm (wp_1 (List.mem_of_getElem? (i := 8) (by decide +kernel))) rfl
theorem wm_333 : Cond.code yX5_isTakenBack cX5_isTakenBack 2 (some .boolean) ∈ wsL_law := wm (wt_2 (List.mem_of_getElem? (i := 153) rfl)) rfl
theorem wm_334 : Cond.methodLink RX5 141 yX6_takeWriteBack ∈ wsL_law := wm (wt_2 (List.mem_of_getElem? (i := 154) (by decide +kernel))) rfl
theorem wm_335 : Cond.instanceMethod yX6_takeWriteBack ∈ wsL_law := wm (wt_2 (List.mem_of_getElem? (i := 155) (by decide +kernel))) rfl
theorem wm_336 : Cond.selects RX6 yX6_takeWriteBack yX6_takeWriteBack ∈ wsL_law := wm (wt_2 (List.mem_of_getElem? (i := 156) (by decide +kernel))) rfl
theorem wm_337 : Cond.code yX6_takeWriteBack cX6_takeWriteBack 6 none ∈ wsL_law := wm (wt_2 (List.mem_of_getElem? (i := 157) rfl)) rfl
theorem wm_338 : Cond.methodLink RX6 120 yX2_at ∈ wsL_law := wm (wt_2 (List.mem_of_getElem? (i := 158) (by decide +kernel))) rfl
theorem wm_339 : Cond.methodLink RX6 74 yX4_valueOf ∈ wsL_law := wm (wt_2 (List.mem_of_getElem? (i := 159) (by decide +kernel))) rfl
theorem wm_340 : Cond.methodLink RX6 77 yX4_put ∈ wsL_law := wm (wt_2 (List.mem_of_getElem? (i := 163) (by decide +kernel))) rfl
theorem wm_341 : Cond.methodLink RX5 51 yX2_forceUpTo ∈ wsL_law := wm (wt_2 (List.mem_of_getElem? (i := 164) (by decide +kernel))) rfl
theorem wm_342 : Cond.instanceMethod yX2_forceUpTo ∈ wsL_law := wm (wt_2 (List.mem_of_getElem? (i := 165) (by decide +kernel))) rfl
theorem wm_343 : Cond.selects RX2 yX2_forceUpTo yX2_forceUpTo ∈ wsL_law := wm (wt_2 (List.mem_of_getElem? (i := 166) (by decide +kernel))) rfl
theorem wm_344 : Cond.code yX2_forceUpTo cX2_forceUpTo 3 (some .int) ∈ wsL_law := wm (wt_2 (List.mem_of_getElem? (i := 167) rfl)) rfl
theorem wm_345 : Cond.methodLink RX7 48 yX1_keepUnlessError ∈ wsL_law := wm (wt_2 (List.mem_of_getElem? (i := 72) (by decide +kernel))) rfl
theorem wm_346 : Cond.instanceMethod yX1_keepUnlessError ∈ wsL_law := wm (wt_2 (List.mem_of_getElem? (i := 73) (by decide +kernel))) rfl
theorem wm_347 : Cond.selects RX1 yX1_keepUnlessError yX1_keepUnlessError ∈ wsL_law := wm (wt_2 (List.mem_of_getElem? (i := 74) (by decide +kernel))) rfl
theorem wm_348 : Cond.code yX1_keepUnlessError cX1_keepUnlessError 2 (some .int) ∈ wsL_law := wm (wt_2 (List.mem_of_getElem? (i := 75) rfl)) rfl
theorem wm_349 : Cond.methodLink RL 77 yX7_dropRecords ∈ wsL_law := wm (wt_2 (List.mem_of_getElem? (i := 20) (by decide +kernel))) rfl
theorem wm_350 : Cond.instanceMethod yX7_dropRecords ∈ wsL_law := wm (wt_2 (List.mem_of_getElem? (i := 21) (by decide +kernel))) rfl
theorem wm_351 : Cond.selects RX7 yX7_dropRecords yX7_dropRecords ∈ wsL_law := wm (wt_2 (List.mem_of_getElem? (i := 22) (by decide +kernel))) rfl
theorem wm_352 : Cond.code yX7_dropRecords cX7_dropRecords 1 (some .int) ∈ wsL_law := wm (wt_2 (List.mem_of_getElem? (i := 23) rfl)) rfl
theorem wm_353 : Cond.methodLink RX7 71 yX6_dropOldRecords ∈ wsL_law := wm (wt_2 (List.mem_of_getElem? (i := 56) (by decide +kernel))) rfl
theorem wm_354 : Cond.instanceMethod yX6_dropOldRecords ∈ wsL_law := wm (wt_2 (List.mem_of_getElem? (i := 57) (by decide +kernel))) rfl
theorem wm_355 : Cond.selects RX6 yX6_dropOldRecords yX6_dropOldRecords ∈ wsL_law := wm (wt_2 (List.mem_of_getElem? (i := 58) (by decide +kernel))) rfl
theorem wm_356 : Cond.code yX6_dropOldRecords cX6_dropOldRecords 1 (some .int) ∈ wsL_law := wm (wt_2 (List.mem_of_getElem? (i := 59) rfl)) rfl
theorem wm_357 : Cond.constant RX6 55 (-1000002) ∈ wsL_law := wm (wt_2 (List.mem_of_getElem? (i := 60) (by decide +kernel))) rfl
theorem wm_358 : Cond.methodLink RX6 158 yX2_dropFirst ∈ wsL_law := wm (wt_2 (List.mem_of_getElem? (i := 61) (by decide +kernel))) rfl
theorem wm_359 : Cond.instanceMethod yX2_dropFirst ∈ wsL_law := wm (wt_2 (List.mem_of_getElem? (i := 62) (by decide +kernel))) rfl
theorem wm_360 : Cond.selects RX2 yX2_dropFirst yX2_dropFirst ∈ wsL_law := wm (wt_2 (List.mem_of_getElem? (i := 63) (by decide +kernel))) rfl
theorem wm_361 : Cond.code yX2_dropFirst cX2_dropFirst 3 (some .int) ∈ wsL_law := wm (wt_2 (List.mem_of_getElem? (i := 64) rfl)) rfl
theorem wm_362 : Cond.methodLink RL 138 yL_cell ∈ wsL_law := wm (wt_2 (List.mem_of_getElem? (i := 226) (by decide +kernel))) rfl
theorem wm_363 : Cond.static yL_cell ∈ wsL_law := wm (wt_2 (List.mem_of_getElem? (i := 227) (by decide +kernel))) rfl
theorem wm_364 : Cond.code yL_cell cL_cell 2 (some .int) ∈ wsL_law := wm (wt_2 (List.mem_of_getElem? (i := 228) rfl)) rfl
theorem wm_365 : Cond.constant RL 7 (40503) ∈ wsL_law := wm (wt_2 (List.mem_of_getElem? (i := 229) (by decide +kernel))) rfl
theorem wm_366 : Cond.methodLink RL 46 yL_low ∈ wsL_law := wm (wt_2 (List.mem_of_getElem? (i := 230) (by decide +kernel))) rfl
theorem wm_367 : Cond.static yL_low ∈ wsL_law := wm (wt_2 (List.mem_of_getElem? (i := 231) (by decide +kernel))) rfl
theorem wm_368 : Cond.code yL_low cL_low 2 (some .int) ∈ wsL_law := wm (wt_2 (List.mem_of_getElem? (i := 232) rfl)) rfl
theorem wm_369 : Cond.constant RL 8 (2147483647) ∈ wsL_law := wm (wt_2 (List.mem_of_getElem? (i := 233) (by decide +kernel))) rfl
theorem wm_370 : Cond.methodLink RL 141 yL_acts ∈ wsL_law := wm (wt_2 (List.mem_of_getElem? (i := 234) (by decide +kernel))) rfl
theorem wm_371 : Cond.static yL_acts ∈ wsL_law := wm (wt_2 (List.mem_of_getElem? (i := 235) (by decide +kernel))) rfl
theorem wm_372 : Cond.code yL_acts cL_acts 17 (some .boolean) ∈ wsL_law := wm (wt_2 (List.mem_of_getElem? (i := 236) rfl)) rfl
theorem wm_373 : Cond.methodLink RL 51 yX7_begin ∈ wsL_law := wm (wt_2 (List.mem_of_getElem? (i := 239) (by decide +kernel))) rfl
theorem wm_374 : Cond.instanceMethod yX7_begin ∈ wsL_law := wm (wt_3 (List.mem_of_getElem? (i := 0) (by decide +kernel))) rfl
theorem wm_375 : Cond.selects RX7 yX7_begin yX7_begin ∈ wsL_law := wm (wt_3 (List.mem_of_getElem? (i := 1) (by decide +kernel))) rfl
theorem wm_376 : Cond.code yX7_begin cX7_begin 2 (some .int) ∈ wsL_law := wm (wt_3 (List.mem_of_getElem? (i := 2) rfl)) rfl
theorem wm_377 : Cond.methodLink RX7 44 yX6_beginGroup ∈ wsL_law := wm (wt_3 (List.mem_of_getElem? (i := 3) (by decide +kernel))) rfl
theorem wm_378 : Cond.instanceMethod yX6_beginGroup ∈ wsL_law := wm (wt_3 (List.mem_of_getElem? (i := 4) (by decide +kernel))) rfl
theorem wm_379 : Cond.selects RX6 yX6_beginGroup yX6_beginGroup ∈ wsL_law := wm (wt_3 (List.mem_of_getElem? (i := 5) (by decide +kernel))) rfl
theorem wm_380 : Cond.code yX6_beginGroup cX6_beginGroup 3 (some .int) ∈ wsL_law := wm (wt_3 (List.mem_of_getElem? (i := 6) rfl)) rfl
theorem wm_381 : Cond.constant RX6 50 (-1000001) ∈ wsL_law := wm (wt_3 (List.mem_of_getElem? (i := 7) (by decide +kernel))) rfl
theorem wm_382 : Cond.constant RX6 60 (-1000003) ∈ wsL_law := wm (wt_3 (List.mem_of_getElem? (i := 13) (by decide +kernel))) rfl
theorem wm_383 : Cond.methodLink RX6 51 yX0_isOpen ∈ wsL_law := wm (wt_3 (List.mem_of_getElem? (i := 8) (by decide +kernel))) rfl
theorem wm_384 : Cond.methodLink RX6 56 yX2_isFull ∈ wsL_law := wm (wt_3 (List.mem_of_getElem? (i := 9) (by decide +kernel))) rfl
theorem wm_385 : Cond.instanceMethod yX2_isFull ∈ wsL_law := wm (wt_3 (List.mem_of_getElem? (i := 10) (by decide +kernel))) rfl
theorem wm_386 : Cond.selects RX2 yX2_isFull yX2_isFull ∈ wsL_law := wm (wt_3 (List.mem_of_getElem? (i := 11) (by decide +kernel))) rfl
theorem wm_387 : Cond.code yX2_isFull cX2_isFull 1 (some .boolean) ∈ wsL_law := wm (wt_3 (List.mem_of_getElem? (i := 12) rfl)) rfl
theorem wm_388 : Cond.methodLink RX6 66 yX0_enter ∈ wsL_law := wm (wt_3 (List.mem_of_getElem? (i := 14) (by decide +kernel))) rfl
theorem wm_389 : Cond.instanceMethod yX0_enter ∈ wsL_law := wm (wt_3 (List.mem_of_getElem? (i := 15) (by decide +kernel))) rfl
theorem wm_390 : Cond.selects RX0 yX0_enter yX0_enter ∈ wsL_law := wm (wt_3 (List.mem_of_getElem? (i := 16) (by decide +kernel))) rfl
theorem wm_391 : Cond.code yX0_enter cX0_enter 3 none ∈ wsL_law := wm (wt_3 (List.mem_of_getElem? (i := 17) rfl)) rfl
theorem wm_392 : Cond.methodLink RL 57 yX7_write ∈ wsL_law := wm (wt_3 (List.mem_of_getElem? (i := 18) (by decide +kernel))) rfl
theorem wm_393 : Cond.instanceMethod yX7_write ∈ wsL_law := wm (wt_3 (List.mem_of_getElem? (i := 19) (by decide +kernel))) rfl
theorem wm_394 : Cond.selects RX7 yX7_write yX7_write ∈ wsL_law := wm (wt_3 (List.mem_of_getElem? (i := 20) (by decide +kernel))) rfl
theorem wm_395 : Cond.code yX7_write cX7_write 4 (some .int) ∈ wsL_law := wm (wt_3 (List.mem_of_getElem? (i := 21) rfl)) rfl
theorem wm_396 : Cond.methodLink RX7 51 yX6_writePage ∈ wsL_law := wm (wt_3 (List.mem_of_getElem? (i := 22) (by decide +kernel))) rfl
theorem wm_397 : Cond.instanceMethod yX6_writePage ∈ wsL_law := wm (wt_3 (List.mem_of_getElem? (i := 23) (by decide +kernel))) rfl
theorem wm_398 : Cond.selects RX6 yX6_writePage yX6_writePage ∈ wsL_law := wm (wt_3 (List.mem_of_getElem? (i := 24) (by decide +kernel))) rfl
theorem wm_399 : Cond.code yX6_writePage cX6_writePage 7 (some .int) ∈ wsL_law := wm (wt_3 (List.mem_of_getElem? (i := 25) rfl)) rfl
theorem wm_400 : Cond.methodLink RX6 70 yX0_holderOf ∈ wsL_law := wm (wt_3 (List.mem_of_getElem? (i := 26) (by decide +kernel))) rfl
theorem wm_401 : Cond.methodLink RX6 81 yX0_hold ∈ wsL_law := wm (wt_3 (List.mem_of_getElem? (i := 27) (by decide +kernel))) rfl
theorem wm_402 : Cond.instanceMethod yX0_hold ∈ wsL_law := wm (wt_3 (List.mem_of_getElem? (i := 28) (by decide +kernel))) rfl
theorem wm_403 : Cond.selects RX0 yX0_hold yX0_hold ∈ wsL_law := wm (wt_3 (List.mem_of_getElem? (i := 29) (by decide +kernel))) rfl
theorem wm_404 : Cond.code yX0_hold cX0_hold 3 none ∈ wsL_law := wm (wt_3 (List.mem_of_getElem? (i := 30) rfl)) rfl
theorem wm_405 : Cond.methodLink RL 61 yX7_settle ∈ wsL_law := wm (wt_3 (List.mem_of_getElem? (i := 31) (by decide +kernel))) rfl
theorem wm_406 : Cond.instanceMethod yX7_settle ∈ wsL_law := wm (wt_3 (List.mem_of_getElem? (i := 32) (by decide +kernel))) rfl
theorem wm_407 : Cond.selects RX7 yX7_settle yX7_settle ∈ wsL_law := wm (wt_3 (List.mem_of_getElem? (i := 33) (by decide +kernel))) rfl
theorem wm_408 : Cond.code yX7_settle cX7_settle 2 (some .int) ∈ wsL_law := wm (wt_3 (List.mem_of_getElem? (i := 34) rfl)) rfl
theorem wm_409 : Cond.methodLink RX7 55 yX6_settleGroup ∈ wsL_law := wm (wt_3 (List.mem_of_getElem? (i := 35) (by decide +kernel))) rfl
theorem wm_410 : Cond.instanceMethod yX6_settleGroup ∈ wsL_law := wm (wt_3 (List.mem_of_getElem? (i := 36) (by decide +kernel))) rfl
theorem wm_411 : Cond.selects RX6 yX6_settleGroup yX6_settleGroup ∈ wsL_law := wm (wt_3 (List.mem_of_getElem? (i := 37) (by decide +kernel))) rfl
theorem wm_412 : Cond.code yX6_settleGroup cX6_settleGroup 3 (some .int) ∈ wsL_law := wm (wt_3 (List.mem_of_getElem? (i := 38) rfl)) rfl
theorem wm_413 : Cond.methodLink RX6 87 yX6_errorOfEnding ∈ wsL_law := wm (wt_3 (List.mem_of_getElem? (i := 39) (by decide +kernel))) rfl
theorem wm_414 : Cond.instanceMethod yX6_errorOfEnding ∈ wsL_law := wm (wt_3 (List.mem_of_getElem? (i := 41) (by decide +kernel))) rfl
theorem wm_415 : Cond.selects RX6 yX6_errorOfEnding yX6_errorOfEnding ∈ wsL_law := wm (wp_1 (List.mem_of_getElem? (i := 9) (by decide +kernel))) rfl
theorem wm_416 : Cond.code yX6_errorOfEnding cX6_errorOfEnding 3 (some .int) ∈ wsL_law := wm (wt_3 (List.mem_of_getElem? (i := 42) rfl)) rfl
theorem wm_417 : Cond.methodLink RX6 91 yX2_forceUpTo ∈ wsL_law := wm (wt_3 (List.mem_of_getElem? (i := 43) (by decide +kernel))) rfl
theorem wm_418 : Cond.methodLink RX6 98 yX0_heldBy ∈ wsL_law := wm (wt_3 (List.mem_of_getElem? (i := 44) (by decide +kernel))) rfl
theorem wm_419 : Cond.methodLink RX6 101 yJ6_bitCount_0f7a4 ∈ wsL_law := wm (wt_3 (List.mem_of_getElem? (i := 45) (by decide +kernel))) rfl
theorem wm_420 : Cond.static yJ6_bitCount_0f7a4 ∈ wsL_law := wm (wt_3 (List.mem_of_getElem? (i := 46) (by decide +kernel))) rfl
theorem wm_421 : Cond.initialized RJ6 ∈ wsL_law := wm (wt_1 (List.mem_of_getElem? (i := 11) (by decide +kernel))) rfl
theorem wm_422 : Cond.code yJ6_bitCount_0f7a4 cJ6_bitCount_0f7a4 1 (some .int) ∈ wsL_law := wm (wt_3 (List.mem_of_getElem? (i := 47) rfl)) rfl
theorem wm_423 : Cond.constant RJ6 265 (1431655765) ∈ wsL_law := wm (wt_3 (List.mem_of_getElem? (i := 48) (by decide +kernel))) rfl
theorem wm_424 : Cond.constant RJ6 266 (858993459) ∈ wsL_law := wm (wt_3 (List.mem_of_getElem? (i := 49) (by decide +kernel))) rfl
theorem wm_425 : Cond.constant RJ6 267 (252645135) ∈ wsL_law := wm (wt_3 (List.mem_of_getElem? (i := 50) (by decide +kernel))) rfl
theorem wm_426 : Cond.methodLink RL 64 yX7_takeBack ∈ wsL_law := wm (wt_3 (List.mem_of_getElem? (i := 51) (by decide +kernel))) rfl
theorem wm_427 : Cond.instanceMethod yX7_takeBack ∈ wsL_law := wm (wt_3 (List.mem_of_getElem? (i := 52) (by decide +kernel))) rfl
theorem wm_428 : Cond.selects RX7 yX7_takeBack yX7_takeBack ∈ wsL_law := wm (wt_3 (List.mem_of_getElem? (i := 53) (by decide +kernel))) rfl
theorem wm_429 : Cond.code yX7_takeBack cX7_takeBack 2 (some .int) ∈ wsL_law := wm (wt_3 (List.mem_of_getElem? (i := 54) rfl)) rfl
theorem wm_430 : Cond.methodLink RX7 58 yX6_takeGroupBack ∈ wsL_law := wm (wt_3 (List.mem_of_getElem? (i := 55) (by decide +kernel))) rfl
theorem wm_431 : Cond.instanceMethod yX6_takeGroupBack ∈ wsL_law := wm (wt_3 (List.mem_of_getElem? (i := 56) (by decide +kernel))) rfl
theorem wm_432 : Cond.selects RX6 yX6_takeGroupBack yX6_takeGroupBack ∈ wsL_law := wm (wt_3 (List.mem_of_getElem? (i := 57) (by decide +kernel))) rfl
theorem wm_433 : Cond.code yX6_takeGroupBack cX6_takeGroupBack 7 (some .int) ∈ wsL_law := wm (wt_3 (List.mem_of_getElem? (i := 58) rfl)) rfl
theorem wm_434 : Cond.methodLink RX6 106 yX0_writesOf ∈ wsL_law := wm (wt_3 (List.mem_of_getElem? (i := 59) (by decide +kernel))) rfl
theorem wm_435 : Cond.methodLink RX6 109 yX0_beginOf ∈ wsL_law := wm (wt_3 (List.mem_of_getElem? (i := 60) (by decide +kernel))) rfl
theorem wm_436 : Cond.methodLink RX6 112 yX2_last ∈ wsL_law := wm (wt_3 (List.mem_of_getElem? (i := 61) (by decide +kernel))) rfl
theorem wm_437 : Cond.methodLink RX6 127 yX6_takeWriteBack ∈ wsL_law := wm (wt_3 (List.mem_of_getElem? (i := 62) (by decide +kernel))) rfl
theorem wm_438 : Cond.methodLink RX6 130 yX6_endGroup ∈ wsL_law := wm (wt_3 (List.mem_of_getElem? (i := 63) (by decide +kernel))) rfl
theorem wm_439 : Cond.methodLink RL 67 yX7_writeOut ∈ wsL_law := wm (wt_3 (List.mem_of_getElem? (i := 64) (by decide +kernel))) rfl
theorem wm_440 : Cond.instanceMethod yX7_writeOut ∈ wsL_law := wm (wt_3 (List.mem_of_getElem? (i := 65) (by decide +kernel))) rfl
theorem wm_441 : Cond.selects RX7 yX7_writeOut yX7_writeOut ∈ wsL_law := wm (wt_3 (List.mem_of_getElem? (i := 66) (by decide +kernel))) rfl
theorem wm_442 : Cond.code yX7_writeOut cX7_writeOut 2 (some .int) ∈ wsL_law := wm (wt_3 (List.mem_of_getElem? (i := 67) rfl)) rfl
theorem wm_443 : Cond.methodLink RX7 61 yX6_writePageOut ∈ wsL_law := wm (wt_3 (List.mem_of_getElem? (i := 68) (by decide +kernel))) rfl
theorem wm_444 : Cond.instanceMethod yX6_writePageOut ∈ wsL_law := wm (wt_3 (List.mem_of_getElem? (i := 69) (by decide +kernel))) rfl
theorem wm_445 : Cond.selects RX6 yX6_writePageOut yX6_writePageOut ∈ wsL_law := wm (wt_3 (List.mem_of_getElem? (i := 70) (by decide +kernel))) rfl
theorem wm_446 : Cond.code yX6_writePageOut cX6_writePageOut 3 (some .int) ∈ wsL_law := wm (wt_3 (List.mem_of_getElem? (i := 71) rfl)) rfl
theorem wm_447 : Cond.methodLink RX6 142 yX4_markOf ∈ wsL_law := wm (wt_3 (List.mem_of_getElem? (i := 72) (by decide +kernel))) rfl
theorem wm_448 : Cond.methodLink RX6 145 yX4_toDisk ∈ wsL_law := wm (wt_3 (List.mem_of_getElem? (i := 73) (by decide +kernel))) rfl
theorem wm_449 : Cond.instanceMethod yX4_toDisk ∈ wsL_law := wm (wt_3 (List.mem_of_getElem? (i := 74) (by decide +kernel))) rfl
theorem wm_450 : Cond.selects RX4 yX4_toDisk yX4_toDisk ∈ wsL_law := wm (wt_3 (List.mem_of_getElem? (i := 75) (by decide +kernel))) rfl
theorem wm_451 : Cond.code yX4_toDisk cX4_toDisk 2 none ∈ wsL_law := wm (wt_3 (List.mem_of_getElem? (i := 76) rfl)) rfl
theorem wm_452 : Cond.methodLink RL 70 yX7_dropOut ∈ wsL_law := wm (wt_3 (List.mem_of_getElem? (i := 77) (by decide +kernel))) rfl
theorem wm_453 : Cond.instanceMethod yX7_dropOut ∈ wsL_law := wm (wt_3 (List.mem_of_getElem? (i := 78) (by decide +kernel))) rfl
theorem wm_454 : Cond.selects RX7 yX7_dropOut yX7_dropOut ∈ wsL_law := wm (wt_3 (List.mem_of_getElem? (i := 79) (by decide +kernel))) rfl
theorem wm_455 : Cond.code yX7_dropOut cX7_dropOut 2 (some .int) ∈ wsL_law := wm (wt_3 (List.mem_of_getElem? (i := 80) rfl)) rfl
theorem wm_456 : Cond.methodLink RX7 64 yX6_dropPageOut ∈ wsL_law := wm (wt_3 (List.mem_of_getElem? (i := 81) (by decide +kernel))) rfl
theorem wm_457 : Cond.instanceMethod yX6_dropPageOut ∈ wsL_law := wm (wt_3 (List.mem_of_getElem? (i := 82) (by decide +kernel))) rfl
theorem wm_458 : Cond.selects RX6 yX6_dropPageOut yX6_dropPageOut ∈ wsL_law := wm (wt_3 (List.mem_of_getElem? (i := 83) (by decide +kernel))) rfl
theorem wm_459 : Cond.code yX6_dropPageOut cX6_dropPageOut 3 (some .int) ∈ wsL_law := wm (wt_3 (List.mem_of_getElem? (i := 84) rfl)) rfl
theorem wm_460 : Cond.methodLink RL 73 yX7_checkpoint ∈ wsL_law := wm (wt_3 (List.mem_of_getElem? (i := 85) (by decide +kernel))) rfl
theorem wm_461 : Cond.instanceMethod yX7_checkpoint ∈ wsL_law := wm (wt_3 (List.mem_of_getElem? (i := 86) (by decide +kernel))) rfl
theorem wm_462 : Cond.selects RX7 yX7_checkpoint yX7_checkpoint ∈ wsL_law := wm (wt_3 (List.mem_of_getElem? (i := 87) (by decide +kernel))) rfl
theorem wm_463 : Cond.code yX7_checkpoint cX7_checkpoint 1 (some .int) ∈ wsL_law := wm (wt_3 (List.mem_of_getElem? (i := 88) rfl)) rfl
theorem wm_464 : Cond.methodLink RX7 67 yX6_makeCheckpoint ∈ wsL_law := wm (wt_3 (List.mem_of_getElem? (i := 89) (by decide +kernel))) rfl
theorem wm_465 : Cond.instanceMethod yX6_makeCheckpoint ∈ wsL_law := wm (wt_3 (List.mem_of_getElem? (i := 90) (by decide +kernel))) rfl
theorem wm_466 : Cond.selects RX6 yX6_makeCheckpoint yX6_makeCheckpoint ∈ wsL_law := wm (wt_3 (List.mem_of_getElem? (i := 91) (by decide +kernel))) rfl
theorem wm_467 : Cond.code yX6_makeCheckpoint cX6_makeCheckpoint 1 (some .int) ∈ wsL_law := wm (wt_3 (List.mem_of_getElem? (i := 92) rfl)) rfl
theorem wm_468 : Cond.methodLink RX6 151 yX2_appendCheckpoint ∈ wsL_law := wm (wt_3 (List.mem_of_getElem? (i := 93) (by decide +kernel))) rfl
theorem wm_469 : Cond.instanceMethod yX2_appendCheckpoint ∈ wsL_law := wm (wt_3 (List.mem_of_getElem? (i := 94) (by decide +kernel))) rfl
theorem wm_470 : Cond.selects RX2 yX2_appendCheckpoint yX2_appendCheckpoint ∈ wsL_law := wm (wt_3 (List.mem_of_getElem? (i := 95) (by decide +kernel))) rfl
theorem wm_471 : Cond.code yX2_appendCheckpoint cX2_appendCheckpoint 6 (some .int) ∈ wsL_law := wm (wt_3 (List.mem_of_getElem? (i := 96) rfl)) rfl
theorem wm_472 : Cond.methodLink RX2 72 yX2_append ∈ wsL_law := wm (wt_3 (List.mem_of_getElem? (i := 97) (by decide +kernel))) rfl
theorem wm_473 : Cond.methodLink RX2 85 yX2_forceUpTo ∈ wsL_law := wm (wt_3 (List.mem_of_getElem? (i := 98) (by decide +kernel))) rfl
theorem wm_474 : Cond.methodLink RL 80 yX7_force ∈ wsL_law := wm (wt_3 (List.mem_of_getElem? (i := 99) (by decide +kernel))) rfl
theorem wm_475 : Cond.instanceMethod yX7_force ∈ wsL_law := wm (wt_3 (List.mem_of_getElem? (i := 100) (by decide +kernel))) rfl
theorem wm_476 : Cond.selects RX7 yX7_force yX7_force ∈ wsL_law := wm (wt_3 (List.mem_of_getElem? (i := 101) (by decide +kernel))) rfl
theorem wm_477 : Cond.code yX7_force cX7_force 1 (some .int) ∈ wsL_law := wm (wt_3 (List.mem_of_getElem? (i := 102) rfl)) rfl
theorem wm_478 : Cond.methodLink RX7 74 yX6_forceAll ∈ wsL_law := wm (wt_3 (List.mem_of_getElem? (i := 103) (by decide +kernel))) rfl
theorem wm_479 : Cond.instanceMethod yX6_forceAll ∈ wsL_law := wm (wt_3 (List.mem_of_getElem? (i := 104) (by decide +kernel))) rfl
theorem wm_480 : Cond.selects RX6 yX6_forceAll yX6_forceAll ∈ wsL_law := wm (wt_3 (List.mem_of_getElem? (i := 105) (by decide +kernel))) rfl
theorem wm_481 : Cond.code yX6_forceAll cX6_forceAll 1 (some .int) ∈ wsL_law := wm (wt_3 (List.mem_of_getElem? (i := 106) rfl)) rfl
theorem wm_482 : Cond.methodLink RL 82 yX7_stop ∈ wsL_law := wm (wt_3 (List.mem_of_getElem? (i := 107) (by decide +kernel))) rfl
theorem wm_483 : Cond.instanceMethod yX7_stop ∈ wsL_law := wm (wt_3 (List.mem_of_getElem? (i := 108) (by decide +kernel))) rfl
theorem wm_484 : Cond.selects RX7 yX7_stop yX7_stop ∈ wsL_law := wm (wt_3 (List.mem_of_getElem? (i := 109) (by decide +kernel))) rfl
theorem wm_485 : Cond.code yX7_stop cX7_stop 2 (some .int) ∈ wsL_law := wm (wt_3 (List.mem_of_getElem? (i := 110) rfl)) rfl
theorem wm_486 : Cond.methodLink RX7 77 yX6_stopStore ∈ wsL_law := wm (wt_3 (List.mem_of_getElem? (i := 111) (by decide +kernel))) rfl
theorem wm_487 : Cond.instanceMethod yX6_stopStore ∈ wsL_law := wm (wt_3 (List.mem_of_getElem? (i := 112) (by decide +kernel))) rfl
theorem wm_488 : Cond.selects RX6 yX6_stopStore yX6_stopStore ∈ wsL_law := wm (wt_3 (List.mem_of_getElem? (i := 113) (by decide +kernel))) rfl
theorem wm_489 : Cond.code yX6_stopStore cX6_stopStore 3 (some .int) ∈ wsL_law := wm (wt_3 (List.mem_of_getElem? (i := 114) rfl)) rfl
theorem wm_490 : Cond.methodLink RX6 161 yX4_highestDiskMark ∈ wsL_law := wm (wt_3 (List.mem_of_getElem? (i := 115) (by decide +kernel))) rfl
theorem wm_491 : Cond.instanceMethod yX4_highestDiskMark ∈ wsL_law := wm (wt_3 (List.mem_of_getElem? (i := 116) (by decide +kernel))) rfl
theorem wm_492 : Cond.selects RX4 yX4_highestDiskMark yX4_highestDiskMark ∈ wsL_law := wm (wt_3 (List.mem_of_getElem? (i := 117) (by decide +kernel))) rfl
theorem wm_493 : Cond.code yX4_highestDiskMark cX4_highestDiskMark 3 (some .int) ∈ wsL_law := wm (wt_3 (List.mem_of_getElem? (i := 118) rfl)) rfl
theorem wm_494 : Cond.methodLink RX4 41 Lib.Math.max.name ∈ wsL_law := wm (wt_3 (List.mem_of_getElem? (i := 119) (by decide +kernel))) rfl
theorem wm_495 : Cond.methodLink RX6 164 yX2_loseRecords ∈ wsL_law := wm (wt_3 (List.mem_of_getElem? (i := 120) (by decide +kernel))) rfl
theorem wm_496 : Cond.instanceMethod yX2_loseRecords ∈ wsL_law := wm (wt_3 (List.mem_of_getElem? (i := 121) (by decide +kernel))) rfl
theorem wm_497 : Cond.selects RX2 yX2_loseRecords yX2_loseRecords ∈ wsL_law := wm (wt_3 (List.mem_of_getElem? (i := 122) (by decide +kernel))) rfl
theorem wm_498 : Cond.code yX2_loseRecords cX2_loseRecords 6 (some .int) ∈ wsL_law := wm (wt_3 (List.mem_of_getElem? (i := 123) rfl)) rfl
theorem wm_499 : Cond.methodLink RX6 168 yX4_emptyCache ∈ wsL_law := wm (wt_3 (List.mem_of_getElem? (i := 129) (by decide +kernel))) rfl
theorem wm_500 : Cond.instanceMethod yX4_emptyCache ∈ wsL_law := wm (wt_3 (List.mem_of_getElem? (i := 130) (by decide +kernel))) rfl
theorem wm_501 : Cond.selects RX4 yX4_emptyCache yX4_emptyCache ∈ wsL_law := wm (wt_3 (List.mem_of_getElem? (i := 131) (by decide +kernel))) rfl
theorem wm_502 : Cond.code yX4_emptyCache cX4_emptyCache 1 none ∈ wsL_law := wm (wt_3 (List.mem_of_getElem? (i := 132) rfl)) rfl
theorem wm_503 : Cond.methodLink RL 85 yX7_would ∈ wsL_law := wm (wt_3 (List.mem_of_getElem? (i := 133) (by decide +kernel))) rfl
theorem wm_504 : Cond.instanceMethod yX7_would ∈ wsL_law := wm (wt_3 (List.mem_of_getElem? (i := 134) (by decide +kernel))) rfl
theorem wm_505 : Cond.selects RX7 yX7_would yX7_would ∈ wsL_law := wm (wt_3 (List.mem_of_getElem? (i := 135) (by decide +kernel))) rfl
theorem wm_506 : Cond.code yX7_would cX7_would 5 (some .int) ∈ wsL_law := wm (wt_3 (List.mem_of_getElem? (i := 136) rfl)) rfl
theorem wm_507 : Cond.constant RX7 119 (-1000002) ∈ wsL_law := wm (wt_3 (List.mem_of_getElem? (i := 137) (by decide +kernel))) rfl
theorem wm_508 : Cond.methodLink RX7 120 yX6_copyFrom ∈ wsL_law := wm (wt_3 (List.mem_of_getElem? (i := 138) (by decide +kernel))) rfl
theorem wm_509 : Cond.methodLink RX7 123 yX4_valueOf ∈ wsL_law := wm (wt_3 (List.mem_of_getElem? (i := 139) (by decide +kernel))) rfl
theorem wm_510 : Cond.methodLink RX7 126 yX5_tell ∈ wsL_law := wm (wt_3 (List.mem_of_getElem? (i := 140) (by decide +kernel))) rfl
theorem wm_511 : Cond.instanceMethod yX5_tell ∈ wsL_law := wm (wt_3 (List.mem_of_getElem? (i := 141) (by decide +kernel))) rfl
theorem wm_512 : Cond.selects RX5 yX5_tell yX5_tell ∈ wsL_law := wm (wt_3 (List.mem_of_getElem? (i := 142) (by decide +kernel))) rfl
theorem wm_513 : Cond.code yX5_tell cX5_tell 2 (some .int) ∈ wsL_law := wm (wt_3 (List.mem_of_getElem? (i := 143) rfl)) rfl
theorem wm_514 : Cond.constant RX5 69 (-1000004) ∈ wsL_law := wm (wt_3 (List.mem_of_getElem? (i := 144) (by decide +kernel))) rfl
theorem wm_515 : Cond.methodLink RL 88 yL_start ∈ wsL_law := wm (wt_3 (List.mem_of_getElem? (i := 145) (by decide +kernel))) rfl
theorem wm_516 : Cond.static yL_start ∈ wsL_law := wm (wt_3 (List.mem_of_getElem? (i := 146) (by decide +kernel))) rfl
theorem wm_517 : Cond.code yL_start cL_start 11 (some .int) ∈ wsL_law := wm (wt_3 (List.mem_of_getElem? (i := 147) rfl)) rfl
theorem wm_518 : Cond.methodLink RL 30 yL_come ∈ wsL_law := wm (wt_3 (List.mem_of_getElem? (i := 160) (by decide +kernel))) rfl
theorem wm_519 : Cond.static yL_come ∈ wsL_law := wm (wt_3 (List.mem_of_getElem? (i := 161) (by decide +kernel))) rfl
theorem wm_520 : Cond.code yL_come cL_come 4 none ∈ wsL_law := wm (wt_3 (List.mem_of_getElem? (i := 162) rfl)) rfl
theorem wm_521 : Cond.methodLink RL 38 yL_back ∈ wsL_law := wm (wt_3 (List.mem_of_getElem? (i := 163) (by decide +kernel))) rfl
theorem wm_522 : Cond.static yL_back ∈ wsL_law := wm (wt_3 (List.mem_of_getElem? (i := 164) (by decide +kernel))) rfl
theorem wm_523 : Cond.code yL_back cL_back 11 (some .int) ∈ wsL_law := wm (wt_3 (List.mem_of_getElem? (i := 165) rfl)) rfl
theorem wm_524 : Cond.methodLink RL 23 yL_add ∈ wsL_law := wm (wt_3 (List.mem_of_getElem? (i := 166) (by decide +kernel))) rfl
theorem wm_525 : Cond.static yL_add ∈ wsL_law := wm (wt_3 (List.mem_of_getElem? (i := 167) (by decide +kernel))) rfl
theorem wm_526 : Cond.code yL_add cL_add 8 (some .int) ∈ wsL_law := wm (wt_3 (List.mem_of_getElem? (i := 168) rfl)) rfl
theorem wm_527 : Cond.methodLink RL 42 yL_force ∈ wsL_law := wm (wt_3 (List.mem_of_getElem? (i := 172) (by decide +kernel))) rfl
theorem wm_528 : Cond.static yL_force ∈ wsL_law := wm (wt_3 (List.mem_of_getElem? (i := 173) (by decide +kernel))) rfl
theorem wm_529 : Cond.code yL_force cL_force 3 (some .int) ∈ wsL_law := wm (wt_3 (List.mem_of_getElem? (i := 174) rfl)) rfl
theorem wm_530 : Cond.methodLink RL 108 yL_stop ∈ wsL_law := wm (wt_3 (List.mem_of_getElem? (i := 187) (by decide +kernel))) rfl
theorem wm_531 : Cond.static yL_stop ∈ wsL_law := wm (wt_3 (List.mem_of_getElem? (i := 188) (by decide +kernel))) rfl
theorem wm_532 : Cond.code yL_stop cL_stop 9 (some .int) ∈ wsL_law := wm (wt_3 (List.mem_of_getElem? (i := 189) rfl)) rfl
