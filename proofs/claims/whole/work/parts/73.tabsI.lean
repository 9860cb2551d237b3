/-! ===== the constructors, instruction by instruction ===== -/
theorem wm2_3 : Cond.methodLink RX2 3 Lib.objectInit ∈ W0 := in_t1 (i := 119) rfl rfl
theorem w_oi : Cond.instanceMethod Lib.objectInit ∈ W0 := in_t1 (i := 18) rfl rfl
theorem w_oc : Cond.code Lib.objectInit ⟨#[0xb1]⟩ 1 none ∈ W0 := in_t1 (i := 19) rfl rfl
theorem wac_int : Cond.arrayClass .int ∈ W0 := in_t1 (i := 47) rfl rfl
theorem wc_2_init : Cond.code yX2_init cX2_init 1 none ∈ W0 := in_t1 (i := 118) rfl rfl
theorem wm4_3 : Cond.methodLink RX4 3 Lib.objectInit ∈ W0 := in_t1 (i := 33) rfl rfl
theorem wcl4_9 : Cond.classLink RX4 9 ("[" ++ (FieldType.array .int).toString) ∈ W0 := in_t1 (i := 34) rfl rfl
theorem wc_4_init : Cond.code yX4_init cX4_init 1 none ∈ W0 := in_t1 (i := 32) rfl rfl
theorem wm5_3 : Cond.methodLink RX5 3 Lib.objectInit ∈ W0 := in_t1 (i := 153) rfl rfl
theorem wc_5_init : Cond.code yX5_init cX5_init 1 none ∈ W0 := in_t1 (i := 152) rfl rfl
theorem wm8_1 : Cond.methodLink RX8 1 Lib.objectInit ∈ W0 := in_t3 (i := 171) rfl rfl
theorem wac_boolean : Cond.arrayClass .boolean ∈ W0 := in_t3 (i := 236) rfl rfl
theorem wc_8_init : Cond.code yX8_init cX8_init 1 none ∈ W0 := in_t3 (i := 170) rfl rfl
theorem wm0_3 : Cond.methodLink RX0 3 Lib.objectInit ∈ W0 := in_t1 (i := 215) rfl rfl
theorem wcl0_21 : Cond.classLink RX0 21 RX2 ∈ W0 := in_t1 (i := 216) rfl rfl
theorem wib_2 : Cond.instantiable RX2 7 ∈ W0 := in_t1 (i := 115) rfl rfl
theorem wi_2_init : Cond.instanceMethod yX2_init ∈ W0 := in_t1 (i := 117) rfl rfl
theorem wcl0_28 : Cond.classLink RX0 28 RX5 ∈ W0 := in_t1 (i := 218) rfl rfl
theorem wib_5 : Cond.instantiable RX5 3 ∈ W0 := in_t1 (i := 149) rfl rfl
theorem wi_5_init : Cond.instanceMethod yX5_init ∈ W0 := in_t1 (i := 151) rfl rfl
theorem wc_0_init : Cond.code yX0_init cX0_init 1 none ∈ W0 := in_t1 (i := 214) rfl rfl
theorem wm1_3 : Cond.methodLink RX1 3 Lib.objectInit ∈ W0 := in_t1 (i := 25) rfl rfl
theorem wcl1_9 : Cond.classLink RX1 9 ("[" ++ (FieldType.array .int).toString) ∈ W0 := in_t1 (i := 26) rfl rfl
theorem wcl1_16 : Cond.classLink RX1 16 RX4 ∈ W0 := in_t1 (i := 28) rfl rfl
theorem wib_4 : Cond.instantiable RX4 2 ∈ W0 := in_t1 (i := 29) rfl rfl
theorem wi_4_init : Cond.instanceMethod yX4_init ∈ W0 := in_t1 (i := 31) rfl rfl
theorem wm1_30 : Cond.methodLink RX1 30 ⟨"[I", "clone", "()Ljava/lang/Object;"⟩ ∈ W0 := in_t1 (i := 50) rfl rfl
theorem w_same : Cond.sameMethod "[I" "java/lang/Object" "clone" "()Ljava/lang/Object;" ∈ W0 := in_t1 (i := 51) rfl rfl
theorem w_natcl : Cond.native ⟨"java/lang/Object", "clone", "()Ljava/lang/Object;"⟩ ∈ W0 := in_t1 (i := 52) rfl rfl
theorem w_instcl : Cond.instanceMethod ⟨"java/lang/Object", "clone", "()Ljava/lang/Object;"⟩ ∈ W0 := in_t1 (i := 53) rfl rfl
theorem w_selcl : Cond.selects "[I" ⟨"[I", "clone", "()Ljava/lang/Object;"⟩ ⟨"java/lang/Object", "clone", "()Ljava/lang/Object;"⟩ ∈ W0 := in_t1 (i := 54) rfl rfl
theorem wcl1_31 : Cond.classLink RX1 31 "[I" ∈ W0 := in_t1 (i := 56) rfl rfl
theorem wc_1_init : Cond.code yX1_init cX1_init 1 none ∈ W0 := in_t1 (i := 24) rfl rfl
theorem wm6_3 : Cond.methodLink RX6 3 Lib.objectInit ∈ W0 := in_t1 (i := 112) rfl rfl
theorem wcl6_22 : Cond.classLink RX6 22 ("[" ++ (FieldType.array .int).toString) ∈ W0 := in_t1 (i := 113) rfl rfl
theorem wcl6_30 : Cond.classLink RX6 30 RX2 ∈ W0 := in_t1 (i := 114) rfl rfl
theorem wcl6_40 : Cond.classLink RX6 40 RX5 ∈ W0 := in_t1 (i := 148) rfl rfl
theorem wc_6_init : Cond.code yX6_init cX6_init 1 none ∈ W0 := in_t1 (i := 111) rfl rfl
theorem wm3_3 : Cond.methodLink RX3 3 Lib.objectInit ∈ W0 := in_t1 (i := 92) rfl rfl
theorem wcl3_9 : Cond.classLink RX3 9 RX1 ∈ W0 := in_t1 (i := 93) rfl rfl
theorem wib_1 : Cond.instantiable RX1 5 ∈ W0 := in_t1 (i := 21) rfl rfl
theorem wi_1_init : Cond.instanceMethod yX1_init ∈ W0 := in_t1 (i := 23) rfl rfl
theorem wc_3_init : Cond.code yX3_init cX3_init 2 none ∈ W0 := in_t1 (i := 91) rfl rfl
theorem wm7_1 : Cond.methodLink RX7 1 Lib.objectInit ∈ W0 := in_t1 (i := 17) rfl rfl
theorem wcl7_7 : Cond.classLink RX7 7 RX1 ∈ W0 := in_t1 (i := 20) rfl rfl
theorem wcl7_16 : Cond.classLink RX7 16 RX3 ∈ W0 := in_t1 (i := 87) rfl rfl
theorem wib_3 : Cond.instantiable RX3 3 ∈ W0 := in_t1 (i := 88) rfl rfl
theorem wi_3_init : Cond.instanceMethod yX3_init ∈ W0 := in_t1 (i := 90) rfl rfl
theorem wm7_18 : Cond.methodLink RX7 18 yX3_init ∈ W0 := in_t1 (i := 89) rfl rfl
theorem wcl7_23 : Cond.classLink RX7 23 RX6 ∈ W0 := in_t1 (i := 107) rfl rfl
theorem wib_6 : Cond.instantiable RX6 11 ∈ W0 := in_t1 (i := 108) rfl rfl
theorem wi_6_init : Cond.instanceMethod yX6_init ∈ W0 := in_t1 (i := 110) rfl rfl
theorem wcl7_30 : Cond.classLink RX7 30 RX0 ∈ W0 := in_t1 (i := 210) rfl rfl
theorem wib_0 : Cond.instantiable RX0 7 ∈ W0 := in_t1 (i := 211) rfl rfl
theorem wi_0_init : Cond.instanceMethod yX0_init ∈ W0 := in_t1 (i := 213) rfl rfl
theorem wc_7_init : Cond.code yX7_init cX7_init 1 none ∈ W0 := in_t1 (i := 16) rfl rfl
theorem wclL_7 : Cond.classLink RL 7 RX7 ∈ W0 := in_t1 (i := 12) rfl rfl
theorem wib_7 : Cond.instantiable RX7 4 ∈ W0 := in_t1 (i := 13) rfl rfl
theorem wi_7_init : Cond.instanceMethod yX7_init ∈ W0 := in_t1 (i := 15) rfl rfl
theorem wmL_9 : Cond.methodLink RL 9 yX7_init ∈ W0 := in_t1 (i := 14) rfl rfl
theorem wclL_10 : Cond.classLink RL 10 RX8 ∈ W0 := in_t3 (i := 166) rfl rfl
theorem wib_8 : Cond.instantiable RX8 21 ∈ W0 := in_t3 (i := 167) rfl rfl
theorem wi_8_init : Cond.instanceMethod yX8_init ∈ W0 := in_t3 (i := 169) rfl rfl
theorem wmL_12 : Cond.methodLink RL 12 yX8_init ∈ W0 := in_t3 (i := 168) rfl rfl
theorem wmL_118 : Cond.methodLink RL 118 yX7_splitPairs ∈ W0 := in_t3 (i := 158) rfl rfl
theorem wi_7_splitPairs : Cond.instanceMethod yX7_splitPairs ∈ W0 := in_t3 (i := 159) rfl rfl
theorem wl_7_splitPairs : Cond.selects RX7 yX7_splitPairs yX7_splitPairs ∈ W0 := in_t3 (i := 160) rfl rfl
theorem wmL_121 : Cond.methodLink RL 121 yX8_splitPairs ∈ W0 := in_t4 (i := 211) rfl rfl
theorem wi_8_splitPairs : Cond.instanceMethod yX8_splitPairs ∈ W0 := in_t4 (i := 212) rfl rfl
theorem wl_8_splitPairs : Cond.selects RX8 yX8_splitPairs yX8_splitPairs ∈ W0 := in_t4 (i := 213) rfl rfl
theorem wmL_114 : Cond.methodLink RL 114 yX7_overfullWith ∈ W0 := in_t3 (i := 150) rfl rfl
theorem wi_7_overfullWith : Cond.instanceMethod yX7_overfullWith ∈ W0 := in_t3 (i := 151) rfl rfl
theorem wl_7_overfullWith : Cond.selects RX7 yX7_overfullWith yX7_overfullWith ∈ W0 := in_t3 (i := 152) rfl rfl
theorem wmL_117 : Cond.methodLink RL 117 yX8_overfullWith ∈ W0 := in_t4 (i := 207) rfl rfl
theorem wi_8_overfullWith : Cond.instanceMethod yX8_overfullWith ∈ W0 := in_t4 (i := 208) rfl rfl
theorem wl_8_overfullWith : Cond.selects RX8 yX8_overfullWith yX8_overfullWith ∈ W0 := in_t4 (i := 209) rfl rfl
theorem wmL_110 : Cond.methodLink RL 110 yX7_leastHeight ∈ W0 := in_t3 (i := 146) rfl rfl
theorem wi_7_leastHeight : Cond.instanceMethod yX7_leastHeight ∈ W0 := in_t3 (i := 147) rfl rfl
theorem wl_7_leastHeight : Cond.selects RX7 yX7_leastHeight yX7_leastHeight ∈ W0 := in_t3 (i := 148) rfl rfl
theorem wmL_113 : Cond.methodLink RL 113 yX8_leastHeight ∈ W0 := in_t4 (i := 203) rfl rfl
theorem wi_8_leastHeight : Cond.instanceMethod yX8_leastHeight ∈ W0 := in_t4 (i := 204) rfl rfl
theorem wl_8_leastHeight : Cond.selects RX8 yX8_leastHeight yX8_leastHeight ∈ W0 := in_t4 (i := 205) rfl rfl
theorem wmL_106 : Cond.methodLink RL 106 yX7_bestBreak ∈ W0 := in_t3 (i := 142) rfl rfl
theorem wi_7_bestBreak : Cond.instanceMethod yX7_bestBreak ∈ W0 := in_t3 (i := 143) rfl rfl
theorem wl_7_bestBreak : Cond.selects RX7 yX7_bestBreak yX7_bestBreak ∈ W0 := in_t3 (i := 144) rfl rfl
theorem wmL_109 : Cond.methodLink RL 109 yX8_bestBreak ∈ W0 := in_t4 (i := 199) rfl rfl
theorem wi_8_bestBreak : Cond.instanceMethod yX8_bestBreak ∈ W0 := in_t4 (i := 200) rfl rfl
theorem wl_8_bestBreak : Cond.selects RX8 yX8_bestBreak yX8_bestBreak ∈ W0 := in_t4 (i := 201) rfl rfl
theorem wmL_102 : Cond.methodLink RL 102 yX7_bestCost ∈ W0 := in_t3 (i := 111) rfl rfl
theorem wi_7_bestCost : Cond.instanceMethod yX7_bestCost ∈ W0 := in_t3 (i := 112) rfl rfl
theorem wl_7_bestCost : Cond.selects RX7 yX7_bestCost yX7_bestCost ∈ W0 := in_t3 (i := 113) rfl rfl
theorem wmL_105 : Cond.methodLink RL 105 yX8_bestCost ∈ W0 := in_t4 (i := 183) rfl rfl
theorem wi_8_bestCost : Cond.instanceMethod yX8_bestCost ∈ W0 := in_t4 (i := 184) rfl rfl
theorem wl_8_bestCost : Cond.selects RX8 yX8_bestCost yX8_bestCost ∈ W0 := in_t4 (i := 185) rfl rfl
theorem wmL_98 : Cond.methodLink RL 98 yX7_cost ∈ W0 := in_t3 (i := 103) rfl rfl
theorem wi_7_cost : Cond.instanceMethod yX7_cost ∈ W0 := in_t3 (i := 104) rfl rfl
theorem wl_7_cost : Cond.selects RX7 yX7_cost yX7_cost ∈ W0 := in_t3 (i := 105) rfl rfl
theorem wmL_101 : Cond.methodLink RL 101 yX8_cost ∈ W0 := in_t4 (i := 179) rfl rfl
theorem wi_8_cost : Cond.instanceMethod yX8_cost ∈ W0 := in_t4 (i := 180) rfl rfl
theorem wl_8_cost : Cond.selects RX8 yX8_cost yX8_cost ∈ W0 := in_t4 (i := 181) rfl rfl
theorem wmL_94 : Cond.methodLink RL 94 yX7_shown ∈ W0 := in_t3 (i := 86) rfl rfl
theorem wi_7_shown : Cond.instanceMethod yX7_shown ∈ W0 := in_t3 (i := 87) rfl rfl
theorem wl_7_shown : Cond.selects RX7 yX7_shown yX7_shown ∈ W0 := in_t3 (i := 88) rfl rfl
theorem wmL_97 : Cond.methodLink RL 97 yX8_shown ∈ W0 := in_t4 (i := 171) rfl rfl
theorem wi_8_shown : Cond.instanceMethod yX8_shown ∈ W0 := in_t4 (i := 172) rfl rfl
theorem wl_8_shown : Cond.selects RX8 yX8_shown yX8_shown ∈ W0 := in_t4 (i := 173) rfl rfl
theorem wmL_90 : Cond.methodLink RL 90 yX7_rowOf ∈ W0 := in_t3 (i := 78) rfl rfl
theorem wi_7_rowOf : Cond.instanceMethod yX7_rowOf ∈ W0 := in_t3 (i := 79) rfl rfl
theorem wl_7_rowOf : Cond.selects RX7 yX7_rowOf yX7_rowOf ∈ W0 := in_t3 (i := 80) rfl rfl
theorem wmL_93 : Cond.methodLink RL 93 yX8_rowOf ∈ W0 := in_t4 (i := 167) rfl rfl
theorem wi_8_rowOf : Cond.instanceMethod yX8_rowOf ∈ W0 := in_t4 (i := 168) rfl rfl
theorem wl_8_rowOf : Cond.selects RX8 yX8_rowOf yX8_rowOf ∈ W0 := in_t4 (i := 169) rfl rfl
theorem wmL_86 : Cond.methodLink RL 86 yX7_spreadOf ∈ W0 := in_t3 (i := 62) rfl rfl
theorem wi_7_spreadOf : Cond.instanceMethod yX7_spreadOf ∈ W0 := in_t3 (i := 63) rfl rfl
theorem wl_7_spreadOf : Cond.selects RX7 yX7_spreadOf yX7_spreadOf ∈ W0 := in_t3 (i := 64) rfl rfl
theorem wmL_89 : Cond.methodLink RL 89 yX8_spreadOf ∈ W0 := in_t4 (i := 159) rfl rfl
theorem wi_8_spreadOf : Cond.instanceMethod yX8_spreadOf ∈ W0 := in_t4 (i := 160) rfl rfl
theorem wl_8_spreadOf : Cond.selects RX8 yX8_spreadOf yX8_spreadOf ∈ W0 := in_t4 (i := 161) rfl rfl
theorem wmL_82 : Cond.methodLink RL 82 yX7_isOverfull ∈ W0 := in_t3 (i := 58) rfl rfl
theorem wi_7_isOverfull : Cond.instanceMethod yX7_isOverfull ∈ W0 := in_t3 (i := 59) rfl rfl
theorem wl_7_isOverfull : Cond.selects RX7 yX7_isOverfull yX7_isOverfull ∈ W0 := in_t3 (i := 60) rfl rfl
theorem wmL_85 : Cond.methodLink RL 85 yX8_isOverfull ∈ W0 := in_t4 (i := 155) rfl rfl
theorem wi_8_isOverfull : Cond.instanceMethod yX8_isOverfull ∈ W0 := in_t4 (i := 156) rfl rfl
theorem wl_8_isOverfull : Cond.selects RX8 yX8_isOverfull yX8_isOverfull ∈ W0 := in_t4 (i := 157) rfl rfl
theorem wmL_78 : Cond.methodLink RL 78 yX7_pageInfo ∈ W0 := in_t3 (i := 54) rfl rfl
theorem wi_7_pageInfo : Cond.instanceMethod yX7_pageInfo ∈ W0 := in_t3 (i := 55) rfl rfl
theorem wl_7_pageInfo : Cond.selects RX7 yX7_pageInfo yX7_pageInfo ∈ W0 := in_t3 (i := 56) rfl rfl
theorem wmL_81 : Cond.methodLink RL 81 yX8_pageInfo ∈ W0 := in_t4 (i := 147) rfl rfl
theorem wi_8_pageInfo : Cond.instanceMethod yX8_pageInfo ∈ W0 := in_t4 (i := 148) rfl rfl
theorem wl_8_pageInfo : Cond.selects RX8 yX8_pageInfo yX8_pageInfo ∈ W0 := in_t4 (i := 149) rfl rfl
theorem wmL_74 : Cond.methodLink RL 74 yX7_segmentInfo ∈ W0 := in_t3 (i := 50) rfl rfl
theorem wi_7_segmentInfo : Cond.instanceMethod yX7_segmentInfo ∈ W0 := in_t3 (i := 51) rfl rfl
theorem wl_7_segmentInfo : Cond.selects RX7 yX7_segmentInfo yX7_segmentInfo ∈ W0 := in_t3 (i := 52) rfl rfl
theorem wmL_77 : Cond.methodLink RL 77 yX8_segmentInfo ∈ W0 := in_t4 (i := 143) rfl rfl
theorem wi_8_segmentInfo : Cond.instanceMethod yX8_segmentInfo ∈ W0 := in_t4 (i := 144) rfl rfl
theorem wl_8_segmentInfo : Cond.selects RX8 yX8_segmentInfo yX8_segmentInfo ∈ W0 := in_t4 (i := 145) rfl rfl
theorem wmL_70 : Cond.methodLink RL 70 yX7_segmentCount ∈ W0 := in_t3 (i := 37) rfl rfl
theorem wi_7_segmentCount : Cond.instanceMethod yX7_segmentCount ∈ W0 := in_t3 (i := 38) rfl rfl
theorem wl_7_segmentCount : Cond.selects RX7 yX7_segmentCount yX7_segmentCount ∈ W0 := in_t3 (i := 39) rfl rfl
theorem wmL_73 : Cond.methodLink RL 73 yX8_segmentCount ∈ W0 := in_t4 (i := 135) rfl rfl
theorem wi_8_segmentCount : Cond.instanceMethod yX8_segmentCount ∈ W0 := in_t4 (i := 136) rfl rfl
theorem wl_8_segmentCount : Cond.selects RX8 yX8_segmentCount yX8_segmentCount ∈ W0 := in_t4 (i := 137) rfl rfl
theorem wmL_66 : Cond.methodLink RL 66 yX7_spreadCount ∈ W0 := in_t2 (i := 178) rfl rfl
theorem wi_7_spreadCount : Cond.instanceMethod yX7_spreadCount ∈ W0 := in_t2 (i := 179) rfl rfl
theorem wl_7_spreadCount : Cond.selects RX7 yX7_spreadCount yX7_spreadCount ∈ W0 := in_t2 (i := 180) rfl rfl
theorem wmL_69 : Cond.methodLink RL 69 yX8_spreadCount ∈ W0 := in_t4 (i := 75) rfl rfl
theorem wi_8_spreadCount : Cond.instanceMethod yX8_spreadCount ∈ W0 := in_t4 (i := 76) rfl rfl
theorem wl_8_spreadCount : Cond.selects RX8 yX8_spreadCount yX8_spreadCount ∈ W0 := in_t4 (i := 77) rfl rfl
theorem wmL_62 : Cond.methodLink RL 62 yX7_noteInfo ∈ W0 := in_t2 (i := 174) rfl rfl
theorem wi_7_noteInfo : Cond.instanceMethod yX7_noteInfo ∈ W0 := in_t2 (i := 175) rfl rfl
theorem wl_7_noteInfo : Cond.selects RX7 yX7_noteInfo yX7_noteInfo ∈ W0 := in_t2 (i := 176) rfl rfl
theorem wmL_65 : Cond.methodLink RL 65 yX8_noteInfo ∈ W0 := in_t4 (i := 71) rfl rfl
theorem wi_8_noteInfo : Cond.instanceMethod yX8_noteInfo ∈ W0 := in_t4 (i := 72) rfl rfl
theorem wl_8_noteInfo : Cond.selects RX8 yX8_noteInfo yX8_noteInfo ∈ W0 := in_t4 (i := 73) rfl rfl
theorem wmL_58 : Cond.methodLink RL 58 yX7_noteCount ∈ W0 := in_t2 (i := 170) rfl rfl
theorem wi_7_noteCount : Cond.instanceMethod yX7_noteCount ∈ W0 := in_t2 (i := 171) rfl rfl
theorem wl_7_noteCount : Cond.selects RX7 yX7_noteCount yX7_noteCount ∈ W0 := in_t2 (i := 172) rfl rfl
theorem wmL_61 : Cond.methodLink RL 61 yX8_noteCount ∈ W0 := in_t4 (i := 67) rfl rfl
theorem wi_8_noteCount : Cond.instanceMethod yX8_noteCount ∈ W0 := in_t4 (i := 68) rfl rfl
theorem wl_8_noteCount : Cond.selects RX8 yX8_noteCount yX8_noteCount ∈ W0 := in_t4 (i := 69) rfl rfl
theorem wmL_54 : Cond.methodLink RL 54 yX7_pairInfo ∈ W0 := in_t2 (i := 166) rfl rfl
theorem wi_7_pairInfo : Cond.instanceMethod yX7_pairInfo ∈ W0 := in_t2 (i := 167) rfl rfl
theorem wl_7_pairInfo : Cond.selects RX7 yX7_pairInfo yX7_pairInfo ∈ W0 := in_t2 (i := 168) rfl rfl
theorem wmL_57 : Cond.methodLink RL 57 yX8_pairInfo ∈ W0 := in_t4 (i := 63) rfl rfl
theorem wi_8_pairInfo : Cond.instanceMethod yX8_pairInfo ∈ W0 := in_t4 (i := 64) rfl rfl
theorem wl_8_pairInfo : Cond.selects RX8 yX8_pairInfo yX8_pairInfo ∈ W0 := in_t4 (i := 65) rfl rfl
theorem wmL_50 : Cond.methodLink RL 50 yX7_pairCount ∈ W0 := in_t2 (i := 162) rfl rfl
theorem wi_7_pairCount : Cond.instanceMethod yX7_pairCount ∈ W0 := in_t2 (i := 163) rfl rfl
theorem wl_7_pairCount : Cond.selects RX7 yX7_pairCount yX7_pairCount ∈ W0 := in_t2 (i := 164) rfl rfl
theorem wmL_53 : Cond.methodLink RL 53 yX8_pairCount ∈ W0 := in_t4 (i := 59) rfl rfl
theorem wi_8_pairCount : Cond.instanceMethod yX8_pairCount ∈ W0 := in_t4 (i := 60) rfl rfl
theorem wl_8_pairCount : Cond.selects RX8 yX8_pairCount yX8_pairCount ∈ W0 := in_t4 (i := 61) rfl rfl
theorem wmL_45 : Cond.methodLink RL 45 yX7_undo ∈ W0 := in_t2 (i := 154) rfl rfl
theorem wi_7_undo : Cond.instanceMethod yX7_undo ∈ W0 := in_t2 (i := 155) rfl rfl
theorem wl_7_undo : Cond.selects RX7 yX7_undo yX7_undo ∈ W0 := in_t2 (i := 156) rfl rfl
theorem wmL_49 : Cond.methodLink RL 49 yX8_undo ∈ W0 := in_t4 (i := 55) rfl rfl
theorem wi_8_undo : Cond.instanceMethod yX8_undo ∈ W0 := in_t4 (i := 56) rfl rfl
theorem wl_8_undo : Cond.selects RX8 yX8_undo yX8_undo ∈ W0 := in_t4 (i := 57) rfl rfl
theorem wmL_41 : Cond.methodLink RL 41 yX7_set ∈ W0 := in_t2 (i := 146) rfl rfl
theorem wi_7_set : Cond.instanceMethod yX7_set ∈ W0 := in_t2 (i := 147) rfl rfl
theorem wl_7_set : Cond.selects RX7 yX7_set yX7_set ∈ W0 := in_t2 (i := 148) rfl rfl
theorem wmL_44 : Cond.methodLink RL 44 yX8_set ∈ W0 := in_t4 (i := 51) rfl rfl
theorem wi_8_set : Cond.instanceMethod yX8_set ∈ W0 := in_t4 (i := 52) rfl rfl
theorem wl_8_set : Cond.selects RX8 yX8_set yX8_set ∈ W0 := in_t4 (i := 53) rfl rfl
theorem wmL_36 : Cond.methodLink RL 36 yX7_removeNote ∈ W0 := in_t2 (i := 141) rfl rfl
theorem wi_7_removeNote : Cond.instanceMethod yX7_removeNote ∈ W0 := in_t2 (i := 142) rfl rfl
theorem wl_7_removeNote : Cond.selects RX7 yX7_removeNote yX7_removeNote ∈ W0 := in_t2 (i := 143) rfl rfl
theorem wmL_40 : Cond.methodLink RL 40 yX8_removeNote ∈ W0 := in_t4 (i := 47) rfl rfl
theorem wi_8_removeNote : Cond.instanceMethod yX8_removeNote ∈ W0 := in_t4 (i := 48) rfl rfl
theorem wl_8_removeNote : Cond.selects RX8 yX8_removeNote yX8_removeNote ∈ W0 := in_t4 (i := 49) rfl rfl
theorem wmL_31 : Cond.methodLink RL 31 yX7_addNote ∈ W0 := in_t2 (i := 126) rfl rfl
theorem wi_7_addNote : Cond.instanceMethod yX7_addNote ∈ W0 := in_t2 (i := 127) rfl rfl
theorem wl_7_addNote : Cond.selects RX7 yX7_addNote yX7_addNote ∈ W0 := in_t2 (i := 128) rfl rfl
theorem wmL_35 : Cond.methodLink RL 35 yX8_addNote ∈ W0 := in_t4 (i := 35) rfl rfl
theorem wi_8_addNote : Cond.instanceMethod yX8_addNote ∈ W0 := in_t4 (i := 36) rfl rfl
theorem wl_8_addNote : Cond.selects RX8 yX8_addNote yX8_addNote ∈ W0 := in_t4 (i := 37) rfl rfl
theorem wmL_27 : Cond.methodLink RL 27 yX7_setFlag ∈ W0 := in_t2 (i := 122) rfl rfl
theorem wi_7_setFlag : Cond.instanceMethod yX7_setFlag ∈ W0 := in_t2 (i := 123) rfl rfl
theorem wl_7_setFlag : Cond.selects RX7 yX7_setFlag yX7_setFlag ∈ W0 := in_t2 (i := 124) rfl rfl
theorem wmL_30 : Cond.methodLink RL 30 yX8_setFlag ∈ W0 := in_t4 (i := 31) rfl rfl
theorem wi_8_setFlag : Cond.instanceMethod yX8_setFlag ∈ W0 := in_t4 (i := 32) rfl rfl
theorem wl_8_setFlag : Cond.selects RX8 yX8_setFlag yX8_setFlag ∈ W0 := in_t4 (i := 33) rfl rfl
theorem wmL_23 : Cond.methodLink RL 23 yX7_setLines ∈ W0 := in_t2 (i := 103) rfl rfl
theorem wi_7_setLines : Cond.instanceMethod yX7_setLines ∈ W0 := in_t2 (i := 104) rfl rfl
theorem wl_7_setLines : Cond.selects RX7 yX7_setLines yX7_setLines ∈ W0 := in_t2 (i := 105) rfl rfl
theorem wmL_26 : Cond.methodLink RL 26 yX8_setLines ∈ W0 := in_t4 (i := 20) rfl rfl
theorem wi_8_setLines : Cond.instanceMethod yX8_setLines ∈ W0 := in_t4 (i := 21) rfl rfl
theorem wl_8_setLines : Cond.selects RX8 yX8_setLines yX8_setLines ∈ W0 := in_t4 (i := 22) rfl rfl
theorem wmL_18 : Cond.methodLink RL 18 yX7_remove ∈ W0 := in_t2 (i := 77) rfl rfl
theorem wi_7_remove : Cond.instanceMethod yX7_remove ∈ W0 := in_t2 (i := 78) rfl rfl
theorem wl_7_remove : Cond.selects RX7 yX7_remove yX7_remove ∈ W0 := in_t2 (i := 79) rfl rfl
theorem wmL_22 : Cond.methodLink RL 22 yX8_remove ∈ W0 := in_t4 (i := 8) rfl rfl
theorem wi_8_remove : Cond.instanceMethod yX8_remove ∈ W0 := in_t4 (i := 9) rfl rfl
theorem wl_8_remove : Cond.selects RX8 yX8_remove yX8_remove ∈ W0 := in_t4 (i := 10) rfl rfl
theorem wmL_13 : Cond.methodLink RL 13 yX7_insert ∈ W0 := in_t2 (i := 19) rfl rfl
theorem wi_7_insert : Cond.instanceMethod yX7_insert ∈ W0 := in_t2 (i := 20) rfl rfl
theorem wl_7_insert : Cond.selects RX7 yX7_insert yX7_insert ∈ W0 := in_t2 (i := 21) rfl rfl
theorem wmL_17 : Cond.methodLink RL 17 yX8_insert ∈ W0 := in_t3 (i := 237) rfl rfl
theorem wi_8_insert : Cond.instanceMethod yX8_insert ∈ W0 := in_t3 (i := 238) rfl rfl
theorem wl_8_insert : Cond.selects RX8 yX8_insert yX8_insert ∈ W0 := in_t3 (i := 239) rfl rfl
def M_2_init : MT := (yX2_init, cX2_init, 1, none, 1, 7, 14)
def M_4_init : MT := (yX4_init, cX4_init, 1, none, 1, 4, 123)
def M_5_init : MT := (yX5_init, cX5_init, 1, none, 1, 2, 4)
def M_8_init : MT := (yX8_init, cX8_init, 1, none, 1, 17, 13239)
def M_0_init : MT := (yX0_init, cX0_init, 1, none, 2, 14, 89)
def M_1_init : MT := (yX1_init, cX1_init, 1, none, 2, 16, 340)
def M_6_init : MT := (yX6_init, cX6_init, 1, none, 2, 41, 14488)
def M_3_init : MT := (yX3_init, cX3_init, 2, none, 3, 103, 2076)
def M_7_init : MT := (yX7_init, cX7_init, 1, none, 4, 178, 17019)
def M_L_law : MT := (yL_law, cL_law, 4, some .boolean, 11, 600000, 7302250)
theorem mok_2_init : MOK M_2_init := ⟨by decide, wc_2_init, wn_2, ⟨by decide, by decide⟩, by decide⟩
theorem pn_2_init : (parseMethodDescriptor (m_y M_2_init).desc).map (fun d => d.parameters.length) = some 0 := by decide +kernel
theorem mok_4_init : MOK M_4_init := ⟨by decide, wc_4_init, wn_4, ⟨by decide, by decide⟩, by decide⟩
theorem pn_4_init : (parseMethodDescriptor (m_y M_4_init).desc).map (fun d => d.parameters.length) = some 0 := by decide +kernel
theorem mok_5_init : MOK M_5_init := ⟨by decide, wc_5_init, wn_5, ⟨by decide, by decide⟩, by decide⟩
theorem pn_5_init : (parseMethodDescriptor (m_y M_5_init).desc).map (fun d => d.parameters.length) = some 0 := by decide +kernel
theorem mok_8_init : MOK M_8_init := ⟨by decide, wc_8_init, wn_8, ⟨by decide, by decide⟩, by decide⟩
theorem pn_8_init : (parseMethodDescriptor (m_y M_8_init).desc).map (fun d => d.parameters.length) = some 0 := by decide +kernel
theorem mok_0_init : MOK M_0_init := ⟨by decide, wc_0_init, wn_0, ⟨by decide, by decide⟩, by decide⟩
theorem pn_0_init : (parseMethodDescriptor (m_y M_0_init).desc).map (fun d => d.parameters.length) = some 0 := by decide +kernel
theorem mok_1_init : MOK M_1_init := ⟨by decide, wc_1_init, wn_1, ⟨by decide, by decide⟩, by decide⟩
theorem pn_1_init : (parseMethodDescriptor (m_y M_1_init).desc).map (fun d => d.parameters.length) = some 0 := by decide +kernel
theorem mok_6_init : MOK M_6_init := ⟨by decide, wc_6_init, wn_6, ⟨by decide, by decide⟩, by decide⟩
theorem pn_6_init : (parseMethodDescriptor (m_y M_6_init).desc).map (fun d => d.parameters.length) = some 0 := by decide +kernel
theorem mok_3_init : MOK M_3_init := ⟨by decide, wc_3_init, wn_3, ⟨by decide, by decide⟩, by decide⟩
theorem pn_3_init : (parseMethodDescriptor (m_y M_3_init).desc).map (fun d => d.parameters.length) = some 0 := by decide +kernel
theorem mok_7_init : MOK M_7_init := ⟨by decide, wc_7_init, wn_7, ⟨by decide, by decide⟩, by decide⟩
theorem pn_7_init : (parseMethodDescriptor (m_y M_7_init).desc).map (fun d => d.parameters.length) = some 0 := by decide +kernel
def tab_2_init (X : XT) : Tab := [(0, false, a_aload 0 1), (1, false, a_oi M_2_init 4), (4, false, a_aload 0 5), (5, false, a_const 2 6), (6, false, a_newa M_2_init false 2 8), (8, false, a_pr 2 0 11), (11, false, a_aload 0 12), (12, false, a_const 2 13), (13, false, a_newa M_2_init false 2 15), (15, false, a_pr 2 1 18), (18, false, a_aload 0 19), (19, false, a_const 2 20), (20, false, a_newa M_2_init false 2 22), (22, false, a_pr 2 2 25), (25, false, a_aload 0 26), (26, false, a_const 2 27), (27, false, a_newa M_2_init false 2 29), (29, false, a_pr 2 3 32), (32, false, a_aload 0 33), (33, false, a_const 2 34), (34, false, a_newa M_2_init false 2 36), (36, false, a_pr 2 4 39), (39, false, a_aload 0 40), (40, false, a_const 2 41), (41, false, a_newa M_2_init false 2 43), (43, false, a_pr 2 5 46), (46, false, a_aload 0 47), (47, false, a_const 2 48), (48, false, a_newa M_2_init false 2 50), (50, false, a_pr 2 6 53), (53, false, a_ret M_2_init)]
set_option maxRecDepth 20000 in
theorem t_2_init (X : XT) : tget (tab_2_init X) 0 = some (false, a_aload 0 1) ∧ tget (tab_2_init X) 1 = some (false, a_oi M_2_init 4) ∧ tget (tab_2_init X) 4 = some (false, a_aload 0 5) ∧ tget (tab_2_init X) 5 = some (false, a_const 2 6) ∧ tget (tab_2_init X) 6 = some (false, a_newa M_2_init false 2 8) ∧ tget (tab_2_init X) 8 = some (false, a_pr 2 0 11) ∧ tget (tab_2_init X) 11 = some (false, a_aload 0 12) ∧ tget (tab_2_init X) 12 = some (false, a_const 2 13) ∧ tget (tab_2_init X) 13 = some (false, a_newa M_2_init false 2 15) ∧ tget (tab_2_init X) 15 = some (false, a_pr 2 1 18) ∧ tget (tab_2_init X) 18 = some (false, a_aload 0 19) ∧ tget (tab_2_init X) 19 = some (false, a_const 2 20) ∧ tget (tab_2_init X) 20 = some (false, a_newa M_2_init false 2 22) ∧ tget (tab_2_init X) 22 = some (false, a_pr 2 2 25) ∧ tget (tab_2_init X) 25 = some (false, a_aload 0 26) ∧ tget (tab_2_init X) 26 = some (false, a_const 2 27) ∧ tget (tab_2_init X) 27 = some (false, a_newa M_2_init false 2 29) ∧ tget (tab_2_init X) 29 = some (false, a_pr 2 3 32) ∧ tget (tab_2_init X) 32 = some (false, a_aload 0 33) ∧ tget (tab_2_init X) 33 = some (false, a_const 2 34) ∧ tget (tab_2_init X) 34 = some (false, a_newa M_2_init false 2 36) ∧ tget (tab_2_init X) 36 = some (false, a_pr 2 4 39) ∧ tget (tab_2_init X) 39 = some (false, a_aload 0 40) ∧ tget (tab_2_init X) 40 = some (false, a_const 2 41) ∧ tget (tab_2_init X) 41 = some (false, a_newa M_2_init false 2 43) ∧ tget (tab_2_init X) 43 = some (false, a_pr 2 5 46) ∧ tget (tab_2_init X) 46 = some (false, a_aload 0 47) ∧ tget (tab_2_init X) 47 = some (false, a_const 2 48) ∧ tget (tab_2_init X) 48 = some (false, a_newa M_2_init false 2 50) ∧ tget (tab_2_init X) 50 = some (false, a_pr 2 6 53) ∧ tget (tab_2_init X) 53 = some (false, a_ret M_2_init) := ⟨rfl, rfl, rfl, rfl, rfl, rfl, rfl, rfl, rfl, rfl, rfl, rfl, rfl, rfl, rfl, rfl, rfl, rfl, rfl, rfl, rfl, rfl, rfl, rfl, rfl, rfl, rfl, rfl, rfl, rfl, rfl⟩
theorem tok_2_init (X : XT) : TabOK X M_2_init (tab_2_init X) := by
  unfold tab_2_init
  refine tok_cons (snd_aload_n dX2_init_0 rfl rfl) ?_
  refine tok_cons (snd_oi dX2_init_1 wm2_3 w_oi w_oc (by decide) rfl) ?_
  refine tok_cons (snd_aload_n dX2_init_4 rfl rfl) ?_
  refine tok_cons (snd_iconst dX2_init_5 rfl (inr_d rfl) rfl) ?_
  refine tok_cons (snd_newa dX2_init_6 rfl wac_int (Nat.le_of_ble_eq_true rfl) rfl) ?_
  refine tok_cons (snd_pr (ty := (.array .int)) (C := RX2) (T := TX2) (N := 7) (ty0 := tyX2) dX2_init_8 rfl (by decide) rfl rfl rfl wf2_9 inX2 tyX2_ok nmX2 (by decide +kernel) (fun a => ⟨rfl, rfl⟩) rfl) ?_
  refine tok_cons (snd_aload_n dX2_init_11 rfl rfl) ?_
  refine tok_cons (snd_iconst dX2_init_12 rfl (inr_d rfl) rfl) ?_
  refine tok_cons (snd_newa dX2_init_13 rfl wac_int (Nat.le_of_ble_eq_true rfl) rfl) ?_
  refine tok_cons (snd_pr (ty := (.array .int)) (C := RX2) (T := TX2) (N := 7) (ty0 := tyX2) dX2_init_15 rfl (by decide) rfl rfl rfl wf2_15 inX2 tyX2_ok nmX2 (by decide +kernel) (fun a => ⟨rfl, rfl⟩) rfl) ?_
  refine tok_cons (snd_aload_n dX2_init_18 rfl rfl) ?_
  refine tok_cons (snd_iconst dX2_init_19 rfl (inr_d rfl) rfl) ?_
  refine tok_cons (snd_newa dX2_init_20 rfl wac_int (Nat.le_of_ble_eq_true rfl) rfl) ?_
  refine tok_cons (snd_pr (ty := (.array .int)) (C := RX2) (T := TX2) (N := 7) (ty0 := tyX2) dX2_init_22 rfl (by decide) rfl rfl rfl wf2_18 inX2 tyX2_ok nmX2 (by decide +kernel) (fun a => ⟨rfl, rfl⟩) rfl) ?_
  refine tok_cons (snd_aload_n dX2_init_25 rfl rfl) ?_
  refine tok_cons (snd_iconst dX2_init_26 rfl (inr_d rfl) rfl) ?_
  refine tok_cons (snd_newa dX2_init_27 rfl wac_int (Nat.le_of_ble_eq_true rfl) rfl) ?_
  refine tok_cons (snd_pr (ty := (.array .int)) (C := RX2) (T := TX2) (N := 7) (ty0 := tyX2) dX2_init_29 rfl (by decide) rfl rfl rfl wf2_21 inX2 tyX2_ok nmX2 (by decide +kernel) (fun a => ⟨rfl, rfl⟩) rfl) ?_
  refine tok_cons (snd_aload_n dX2_init_32 rfl rfl) ?_
  refine tok_cons (snd_iconst dX2_init_33 rfl (inr_d rfl) rfl) ?_
  refine tok_cons (snd_newa dX2_init_34 rfl wac_int (Nat.le_of_ble_eq_true rfl) rfl) ?_
  refine tok_cons (snd_pr (ty := (.array .int)) (C := RX2) (T := TX2) (N := 7) (ty0 := tyX2) dX2_init_36 rfl (by decide) rfl rfl rfl wf2_24 inX2 tyX2_ok nmX2 (by decide +kernel) (fun a => ⟨rfl, rfl⟩) rfl) ?_
  refine tok_cons (snd_aload_n dX2_init_39 rfl rfl) ?_
  refine tok_cons (snd_iconst dX2_init_40 rfl (inr_d rfl) rfl) ?_
  refine tok_cons (snd_newa dX2_init_41 rfl wac_int (Nat.le_of_ble_eq_true rfl) rfl) ?_
  refine tok_cons (snd_pr (ty := (.array .int)) (C := RX2) (T := TX2) (N := 7) (ty0 := tyX2) dX2_init_43 rfl (by decide) rfl rfl rfl wf2_27 inX2 tyX2_ok nmX2 (by decide +kernel) (fun a => ⟨rfl, rfl⟩) rfl) ?_
  refine tok_cons (snd_aload_n dX2_init_46 rfl rfl) ?_
  refine tok_cons (snd_iconst dX2_init_47 rfl (inr_d rfl) rfl) ?_
  refine tok_cons (snd_newa dX2_init_48 rfl wac_int (Nat.le_of_ble_eq_true rfl) rfl) ?_
  refine tok_cons (snd_pr (ty := (.array .int)) (C := RX2) (T := TX2) (N := 7) (ty0 := tyX2) dX2_init_50 rfl (by decide) rfl rfl rfl wf2_30 inX2 tyX2_ok nmX2 (by decide +kernel) (fun a => ⟨rfl, rfl⟩) rfl) ?_
  refine tok_cons (snd_ret dX2_init_53 rfl) ?_
  exact tok_nil
def tab_4_init (X : XT) : Tab := [(0, false, a_aload 0 1), (1, false, a_oi M_4_init 4), (4, false, a_aload 0 5), (5, false, a_const 3 6), (6, false, a_const 40 8), (8, false, a_mnew M_4_init 3 40 12), (12, false, a_pr 4 1 15), (15, false, a_ret M_4_init)]
set_option maxRecDepth 20000 in
theorem t_4_init (X : XT) : tget (tab_4_init X) 0 = some (false, a_aload 0 1) ∧ tget (tab_4_init X) 1 = some (false, a_oi M_4_init 4) ∧ tget (tab_4_init X) 4 = some (false, a_aload 0 5) ∧ tget (tab_4_init X) 5 = some (false, a_const 3 6) ∧ tget (tab_4_init X) 6 = some (false, a_const 40 8) ∧ tget (tab_4_init X) 8 = some (false, a_mnew M_4_init 3 40 12) ∧ tget (tab_4_init X) 12 = some (false, a_pr 4 1 15) ∧ tget (tab_4_init X) 15 = some (false, a_ret M_4_init) := ⟨rfl, rfl, rfl, rfl, rfl, rfl, rfl, rfl⟩
theorem tok_4_init (X : XT) : TabOK X M_4_init (tab_4_init X) := by
  unfold tab_4_init
  refine tok_cons (snd_aload_n dX4_init_0 rfl rfl) ?_
  refine tok_cons (snd_oi dX4_init_1 wm4_3 w_oi w_oc (by decide) rfl) ?_
  refine tok_cons (snd_aload_n dX4_init_4 rfl rfl) ?_
  refine tok_cons (snd_iconst dX4_init_5 rfl (inr_d rfl) rfl) ?_
  refine tok_cons (snd_bipush dX4_init_6 (by decide) (inr_d rfl) rfl) ?_
  refine tok_cons (snd_mnew dX4_init_8 wcl4_9 wac_int (Nat.le_of_ble_eq_true rfl) (Nat.le_of_ble_eq_true rfl) rfl) ?_
  refine tok_cons (snd_pr (ty := (.array (.array .int))) (C := RX4) (T := TX4) (N := 2) (ty0 := tyX4) dX4_init_12 rfl (by decide) rfl rfl rfl wf4_11 inX4 tyX4_ok nmX4 (by decide +kernel) (fun a => ⟨rfl, rfl⟩) rfl) ?_
  refine tok_cons (snd_ret dX4_init_15 rfl) ?_
  exact tok_nil
def tab_5_init (X : XT) : Tab := [(0, false, a_aload 0 1), (1, false, a_oi M_5_init 4), (4, false, a_aload 0 5), (5, false, a_const 2 6), (6, false, a_newa M_5_init false 2 8), (8, false, a_pr 5 1 11), (11, false, a_aload 0 12), (12, false, a_const 2 13), (13, false, a_newa M_5_init false 2 15), (15, false, a_pr 5 2 18), (18, false, a_ret M_5_init)]
set_option maxRecDepth 20000 in
theorem t_5_init (X : XT) : tget (tab_5_init X) 0 = some (false, a_aload 0 1) ∧ tget (tab_5_init X) 1 = some (false, a_oi M_5_init 4) ∧ tget (tab_5_init X) 4 = some (false, a_aload 0 5) ∧ tget (tab_5_init X) 5 = some (false, a_const 2 6) ∧ tget (tab_5_init X) 6 = some (false, a_newa M_5_init false 2 8) ∧ tget (tab_5_init X) 8 = some (false, a_pr 5 1 11) ∧ tget (tab_5_init X) 11 = some (false, a_aload 0 12) ∧ tget (tab_5_init X) 12 = some (false, a_const 2 13) ∧ tget (tab_5_init X) 13 = some (false, a_newa M_5_init false 2 15) ∧ tget (tab_5_init X) 15 = some (false, a_pr 5 2 18) ∧ tget (tab_5_init X) 18 = some (false, a_ret M_5_init) := ⟨rfl, rfl, rfl, rfl, rfl, rfl, rfl, rfl, rfl, rfl, rfl⟩
theorem tok_5_init (X : XT) : TabOK X M_5_init (tab_5_init X) := by
  unfold tab_5_init
  refine tok_cons (snd_aload_n dX5_init_0 rfl rfl) ?_
  refine tok_cons (snd_oi dX5_init_1 wm5_3 w_oi w_oc (by decide) rfl) ?_
  refine tok_cons (snd_aload_n dX5_init_4 rfl rfl) ?_
  refine tok_cons (snd_iconst dX5_init_5 rfl (inr_d rfl) rfl) ?_
  refine tok_cons (snd_newa dX5_init_6 rfl wac_int (Nat.le_of_ble_eq_true rfl) rfl) ?_
  refine tok_cons (snd_pr (ty := (.array .int)) (C := RX5) (T := TX5) (N := 3) (ty0 := tyX5) dX5_init_8 rfl (by decide) rfl rfl rfl wf5_9 inX5 tyX5_ok nmX5 (by decide +kernel) (fun a => ⟨rfl, rfl⟩) rfl) ?_
  refine tok_cons (snd_aload_n dX5_init_11 rfl rfl) ?_
  refine tok_cons (snd_iconst dX5_init_12 rfl (inr_d rfl) rfl) ?_
  refine tok_cons (snd_newa dX5_init_13 rfl wac_int (Nat.le_of_ble_eq_true rfl) rfl) ?_
  refine tok_cons (snd_pr (ty := (.array .int)) (C := RX5) (T := TX5) (N := 3) (ty0 := tyX5) dX5_init_15 rfl (by decide) rfl rfl rfl wf5_15 inX5 tyX5_ok nmX5 (by decide +kernel) (fun a => ⟨rfl, rfl⟩) rfl) ?_
  refine tok_cons (snd_ret dX5_init_18 rfl) ?_
  exact tok_nil
def tab_8_init (X : XT) : Tab := [(0, false, a_aload 0 1), (1, false, a_oi M_8_init 4), (4, false, a_aload 0 5), (5, false, a_const 329 8), (8, false, a_newa M_8_init false 329 10), (10, false, a_pr 8 0 13), (13, false, a_aload 0 14), (14, false, a_const 1974 17), (17, false, a_newa M_8_init false 1974 19), (19, false, a_pr 8 1 22), (22, false, a_aload 0 23), (23, false, a_const 6 25), (25, false, a_newa M_8_init false 6 27), (27, false, a_dup 28), (28, false, a_const 0 29), (29, false, a_const 8 31), (31, false, a_ast false 32), (32, false, a_dup 33), (33, false, a_const 1 34), (34, false, a_const 0 35), (35, false, a_ast false 36), (36, false, a_dup 37), (37, false, a_const 2 38), (38, false, a_const 0 39), (39, false, a_ast false 40), (40, false, a_dup 41), (41, false, a_const 3 42), (42, false, a_const 1 43), (43, false, a_ast false 44), (44, false, a_dup 45), (45, false, a_const 4 46), (46, false, a_const 0 47), (47, false, a_ast false 48), (48, false, a_dup 49), (49, false, a_const 5 50), (50, false, a_const 0 51), (51, false, a_ast false 52), (52, false, a_pr 8 3 55), (55, false, a_aload 0 56), (56, false, a_const 6 58), (58, false, a_newa M_8_init false 6 60), (60, false, a_dup 61), (61, false, a_const 0 62), (62, false, a_const 60 64), (64, false, a_ast false 65), (65, false, a_dup 66), (66, false, a_const 1 67), (67, false, a_const 3 68), (68, false, a_ast false 69), (69, false, a_dup 70), (70, false, a_const 2 71), (71, false, a_const 2 72), (72, false, a_ast false 73), (73, false, a_dup 74), (74, false, a_const 3 75), (75, false, a_const 4 76), (76, false, a_ast false 77), (77, false, a_dup 78), (78, false, a_const 4 79), (79, false, a_const 5 80), (80, false, a_ast false 81), (81, false, a_dup 82), (82, false, a_const 5 83), (83, false, a_const 1 84), (84, false, a_ast false 85), (85, false, a_pr 8 4 88), (88, false, a_aload 0 89), (89, false, a_const 640 92), (92, false, a_newa M_8_init false 640 94), (94, false, a_pr 8 6 97), (97, false, a_aload 0 98), (98, false, a_const 1280 101), (101, false, a_newa M_8_init false 1280 103), (103, false, a_pr 8 7 106), (106, false, a_aload 0 107), (107, false, a_const 1280 110), (110, false, a_newa M_8_init false 1280 112), (112, false, a_pr 8 8 115), (115, false, a_aload 0 116), (116, false, a_const 1280 119), (119, false, a_newa M_8_init false 1280 121), (121, false, a_pr 8 9 124), (124, false, a_aload 0 125), (125, false, a_const 640 128), (128, false, a_newa M_8_init false 640 130), (130, false, a_pr 8 11 133), (133, false, a_aload 0 134), (134, false, a_const 640 137), (137, false, a_newa M_8_init true 640 139), (139, false, a_pr 8 12 142), (142, false, a_aload 0 143), (143, false, a_const 1280 146), (146, false, a_newa M_8_init false 1280 148), (148, false, a_pr 8 13 151), (151, false, a_aload 0 152), (152, false, a_const 1280 155), (155, false, a_newa M_8_init false 1280 157), (157, false, a_pr 8 14 160), (160, false, a_aload 0 161), (161, false, a_const 1280 164), (164, false, a_newa M_8_init false 1280 166), (166, false, a_pr 8 15 169), (169, false, a_aload 0 170), (170, false, a_const 1280 173), (173, false, a_newa M_8_init false 1280 175), (175, false, a_pr 8 16 178), (178, false, a_aload 0 179), (179, false, a_const 2 180), (180, false, a_newa M_8_init false 2 182), (182, false, a_pr 8 18 185), (185, false, a_aload 0 186), (186, false, a_const 21 188), (188, false, a_newa M_8_init false 21 190), (190, false, a_pr 8 19 193), (193, false, a_aload 0 194), (194, false, a_const 21 196), (196, false, a_newa M_8_init false 21 198), (198, false, a_pr 8 20 201), (201, false, a_aload 0 202), (202, false, a_gr 8 0 205), (205, false, a_const 81 207), (207, false, a_const 20 209), (209, false, a_ast false 210), (210, false, a_aload 0 211), (211, false, a_gr 8 0 214), (214, false, a_const 82 216), (216, false, a_const 1 217), (217, false, a_ast false 218), (218, false, a_aload 0 219), (219, false, a_gr 8 0 222), (222, false, a_const 83 224), (224, false, a_const 1 225), (225, false, a_ast false 226), (226, false, a_aload 0 227), (227, false, a_gr 8 0 230), (230, false, a_const 84 232), (232, false, a_const 2 233), (233, false, a_ast false 234), (234, false, a_aload 0 235), (235, false, a_gr 8 0 238), (238, false, a_const 85 240), (240, false, a_const 3 241), (241, false, a_ast false 242), (242, false, a_ret M_8_init)]
set_option maxRecDepth 20000 in
theorem t_8_init (X : XT) : tget (tab_8_init X) 0 = some (false, a_aload 0 1) ∧ tget (tab_8_init X) 1 = some (false, a_oi M_8_init 4) ∧ tget (tab_8_init X) 4 = some (false, a_aload 0 5) ∧ tget (tab_8_init X) 5 = some (false, a_const 329 8) ∧ tget (tab_8_init X) 8 = some (false, a_newa M_8_init false 329 10) ∧ tget (tab_8_init X) 10 = some (false, a_pr 8 0 13) ∧ tget (tab_8_init X) 13 = some (false, a_aload 0 14) ∧ tget (tab_8_init X) 14 = some (false, a_const 1974 17) ∧ tget (tab_8_init X) 17 = some (false, a_newa M_8_init false 1974 19) ∧ tget (tab_8_init X) 19 = some (false, a_pr 8 1 22) ∧ tget (tab_8_init X) 22 = some (false, a_aload 0 23) ∧ tget (tab_8_init X) 23 = some (false, a_const 6 25) ∧ tget (tab_8_init X) 25 = some (false, a_newa M_8_init false 6 27) ∧ tget (tab_8_init X) 27 = some (false, a_dup 28) ∧ tget (tab_8_init X) 28 = some (false, a_const 0 29) ∧ tget (tab_8_init X) 29 = some (false, a_const 8 31) ∧ tget (tab_8_init X) 31 = some (false, a_ast false 32) ∧ tget (tab_8_init X) 32 = some (false, a_dup 33) ∧ tget (tab_8_init X) 33 = some (false, a_const 1 34) ∧ tget (tab_8_init X) 34 = some (false, a_const 0 35) ∧ tget (tab_8_init X) 35 = some (false, a_ast false 36) ∧ tget (tab_8_init X) 36 = some (false, a_dup 37) ∧ tget (tab_8_init X) 37 = some (false, a_const 2 38) ∧ tget (tab_8_init X) 38 = some (false, a_const 0 39) ∧ tget (tab_8_init X) 39 = some (false, a_ast false 40) ∧ tget (tab_8_init X) 40 = some (false, a_dup 41) ∧ tget (tab_8_init X) 41 = some (false, a_const 3 42) ∧ tget (tab_8_init X) 42 = some (false, a_const 1 43) ∧ tget (tab_8_init X) 43 = some (false, a_ast false 44) ∧ tget (tab_8_init X) 44 = some (false, a_dup 45) ∧ tget (tab_8_init X) 45 = some (false, a_const 4 46) ∧ tget (tab_8_init X) 46 = some (false, a_const 0 47) ∧ tget (tab_8_init X) 47 = some (false, a_ast false 48) ∧ tget (tab_8_init X) 48 = some (false, a_dup 49) ∧ tget (tab_8_init X) 49 = some (false, a_const 5 50) ∧ tget (tab_8_init X) 50 = some (false, a_const 0 51) ∧ tget (tab_8_init X) 51 = some (false, a_ast false 52) ∧ tget (tab_8_init X) 52 = some (false, a_pr 8 3 55) ∧ tget (tab_8_init X) 55 = some (false, a_aload 0 56) ∧ tget (tab_8_init X) 56 = some (false, a_const 6 58) ∧ tget (tab_8_init X) 58 = some (false, a_newa M_8_init false 6 60) ∧ tget (tab_8_init X) 60 = some (false, a_dup 61) ∧ tget (tab_8_init X) 61 = some (false, a_const 0 62) ∧ tget (tab_8_init X) 62 = some (false, a_const 60 64) ∧ tget (tab_8_init X) 64 = some (false, a_ast false 65) ∧ tget (tab_8_init X) 65 = some (false, a_dup 66) ∧ tget (tab_8_init X) 66 = some (false, a_const 1 67) ∧ tget (tab_8_init X) 67 = some (false, a_const 3 68) ∧ tget (tab_8_init X) 68 = some (false, a_ast false 69) ∧ tget (tab_8_init X) 69 = some (false, a_dup 70) ∧ tget (tab_8_init X) 70 = some (false, a_const 2 71) ∧ tget (tab_8_init X) 71 = some (false, a_const 2 72) ∧ tget (tab_8_init X) 72 = some (false, a_ast false 73) ∧ tget (tab_8_init X) 73 = some (false, a_dup 74) ∧ tget (tab_8_init X) 74 = some (false, a_const 3 75) ∧ tget (tab_8_init X) 75 = some (false, a_const 4 76) ∧ tget (tab_8_init X) 76 = some (false, a_ast false 77) ∧ tget (tab_8_init X) 77 = some (false, a_dup 78) ∧ tget (tab_8_init X) 78 = some (false, a_const 4 79) ∧ tget (tab_8_init X) 79 = some (false, a_const 5 80) ∧ tget (tab_8_init X) 80 = some (false, a_ast false 81) ∧ tget (tab_8_init X) 81 = some (false, a_dup 82) ∧ tget (tab_8_init X) 82 = some (false, a_const 5 83) ∧ tget (tab_8_init X) 83 = some (false, a_const 1 84) ∧ tget (tab_8_init X) 84 = some (false, a_ast false 85) ∧ tget (tab_8_init X) 85 = some (false, a_pr 8 4 88) ∧ tget (tab_8_init X) 88 = some (false, a_aload 0 89) ∧ tget (tab_8_init X) 89 = some (false, a_const 640 92) ∧ tget (tab_8_init X) 92 = some (false, a_newa M_8_init false 640 94) ∧ tget (tab_8_init X) 94 = some (false, a_pr 8 6 97) ∧ tget (tab_8_init X) 97 = some (false, a_aload 0 98) ∧ tget (tab_8_init X) 98 = some (false, a_const 1280 101) ∧ tget (tab_8_init X) 101 = some (false, a_newa M_8_init false 1280 103) ∧ tget (tab_8_init X) 103 = some (false, a_pr 8 7 106) ∧ tget (tab_8_init X) 106 = some (false, a_aload 0 107) ∧ tget (tab_8_init X) 107 = some (false, a_const 1280 110) ∧ tget (tab_8_init X) 110 = some (false, a_newa M_8_init false 1280 112) ∧ tget (tab_8_init X) 112 = some (false, a_pr 8 8 115) ∧ tget (tab_8_init X) 115 = some (false, a_aload 0 116) ∧ tget (tab_8_init X) 116 = some (false, a_const 1280 119) ∧ tget (tab_8_init X) 119 = some (false, a_newa M_8_init false 1280 121) ∧ tget (tab_8_init X) 121 = some (false, a_pr 8 9 124) ∧ tget (tab_8_init X) 124 = some (false, a_aload 0 125) ∧ tget (tab_8_init X) 125 = some (false, a_const 640 128) ∧ tget (tab_8_init X) 128 = some (false, a_newa M_8_init false 640 130) ∧ tget (tab_8_init X) 130 = some (false, a_pr 8 11 133) ∧ tget (tab_8_init X) 133 = some (false, a_aload 0 134) ∧ tget (tab_8_init X) 134 = some (false, a_const 640 137) ∧ tget (tab_8_init X) 137 = some (false, a_newa M_8_init true 640 139) ∧ tget (tab_8_init X) 139 = some (false, a_pr 8 12 142) ∧ tget (tab_8_init X) 142 = some (false, a_aload 0 143) ∧ tget (tab_8_init X) 143 = some (false, a_const 1280 146) ∧ tget (tab_8_init X) 146 = some (false, a_newa M_8_init false 1280 148) ∧ tget (tab_8_init X) 148 = some (false, a_pr 8 13 151) ∧ tget (tab_8_init X) 151 = some (false, a_aload 0 152) ∧ tget (tab_8_init X) 152 = some (false, a_const 1280 155) ∧ tget (tab_8_init X) 155 = some (false, a_newa M_8_init false 1280 157) ∧ tget (tab_8_init X) 157 = some (false, a_pr 8 14 160) ∧ tget (tab_8_init X) 160 = some (false, a_aload 0 161) ∧ tget (tab_8_init X) 161 = some (false, a_const 1280 164) ∧ tget (tab_8_init X) 164 = some (false, a_newa M_8_init false 1280 166) ∧ tget (tab_8_init X) 166 = some (false, a_pr 8 15 169) ∧ tget (tab_8_init X) 169 = some (false, a_aload 0 170) ∧ tget (tab_8_init X) 170 = some (false, a_const 1280 173) ∧ tget (tab_8_init X) 173 = some (false, a_newa M_8_init false 1280 175) ∧ tget (tab_8_init X) 175 = some (false, a_pr 8 16 178) ∧ tget (tab_8_init X) 178 = some (false, a_aload 0 179) ∧ tget (tab_8_init X) 179 = some (false, a_const 2 180) ∧ tget (tab_8_init X) 180 = some (false, a_newa M_8_init false 2 182) ∧ tget (tab_8_init X) 182 = some (false, a_pr 8 18 185) ∧ tget (tab_8_init X) 185 = some (false, a_aload 0 186) ∧ tget (tab_8_init X) 186 = some (false, a_const 21 188) ∧ tget (tab_8_init X) 188 = some (false, a_newa M_8_init false 21 190) ∧ tget (tab_8_init X) 190 = some (false, a_pr 8 19 193) ∧ tget (tab_8_init X) 193 = some (false, a_aload 0 194) ∧ tget (tab_8_init X) 194 = some (false, a_const 21 196) ∧ tget (tab_8_init X) 196 = some (false, a_newa M_8_init false 21 198) ∧ tget (tab_8_init X) 198 = some (false, a_pr 8 20 201) ∧ tget (tab_8_init X) 201 = some (false, a_aload 0 202) ∧ tget (tab_8_init X) 202 = some (false, a_gr 8 0 205) ∧ tget (tab_8_init X) 205 = some (false, a_const 81 207) ∧ tget (tab_8_init X) 207 = some (false, a_const 20 209) ∧ tget (tab_8_init X) 209 = some (false, a_ast false 210) ∧ tget (tab_8_init X) 210 = some (false, a_aload 0 211) ∧ tget (tab_8_init X) 211 = some (false, a_gr 8 0 214) ∧ tget (tab_8_init X) 214 = some (false, a_const 82 216) ∧ tget (tab_8_init X) 216 = some (false, a_const 1 217) ∧ tget (tab_8_init X) 217 = some (false, a_ast false 218) ∧ tget (tab_8_init X) 218 = some (false, a_aload 0 219) ∧ tget (tab_8_init X) 219 = some (false, a_gr 8 0 222) ∧ tget (tab_8_init X) 222 = some (false, a_const 83 224) ∧ tget (tab_8_init X) 224 = some (false, a_const 1 225) ∧ tget (tab_8_init X) 225 = some (false, a_ast false 226) ∧ tget (tab_8_init X) 226 = some (false, a_aload 0 227) ∧ tget (tab_8_init X) 227 = some (false, a_gr 8 0 230) ∧ tget (tab_8_init X) 230 = some (false, a_const 84 232) ∧ tget (tab_8_init X) 232 = some (false, a_const 2 233) ∧ tget (tab_8_init X) 233 = some (false, a_ast false 234) ∧ tget (tab_8_init X) 234 = some (false, a_aload 0 235) ∧ tget (tab_8_init X) 235 = some (false, a_gr 8 0 238) ∧ tget (tab_8_init X) 238 = some (false, a_const 85 240) ∧ tget (tab_8_init X) 240 = some (false, a_const 3 241) ∧ tget (tab_8_init X) 241 = some (false, a_ast false 242) ∧ tget (tab_8_init X) 242 = some (false, a_ret M_8_init) := ⟨rfl, rfl, rfl, rfl, rfl, rfl, rfl, rfl, rfl, rfl, rfl, rfl, rfl, rfl, rfl, rfl, rfl, rfl, rfl, rfl, rfl, rfl, rfl, rfl, rfl, rfl, rfl, rfl, rfl, rfl, rfl, rfl, rfl, rfl, rfl, rfl, rfl, rfl, rfl, rfl, rfl, rfl, rfl, rfl, rfl, rfl, rfl, rfl, rfl, rfl, rfl, rfl, rfl, rfl, rfl, rfl, rfl, rfl, rfl, rfl, rfl, rfl, rfl, rfl, rfl, rfl, rfl, rfl, rfl, rfl, rfl, rfl, rfl, rfl, rfl, rfl, rfl, rfl, rfl, rfl, rfl, rfl, rfl, rfl, rfl, rfl, rfl, rfl, rfl, rfl, rfl, rfl, rfl, rfl, rfl, rfl, rfl, rfl, rfl, rfl, rfl, rfl, rfl, rfl, rfl, rfl, rfl, rfl, rfl, rfl, rfl, rfl, rfl, rfl, rfl, rfl, rfl, rfl, rfl, rfl, rfl, rfl, rfl, rfl, rfl, rfl, rfl, rfl, rfl, rfl, rfl, rfl, rfl, rfl, rfl, rfl, rfl, rfl, rfl, rfl, rfl, rfl, rfl, rfl⟩
theorem tok_8_init (X : XT) : TabOK X M_8_init (tab_8_init X) := by
  unfold tab_8_init
  refine tok_cons (snd_aload_n dX8_init_0 rfl rfl) ?_
  refine tok_cons (snd_oi dX8_init_1 wm8_1 w_oi w_oc (by decide) rfl) ?_
  refine tok_cons (snd_aload_n dX8_init_4 rfl rfl) ?_
  refine tok_cons (snd_sipush dX8_init_5 (by decide) (inr_d rfl) rfl) ?_
  refine tok_cons (snd_newa dX8_init_8 rfl wac_int (Nat.le_of_ble_eq_true rfl) rfl) ?_
  refine tok_cons (snd_pr (ty := (.array .int)) (C := RX8) (T := TX8) (N := 21) (ty0 := tyX8) dX8_init_10 rfl (by decide) rfl rfl rfl wf8_7 inX8 tyX8_ok nmX8 (by decide +kernel) (fun a => ⟨rfl, rfl⟩) rfl) ?_
  refine tok_cons (snd_aload_n dX8_init_13 rfl rfl) ?_
  refine tok_cons (snd_sipush dX8_init_14 (by decide) (inr_d rfl) rfl) ?_
  refine tok_cons (snd_newa dX8_init_17 rfl wac_int (Nat.le_of_ble_eq_true rfl) rfl) ?_
  refine tok_cons (snd_pr (ty := (.array .int)) (C := RX8) (T := TX8) (N := 21) (ty0 := tyX8) dX8_init_19 rfl (by decide) rfl rfl rfl wf8_13 inX8 tyX8_ok nmX8 (by decide +kernel) (fun a => ⟨rfl, rfl⟩) rfl) ?_
  refine tok_cons (snd_aload_n dX8_init_22 rfl rfl) ?_
  refine tok_cons (snd_bipush dX8_init_23 (by decide) (inr_d rfl) rfl) ?_
  refine tok_cons (snd_newa dX8_init_25 rfl wac_int (Nat.le_of_ble_eq_true rfl) rfl) ?_
  refine tok_cons (snd_dup dX8_init_27 rfl) ?_
  refine tok_cons (snd_iconst dX8_init_28 rfl (inr_d rfl) rfl) ?_
  refine tok_cons (snd_bipush dX8_init_29 (by decide) (inr_d rfl) rfl) ?_
  refine tok_cons (snd_iast dX8_init_31 rfl) ?_
  refine tok_cons (snd_dup dX8_init_32 rfl) ?_
  refine tok_cons (snd_iconst dX8_init_33 rfl (inr_d rfl) rfl) ?_
  refine tok_cons (snd_iconst dX8_init_34 rfl (inr_d rfl) rfl) ?_
  refine tok_cons (snd_iast dX8_init_35 rfl) ?_
  refine tok_cons (snd_dup dX8_init_36 rfl) ?_
  refine tok_cons (snd_iconst dX8_init_37 rfl (inr_d rfl) rfl) ?_
  refine tok_cons (snd_iconst dX8_init_38 rfl (inr_d rfl) rfl) ?_
  refine tok_cons (snd_iast dX8_init_39 rfl) ?_
  refine tok_cons (snd_dup dX8_init_40 rfl) ?_
  refine tok_cons (snd_iconst dX8_init_41 rfl (inr_d rfl) rfl) ?_
  refine tok_cons (snd_iconst dX8_init_42 rfl (inr_d rfl) rfl) ?_
  refine tok_cons (snd_iast dX8_init_43 rfl) ?_
  refine tok_cons (snd_dup dX8_init_44 rfl) ?_
  refine tok_cons (snd_iconst dX8_init_45 rfl (inr_d rfl) rfl) ?_
  refine tok_cons (snd_iconst dX8_init_46 rfl (inr_d rfl) rfl) ?_
  refine tok_cons (snd_iast dX8_init_47 rfl) ?_
  refine tok_cons (snd_dup dX8_init_48 rfl) ?_
  refine tok_cons (snd_iconst dX8_init_49 rfl (inr_d rfl) rfl) ?_
  refine tok_cons (snd_iconst dX8_init_50 rfl (inr_d rfl) rfl) ?_
  refine tok_cons (snd_iast dX8_init_51 rfl) ?_
  refine tok_cons (snd_pr (ty := (.array .int)) (C := RX8) (T := TX8) (N := 21) (ty0 := tyX8) dX8_init_52 rfl (by decide) rfl rfl rfl wf8_16 inX8 tyX8_ok nmX8 (by decide +kernel) (fun a => ⟨rfl, rfl⟩) rfl) ?_
  refine tok_cons (snd_aload_n dX8_init_55 rfl rfl) ?_
  refine tok_cons (snd_bipush dX8_init_56 (by decide) (inr_d rfl) rfl) ?_
  refine tok_cons (snd_newa dX8_init_58 rfl wac_int (Nat.le_of_ble_eq_true rfl) rfl) ?_
  refine tok_cons (snd_dup dX8_init_60 rfl) ?_
  refine tok_cons (snd_iconst dX8_init_61 rfl (inr_d rfl) rfl) ?_
  refine tok_cons (snd_bipush dX8_init_62 (by decide) (inr_d rfl) rfl) ?_
  refine tok_cons (snd_iast dX8_init_64 rfl) ?_
  refine tok_cons (snd_dup dX8_init_65 rfl) ?_
  refine tok_cons (snd_iconst dX8_init_66 rfl (inr_d rfl) rfl) ?_
  refine tok_cons (snd_iconst dX8_init_67 rfl (inr_d rfl) rfl) ?_
  refine tok_cons (snd_iast dX8_init_68 rfl) ?_
  refine tok_cons (snd_dup dX8_init_69 rfl) ?_
  refine tok_cons (snd_iconst dX8_init_70 rfl (inr_d rfl) rfl) ?_
  refine tok_cons (snd_iconst dX8_init_71 rfl (inr_d rfl) rfl) ?_
  refine tok_cons (snd_iast dX8_init_72 rfl) ?_
  refine tok_cons (snd_dup dX8_init_73 rfl) ?_
  refine tok_cons (snd_iconst dX8_init_74 rfl (inr_d rfl) rfl) ?_
  refine tok_cons (snd_iconst dX8_init_75 rfl (inr_d rfl) rfl) ?_
  refine tok_cons (snd_iast dX8_init_76 rfl) ?_
  refine tok_cons (snd_dup dX8_init_77 rfl) ?_
  refine tok_cons (snd_iconst dX8_init_78 rfl (inr_d rfl) rfl) ?_
  refine tok_cons (snd_iconst dX8_init_79 rfl (inr_d rfl) rfl) ?_
  refine tok_cons (snd_iast dX8_init_80 rfl) ?_
  refine tok_cons (snd_dup dX8_init_81 rfl) ?_
  refine tok_cons (snd_iconst dX8_init_82 rfl (inr_d rfl) rfl) ?_
  refine tok_cons (snd_iconst dX8_init_83 rfl (inr_d rfl) rfl) ?_
  refine tok_cons (snd_iast dX8_init_84 rfl) ?_
  refine tok_cons (snd_pr (ty := (.array .int)) (C := RX8) (T := TX8) (N := 21) (ty0 := tyX8) dX8_init_85 rfl (by decide) rfl rfl rfl wf8_19 inX8 tyX8_ok nmX8 (by decide +kernel) (fun a => ⟨rfl, rfl⟩) rfl) ?_
  refine tok_cons (snd_aload_n dX8_init_88 rfl rfl) ?_
  refine tok_cons (snd_sipush dX8_init_89 (by decide) (inr_d rfl) rfl) ?_
  refine tok_cons (snd_newa dX8_init_92 rfl wac_int (Nat.le_of_ble_eq_true rfl) rfl) ?_
  refine tok_cons (snd_pr (ty := (.array .int)) (C := RX8) (T := TX8) (N := 21) (ty0 := tyX8) dX8_init_94 rfl (by decide) rfl rfl rfl wf8_22 inX8 tyX8_ok nmX8 (by decide +kernel) (fun a => ⟨rfl, rfl⟩) rfl) ?_
  refine tok_cons (snd_aload_n dX8_init_97 rfl rfl) ?_
  refine tok_cons (snd_sipush dX8_init_98 (by decide) (inr_d rfl) rfl) ?_
  refine tok_cons (snd_newa dX8_init_101 rfl wac_int (Nat.le_of_ble_eq_true rfl) rfl) ?_
  refine tok_cons (snd_pr (ty := (.array .int)) (C := RX8) (T := TX8) (N := 21) (ty0 := tyX8) dX8_init_103 rfl (by decide) rfl rfl rfl wf8_25 inX8 tyX8_ok nmX8 (by decide +kernel) (fun a => ⟨rfl, rfl⟩) rfl) ?_
  refine tok_cons (snd_aload_n dX8_init_106 rfl rfl) ?_
  refine tok_cons (snd_sipush dX8_init_107 (by decide) (inr_d rfl) rfl) ?_
  refine tok_cons (snd_newa dX8_init_110 rfl wac_int (Nat.le_of_ble_eq_true rfl) rfl) ?_
  refine tok_cons (snd_pr (ty := (.array .int)) (C := RX8) (T := TX8) (N := 21) (ty0 := tyX8) dX8_init_112 rfl (by decide) rfl rfl rfl wf8_28 inX8 tyX8_ok nmX8 (by decide +kernel) (fun a => ⟨rfl, rfl⟩) rfl) ?_
  refine tok_cons (snd_aload_n dX8_init_115 rfl rfl) ?_
  refine tok_cons (snd_sipush dX8_init_116 (by decide) (inr_d rfl) rfl) ?_
  refine tok_cons (snd_newa dX8_init_119 rfl wac_int (Nat.le_of_ble_eq_true rfl) rfl) ?_
  refine tok_cons (snd_pr (ty := (.array .int)) (C := RX8) (T := TX8) (N := 21) (ty0 := tyX8) dX8_init_121 rfl (by decide) rfl rfl rfl wf8_31 inX8 tyX8_ok nmX8 (by decide +kernel) (fun a => ⟨rfl, rfl⟩) rfl) ?_
  refine tok_cons (snd_aload_n dX8_init_124 rfl rfl) ?_
  refine tok_cons (snd_sipush dX8_init_125 (by decide) (inr_d rfl) rfl) ?_
  refine tok_cons (snd_newa dX8_init_128 rfl wac_int (Nat.le_of_ble_eq_true rfl) rfl) ?_
  refine tok_cons (snd_pr (ty := (.array .int)) (C := RX8) (T := TX8) (N := 21) (ty0 := tyX8) dX8_init_130 rfl (by decide) rfl rfl rfl wf8_34 inX8 tyX8_ok nmX8 (by decide +kernel) (fun a => ⟨rfl, rfl⟩) rfl) ?_
  refine tok_cons (snd_aload_n dX8_init_133 rfl rfl) ?_
  refine tok_cons (snd_sipush dX8_init_134 (by decide) (inr_d rfl) rfl) ?_
  refine tok_cons (snd_newa dX8_init_137 rfl wac_boolean (Nat.le_of_ble_eq_true rfl) rfl) ?_
  refine tok_cons (snd_pr (ty := (.array .boolean)) (C := RX8) (T := TX8) (N := 21) (ty0 := tyX8) dX8_init_139 rfl (by decide) rfl rfl rfl wf8_37 inX8 tyX8_ok nmX8 (by decide +kernel) (fun a => ⟨rfl, rfl⟩) rfl) ?_
  refine tok_cons (snd_aload_n dX8_init_142 rfl rfl) ?_
  refine tok_cons (snd_sipush dX8_init_143 (by decide) (inr_d rfl) rfl) ?_
  refine tok_cons (snd_newa dX8_init_146 rfl wac_int (Nat.le_of_ble_eq_true rfl) rfl) ?_
  refine tok_cons (snd_pr (ty := (.array .int)) (C := RX8) (T := TX8) (N := 21) (ty0 := tyX8) dX8_init_148 rfl (by decide) rfl rfl rfl wf8_41 inX8 tyX8_ok nmX8 (by decide +kernel) (fun a => ⟨rfl, rfl⟩) rfl) ?_
  refine tok_cons (snd_aload_n dX8_init_151 rfl rfl) ?_
  refine tok_cons (snd_sipush dX8_init_152 (by decide) (inr_d rfl) rfl) ?_
  refine tok_cons (snd_newa dX8_init_155 rfl wac_int (Nat.le_of_ble_eq_true rfl) rfl) ?_
  refine tok_cons (snd_pr (ty := (.array .int)) (C := RX8) (T := TX8) (N := 21) (ty0 := tyX8) dX8_init_157 rfl (by decide) rfl rfl rfl wf8_44 inX8 tyX8_ok nmX8 (by decide +kernel) (fun a => ⟨rfl, rfl⟩) rfl) ?_
  refine tok_cons (snd_aload_n dX8_init_160 rfl rfl) ?_
  refine tok_cons (snd_sipush dX8_init_161 (by decide) (inr_d rfl) rfl) ?_
  refine tok_cons (snd_newa dX8_init_164 rfl wac_int (Nat.le_of_ble_eq_true rfl) rfl) ?_
  refine tok_cons (snd_pr (ty := (.array .int)) (C := RX8) (T := TX8) (N := 21) (ty0 := tyX8) dX8_init_166 rfl (by decide) rfl rfl rfl wf8_47 inX8 tyX8_ok nmX8 (by decide +kernel) (fun a => ⟨rfl, rfl⟩) rfl) ?_
  refine tok_cons (snd_aload_n dX8_init_169 rfl rfl) ?_
  refine tok_cons (snd_sipush dX8_init_170 (by decide) (inr_d rfl) rfl) ?_
  refine tok_cons (snd_newa dX8_init_173 rfl wac_int (Nat.le_of_ble_eq_true rfl) rfl) ?_
  refine tok_cons (snd_pr (ty := (.array .int)) (C := RX8) (T := TX8) (N := 21) (ty0 := tyX8) dX8_init_175 rfl (by decide) rfl rfl rfl wf8_50 inX8 tyX8_ok nmX8 (by decide +kernel) (fun a => ⟨rfl, rfl⟩) rfl) ?_
  refine tok_cons (snd_aload_n dX8_init_178 rfl rfl) ?_
  refine tok_cons (snd_iconst dX8_init_179 rfl (inr_d rfl) rfl) ?_
  refine tok_cons (snd_newa dX8_init_180 rfl wac_int (Nat.le_of_ble_eq_true rfl) rfl) ?_
  refine tok_cons (snd_pr (ty := (.array .int)) (C := RX8) (T := TX8) (N := 21) (ty0 := tyX8) dX8_init_182 rfl (by decide) rfl rfl rfl wf8_53 inX8 tyX8_ok nmX8 (by decide +kernel) (fun a => ⟨rfl, rfl⟩) rfl) ?_
  refine tok_cons (snd_aload_n dX8_init_185 rfl rfl) ?_
  refine tok_cons (snd_bipush dX8_init_186 (by decide) (inr_d rfl) rfl) ?_
  refine tok_cons (snd_newa dX8_init_188 rfl wac_int (Nat.le_of_ble_eq_true rfl) rfl) ?_
  refine tok_cons (snd_pr (ty := (.array .int)) (C := RX8) (T := TX8) (N := 21) (ty0 := tyX8) dX8_init_190 rfl (by decide) rfl rfl rfl wf8_56 inX8 tyX8_ok nmX8 (by decide +kernel) (fun a => ⟨rfl, rfl⟩) rfl) ?_
  refine tok_cons (snd_aload_n dX8_init_193 rfl rfl) ?_
  refine tok_cons (snd_bipush dX8_init_194 (by decide) (inr_d rfl) rfl) ?_
  refine tok_cons (snd_newa dX8_init_196 rfl wac_int (Nat.le_of_ble_eq_true rfl) rfl) ?_
  refine tok_cons (snd_pr (ty := (.array .int)) (C := RX8) (T := TX8) (N := 21) (ty0 := tyX8) dX8_init_198 rfl (by decide) rfl rfl rfl wf8_59 inX8 tyX8_ok nmX8 (by decide +kernel) (fun a => ⟨rfl, rfl⟩) rfl) ?_
  refine tok_cons (snd_aload_n dX8_init_201 rfl rfl) ?_
  refine tok_cons (snd_gr (C := RX8) (T := TX8) (N := 21) dX8_init_202 rfl (by decide) rfl wf8_7 inX8 rfl) ?_
  refine tok_cons (snd_bipush dX8_init_205 (by decide) (inr_d rfl) rfl) ?_
  refine tok_cons (snd_bipush dX8_init_207 (by decide) (inr_d rfl) rfl) ?_
  refine tok_cons (snd_iast dX8_init_209 rfl) ?_
  refine tok_cons (snd_aload_n dX8_init_210 rfl rfl) ?_
  refine tok_cons (snd_gr (C := RX8) (T := TX8) (N := 21) dX8_init_211 rfl (by decide) rfl wf8_7 inX8 rfl) ?_
  refine tok_cons (snd_bipush dX8_init_214 (by decide) (inr_d rfl) rfl) ?_
  refine tok_cons (snd_iconst dX8_init_216 rfl (inr_d rfl) rfl) ?_
  refine tok_cons (snd_iast dX8_init_217 rfl) ?_
  refine tok_cons (snd_aload_n dX8_init_218 rfl rfl) ?_
  refine tok_cons (snd_gr (C := RX8) (T := TX8) (N := 21) dX8_init_219 rfl (by decide) rfl wf8_7 inX8 rfl) ?_
  refine tok_cons (snd_bipush dX8_init_222 (by decide) (inr_d rfl) rfl) ?_
  refine tok_cons (snd_iconst dX8_init_224 rfl (inr_d rfl) rfl) ?_
  refine tok_cons (snd_iast dX8_init_225 rfl) ?_
  refine tok_cons (snd_aload_n dX8_init_226 rfl rfl) ?_
  refine tok_cons (snd_gr (C := RX8) (T := TX8) (N := 21) dX8_init_227 rfl (by decide) rfl wf8_7 inX8 rfl) ?_
  refine tok_cons (snd_bipush dX8_init_230 (by decide) (inr_d rfl) rfl) ?_
  refine tok_cons (snd_iconst dX8_init_232 rfl (inr_d rfl) rfl) ?_
  refine tok_cons (snd_iast dX8_init_233 rfl) ?_
  refine tok_cons (snd_aload_n dX8_init_234 rfl rfl) ?_
  refine tok_cons (snd_gr (C := RX8) (T := TX8) (N := 21) dX8_init_235 rfl (by decide) rfl wf8_7 inX8 rfl) ?_
  refine tok_cons (snd_bipush dX8_init_238 (by decide) (inr_d rfl) rfl) ?_
  refine tok_cons (snd_iconst dX8_init_240 rfl (inr_d rfl) rfl) ?_
  refine tok_cons (snd_iast dX8_init_241 rfl) ?_
  refine tok_cons (snd_ret dX8_init_242 rfl) ?_
  exact tok_nil
def tab_0_init (X : XT) : Tab := [(0, false, a_aload 0 1), (1, false, a_oi M_0_init 4), (4, false, a_aload 0 5), (5, false, a_const 20 7), (7, false, a_newa M_0_init false 20 9), (9, false, a_pr 0 2 12), (12, false, a_aload 0 13), (13, false, a_const 21 15), (15, false, a_newa M_0_init false 21 17), (17, false, a_pr 0 3 20), (20, false, a_aload 0 21), (21, false, a_const 20 23), (23, false, a_newa M_0_init false 20 25), (25, false, a_pr 0 4 28), (28, false, a_aload 0 29), (29, false, a_new M_0_init 2 [some none, some none, some none, some none, some none, some none, some none] 32), (32, false, a_dup 33), (33, false, a_ci X M_0_init M_2_init 2 36), (36, false, a_pr 0 5 39), (39, false, a_aload 0 40), (40, false, a_new M_0_init 5 [none, some none, some none] 43), (43, false, a_dup 44), (44, false, a_ci X M_0_init M_5_init 5 47), (47, false, a_pr 0 6 50), (50, false, a_ret M_0_init)]
set_option maxRecDepth 20000 in
theorem t_0_init (X : XT) : tget (tab_0_init X) 0 = some (false, a_aload 0 1) ∧ tget (tab_0_init X) 1 = some (false, a_oi M_0_init 4) ∧ tget (tab_0_init X) 4 = some (false, a_aload 0 5) ∧ tget (tab_0_init X) 5 = some (false, a_const 20 7) ∧ tget (tab_0_init X) 7 = some (false, a_newa M_0_init false 20 9) ∧ tget (tab_0_init X) 9 = some (false, a_pr 0 2 12) ∧ tget (tab_0_init X) 12 = some (false, a_aload 0 13) ∧ tget (tab_0_init X) 13 = some (false, a_const 21 15) ∧ tget (tab_0_init X) 15 = some (false, a_newa M_0_init false 21 17) ∧ tget (tab_0_init X) 17 = some (false, a_pr 0 3 20) ∧ tget (tab_0_init X) 20 = some (false, a_aload 0 21) ∧ tget (tab_0_init X) 21 = some (false, a_const 20 23) ∧ tget (tab_0_init X) 23 = some (false, a_newa M_0_init false 20 25) ∧ tget (tab_0_init X) 25 = some (false, a_pr 0 4 28) ∧ tget (tab_0_init X) 28 = some (false, a_aload 0 29) ∧ tget (tab_0_init X) 29 = some (false, a_new M_0_init 2 [some none, some none, some none, some none, some none, some none, some none] 32) ∧ tget (tab_0_init X) 32 = some (false, a_dup 33) ∧ tget (tab_0_init X) 33 = some (false, a_ci X M_0_init M_2_init 2 36) ∧ tget (tab_0_init X) 36 = some (false, a_pr 0 5 39) ∧ tget (tab_0_init X) 39 = some (false, a_aload 0 40) ∧ tget (tab_0_init X) 40 = some (false, a_new M_0_init 5 [none, some none, some none] 43) ∧ tget (tab_0_init X) 43 = some (false, a_dup 44) ∧ tget (tab_0_init X) 44 = some (false, a_ci X M_0_init M_5_init 5 47) ∧ tget (tab_0_init X) 47 = some (false, a_pr 0 6 50) ∧ tget (tab_0_init X) 50 = some (false, a_ret M_0_init) := ⟨rfl, rfl, rfl, rfl, rfl, rfl, rfl, rfl, rfl, rfl, rfl, rfl, rfl, rfl, rfl, rfl, rfl, rfl, rfl, rfl, rfl, rfl, rfl, rfl, rfl⟩
theorem tok_0_init (X : XT) : TabOK X M_0_init (tab_0_init X) := by
  unfold tab_0_init
  refine tok_cons (snd_aload_n dX0_init_0 rfl rfl) ?_
  refine tok_cons (snd_oi dX0_init_1 wm0_3 w_oi w_oc (by decide) rfl) ?_
  refine tok_cons (snd_aload_n dX0_init_4 rfl rfl) ?_
  refine tok_cons (snd_bipush dX0_init_5 (by decide) (inr_d rfl) rfl) ?_
  refine tok_cons (snd_newa dX0_init_7 rfl wac_int (Nat.le_of_ble_eq_true rfl) rfl) ?_
  refine tok_cons (snd_pr (ty := (.array .int)) (C := RX0) (T := TX0) (N := 7) (ty0 := tyX0) dX0_init_9 rfl (by decide) rfl rfl rfl wf0_9 inX0 tyX0_ok nmX0 (by decide +kernel) (fun a => ⟨rfl, rfl⟩) rfl) ?_
  refine tok_cons (snd_aload_n dX0_init_12 rfl rfl) ?_
  refine tok_cons (snd_bipush dX0_init_13 (by decide) (inr_d rfl) rfl) ?_
  refine tok_cons (snd_newa dX0_init_15 rfl wac_int (Nat.le_of_ble_eq_true rfl) rfl) ?_
  refine tok_cons (snd_pr (ty := (.array .int)) (C := RX0) (T := TX0) (N := 7) (ty0 := tyX0) dX0_init_17 rfl (by decide) rfl rfl rfl wf0_15 inX0 tyX0_ok nmX0 (by decide +kernel) (fun a => ⟨rfl, rfl⟩) rfl) ?_
  refine tok_cons (snd_aload_n dX0_init_20 rfl rfl) ?_
  refine tok_cons (snd_bipush dX0_init_21 (by decide) (inr_d rfl) rfl) ?_
  refine tok_cons (snd_newa dX0_init_23 rfl wac_int (Nat.le_of_ble_eq_true rfl) rfl) ?_
  refine tok_cons (snd_pr (ty := (.array .int)) (C := RX0) (T := TX0) (N := 7) (ty0 := tyX0) dX0_init_25 rfl (by decide) rfl rfl rfl wf0_18 inX0 tyX0_ok nmX0 (by decide +kernel) (fun a => ⟨rfl, rfl⟩) rfl) ?_
  refine tok_cons (snd_aload_n dX0_init_28 rfl rfl) ?_
  refine tok_cons (snd_new (C := RX2) (T := TX2) (N := 7) (ty := tyX2) dX0_init_29 rfl inX2 wcl0_21 wib_2 wn_2 tyX2_ok rfl (fun j hj => by match j, hj with | 0, _ => exact Or.inr ⟨rfl, rfl⟩ | 1, _ => exact Or.inr ⟨rfl, rfl⟩ | 2, _ => exact Or.inr ⟨rfl, rfl⟩ | 3, _ => exact Or.inr ⟨rfl, rfl⟩ | 4, _ => exact Or.inr ⟨rfl, rfl⟩ | 5, _ => exact Or.inr ⟨rfl, rfl⟩ | 6, _ => exact Or.inr ⟨rfl, rfl⟩) rfl) ?_
  refine tok_cons (snd_dup dX0_init_32 rfl) ?_
  refine tok_cons (snd_ci dX0_init_33 mok_2_init rfl ⟨wi_2_init, rfl, Or.inr (List.mem_of_getElem? (i := 7) rfl)⟩ pn_2_init (by decide) rfl) ?_
  refine tok_cons (snd_pr (ty := (.object RX2)) (C := RX0) (T := TX0) (N := 7) (ty0 := tyX0) dX0_init_36 rfl (by decide) rfl rfl rfl wf0_24 inX0 tyX0_ok nmX0 (by decide +kernel) (fun a => ⟨rfl, rfl⟩) rfl) ?_
  refine tok_cons (snd_aload_n dX0_init_39 rfl rfl) ?_
  refine tok_cons (snd_new (C := RX5) (T := TX5) (N := 3) (ty := tyX5) dX0_init_40 rfl inX5 wcl0_28 wib_5 wn_5 tyX5_ok rfl (fun j hj => by match j, hj with | 0, _ => exact Or.inl ⟨rfl, rfl⟩ | 1, _ => exact Or.inr ⟨rfl, rfl⟩ | 2, _ => exact Or.inr ⟨rfl, rfl⟩) rfl) ?_
  refine tok_cons (snd_dup dX0_init_43 rfl) ?_
  refine tok_cons (snd_ci dX0_init_44 mok_5_init rfl ⟨wi_5_init, rfl, Or.inr (List.mem_of_getElem? (i := 8) rfl)⟩ pn_5_init (by decide) rfl) ?_
  refine tok_cons (snd_pr (ty := (.object RX5)) (C := RX0) (T := TX0) (N := 7) (ty0 := tyX0) dX0_init_47 rfl (by decide) rfl rfl rfl wf0_31 inX0 tyX0_ok nmX0 (by decide +kernel) (fun a => ⟨rfl, rfl⟩) rfl) ?_
  refine tok_cons (snd_ret dX0_init_50 rfl) ?_
  exact tok_nil
def tab_1_init (X : XT) : Tab := [(0, false, a_aload 0 1), (1, false, a_oi M_1_init 4), (4, false, a_aload 0 5), (5, false, a_const 4 6), (6, false, a_const 20 8), (8, false, a_mnew M_1_init 4 20 12), (12, false, a_pr 1 1 15), (15, false, a_aload 0 16), (16, false, a_new M_1_init 4 [none, some none] 19), (19, false, a_dup 20), (20, false, a_ci X M_1_init M_4_init 4 23), (23, false, a_pr 1 2 26), (26, false, a_aload 0 27), (27, false, a_new M_1_init 4 [none, some none] 30), (30, false, a_dup 31), (31, false, a_ci X M_1_init M_4_init 4 34), (34, false, a_pr 1 3 37), (37, false, a_aload 0 38), (38, false, a_gst 0 41), (41, false, a_clone M_1_init 44), (44, false, a_cast 47), (47, false, a_pr 1 4 50), (50, false, a_ret M_1_init)]
set_option maxRecDepth 20000 in
theorem t_1_init (X : XT) : tget (tab_1_init X) 0 = some (false, a_aload 0 1) ∧ tget (tab_1_init X) 1 = some (false, a_oi M_1_init 4) ∧ tget (tab_1_init X) 4 = some (false, a_aload 0 5) ∧ tget (tab_1_init X) 5 = some (false, a_const 4 6) ∧ tget (tab_1_init X) 6 = some (false, a_const 20 8) ∧ tget (tab_1_init X) 8 = some (false, a_mnew M_1_init 4 20 12) ∧ tget (tab_1_init X) 12 = some (false, a_pr 1 1 15) ∧ tget (tab_1_init X) 15 = some (false, a_aload 0 16) ∧ tget (tab_1_init X) 16 = some (false, a_new M_1_init 4 [none, some none] 19) ∧ tget (tab_1_init X) 19 = some (false, a_dup 20) ∧ tget (tab_1_init X) 20 = some (false, a_ci X M_1_init M_4_init 4 23) ∧ tget (tab_1_init X) 23 = some (false, a_pr 1 2 26) ∧ tget (tab_1_init X) 26 = some (false, a_aload 0 27) ∧ tget (tab_1_init X) 27 = some (false, a_new M_1_init 4 [none, some none] 30) ∧ tget (tab_1_init X) 30 = some (false, a_dup 31) ∧ tget (tab_1_init X) 31 = some (false, a_ci X M_1_init M_4_init 4 34) ∧ tget (tab_1_init X) 34 = some (false, a_pr 1 3 37) ∧ tget (tab_1_init X) 37 = some (false, a_aload 0 38) ∧ tget (tab_1_init X) 38 = some (false, a_gst 0 41) ∧ tget (tab_1_init X) 41 = some (false, a_clone M_1_init 44) ∧ tget (tab_1_init X) 44 = some (false, a_cast 47) ∧ tget (tab_1_init X) 47 = some (false, a_pr 1 4 50) ∧ tget (tab_1_init X) 50 = some (false, a_ret M_1_init) := ⟨rfl, rfl, rfl, rfl, rfl, rfl, rfl, rfl, rfl, rfl, rfl, rfl, rfl, rfl, rfl, rfl, rfl, rfl, rfl, rfl, rfl, rfl, rfl⟩
theorem tok_1_init (X : XT) : TabOK X M_1_init (tab_1_init X) := by
  unfold tab_1_init
  refine tok_cons (snd_aload_n dX1_init_0 rfl rfl) ?_
  refine tok_cons (snd_oi dX1_init_1 wm1_3 w_oi w_oc (by decide) rfl) ?_
  refine tok_cons (snd_aload_n dX1_init_4 rfl rfl) ?_
  refine tok_cons (snd_iconst dX1_init_5 rfl (inr_d rfl) rfl) ?_
  refine tok_cons (snd_bipush dX1_init_6 (by decide) (inr_d rfl) rfl) ?_
  refine tok_cons (snd_mnew dX1_init_8 wcl1_9 wac_int (Nat.le_of_ble_eq_true rfl) (Nat.le_of_ble_eq_true rfl) rfl) ?_
  refine tok_cons (snd_pr (ty := (.array (.array .int))) (C := RX1) (T := TX1) (N := 5) (ty0 := tyX1) dX1_init_12 rfl (by decide) rfl rfl rfl wf1_11 inX1 tyX1_ok nmX1 (by decide +kernel) (fun a => ⟨rfl, rfl⟩) rfl) ?_
  refine tok_cons (snd_aload_n dX1_init_15 rfl rfl) ?_
  refine tok_cons (snd_new (C := RX4) (T := TX4) (N := 2) (ty := tyX4) dX1_init_16 rfl inX4 wcl1_16 wib_4 wn_4 tyX4_ok rfl (fun j hj => by match j, hj with | 0, _ => exact Or.inl ⟨rfl, rfl⟩ | 1, _ => exact Or.inr ⟨rfl, rfl⟩) rfl) ?_
  refine tok_cons (snd_dup dX1_init_19 rfl) ?_
  refine tok_cons (snd_ci dX1_init_20 mok_4_init rfl ⟨wi_4_init, rfl, Or.inr (List.mem_of_getElem? (i := 1) rfl)⟩ pn_4_init (by decide) rfl) ?_
  refine tok_cons (snd_pr (ty := (.object RX4)) (C := RX1) (T := TX1) (N := 5) (ty0 := tyX1) dX1_init_23 rfl (by decide) rfl rfl rfl wf1_19 inX1 tyX1_ok nmX1 (by decide +kernel) (fun a => ⟨rfl, rfl⟩) rfl) ?_
  refine tok_cons (snd_aload_n dX1_init_26 rfl rfl) ?_
  refine tok_cons (snd_new (C := RX4) (T := TX4) (N := 2) (ty := tyX4) dX1_init_27 rfl inX4 wcl1_16 wib_4 wn_4 tyX4_ok rfl (fun j hj => by match j, hj with | 0, _ => exact Or.inl ⟨rfl, rfl⟩ | 1, _ => exact Or.inr ⟨rfl, rfl⟩) rfl) ?_
  refine tok_cons (snd_dup dX1_init_30 rfl) ?_
  refine tok_cons (snd_ci dX1_init_31 mok_4_init rfl ⟨wi_4_init, rfl, Or.inr (List.mem_of_getElem? (i := 1) rfl)⟩ pn_4_init (by decide) rfl) ?_
  refine tok_cons (snd_pr (ty := (.object RX4)) (C := RX1) (T := TX1) (N := 5) (ty0 := tyX1) dX1_init_34 rfl (by decide) rfl rfl rfl wf1_23 inX1 tyX1_ok nmX1 (by decide +kernel) (fun a => ⟨rfl, rfl⟩) rfl) ?_
  refine tok_cons (snd_aload_n dX1_init_37 rfl rfl) ?_
  refine tok_cons (snd_gstN dX1_init_38 (by decide) rfl (List.mem_of_getElem? (i := 0) rfl) rfl) ?_
  refine tok_cons (snd_clone dX1_init_41 wm1_30 w_same w_natcl w_instcl w_selcl (by decide) rfl) ?_
  refine tok_cons (snd_cast dX1_init_44 wcl1_31 rfl) ?_
  refine tok_cons (snd_pr (ty := (.array .int)) (C := RX1) (T := TX1) (N := 5) (ty0 := tyX1) dX1_init_47 rfl (by decide) rfl rfl rfl wf1_35 inX1 tyX1_ok nmX1 (by decide +kernel) (fun a => ⟨rfl, rfl⟩) rfl) ?_
  refine tok_cons (snd_ret dX1_init_50 rfl) ?_
  exact tok_nil
def tab_6_init (X : XT) : Tab := [(0, false, a_aload 0 1), (1, false, a_oi M_6_init 4), (4, false, a_aload 0 5), (5, false, a_const 0 6), (6, false, a_pi 6 0 0 false 9), (9, false, a_aload 0 10), (10, false, a_const 602 13), (13, false, a_newa M_6_init false 602 15), (15, false, a_pr 6 2 18), (18, false, a_aload 0 19), (19, false, a_const 601 22), (22, false, a_newa M_6_init false 601 24), (24, false, a_pr 6 3 27), (27, false, a_aload 0 28), (28, false, a_const 8 30), (30, false, a_const 600 33), (33, false, a_mnew M_6_init 8 600 37), (37, false, a_pr 6 4 40), (40, false, a_aload 0 41), (41, false, a_const 7 43), (43, false, a_const 1202 46), (46, false, a_mnew M_6_init 7 1202 50), (50, false, a_pr 6 5 53), (53, false, a_aload 0 54), (54, false, a_new M_6_init 2 [some none, some none, some none, some none, some none, some none, some none] 57), (57, false, a_dup 58), (58, false, a_ci X M_6_init M_2_init 2 61), (61, false, a_pr 6 7 64), (64, false, a_aload 0 65), (65, false, a_new M_6_init 2 [some none, some none, some none, some none, some none, some none, some none] 68), (68, false, a_dup 69), (69, false, a_ci X M_6_init M_2_init 2 72), (72, false, a_pr 6 8 75), (75, false, a_aload 0 76), (76, false, a_new M_6_init 5 [none, some none, some none] 79), (79, false, a_dup 80), (80, false, a_ci X M_6_init M_5_init 5 83), (83, false, a_pr 6 9 86), (86, false, a_aload 0 87), (87, false, a_new M_6_init 5 [none, some none, some none] 90), (90, false, a_dup 91), (91, false, a_ci X M_6_init M_5_init 5 94), (94, false, a_pr 6 10 97), (97, false, a_ret M_6_init)]
set_option maxRecDepth 20000 in
theorem t_6_init (X : XT) : tget (tab_6_init X) 0 = some (false, a_aload 0 1) ∧ tget (tab_6_init X) 1 = some (false, a_oi M_6_init 4) ∧ tget (tab_6_init X) 4 = some (false, a_aload 0 5) ∧ tget (tab_6_init X) 5 = some (false, a_const 0 6) ∧ tget (tab_6_init X) 6 = some (false, a_pi 6 0 0 false 9) ∧ tget (tab_6_init X) 9 = some (false, a_aload 0 10) ∧ tget (tab_6_init X) 10 = some (false, a_const 602 13) ∧ tget (tab_6_init X) 13 = some (false, a_newa M_6_init false 602 15) ∧ tget (tab_6_init X) 15 = some (false, a_pr 6 2 18) ∧ tget (tab_6_init X) 18 = some (false, a_aload 0 19) ∧ tget (tab_6_init X) 19 = some (false, a_const 601 22) ∧ tget (tab_6_init X) 22 = some (false, a_newa M_6_init false 601 24) ∧ tget (tab_6_init X) 24 = some (false, a_pr 6 3 27) ∧ tget (tab_6_init X) 27 = some (false, a_aload 0 28) ∧ tget (tab_6_init X) 28 = some (false, a_const 8 30) ∧ tget (tab_6_init X) 30 = some (false, a_const 600 33) ∧ tget (tab_6_init X) 33 = some (false, a_mnew M_6_init 8 600 37) ∧ tget (tab_6_init X) 37 = some (false, a_pr 6 4 40) ∧ tget (tab_6_init X) 40 = some (false, a_aload 0 41) ∧ tget (tab_6_init X) 41 = some (false, a_const 7 43) ∧ tget (tab_6_init X) 43 = some (false, a_const 1202 46) ∧ tget (tab_6_init X) 46 = some (false, a_mnew M_6_init 7 1202 50) ∧ tget (tab_6_init X) 50 = some (false, a_pr 6 5 53) ∧ tget (tab_6_init X) 53 = some (false, a_aload 0 54) ∧ tget (tab_6_init X) 54 = some (false, a_new M_6_init 2 [some none, some none, some none, some none, some none, some none, some none] 57) ∧ tget (tab_6_init X) 57 = some (false, a_dup 58) ∧ tget (tab_6_init X) 58 = some (false, a_ci X M_6_init M_2_init 2 61) ∧ tget (tab_6_init X) 61 = some (false, a_pr 6 7 64) ∧ tget (tab_6_init X) 64 = some (false, a_aload 0 65) ∧ tget (tab_6_init X) 65 = some (false, a_new M_6_init 2 [some none, some none, some none, some none, some none, some none, some none] 68) ∧ tget (tab_6_init X) 68 = some (false, a_dup 69) ∧ tget (tab_6_init X) 69 = some (false, a_ci X M_6_init M_2_init 2 72) ∧ tget (tab_6_init X) 72 = some (false, a_pr 6 8 75) ∧ tget (tab_6_init X) 75 = some (false, a_aload 0 76) ∧ tget (tab_6_init X) 76 = some (false, a_new M_6_init 5 [none, some none, some none] 79) ∧ tget (tab_6_init X) 79 = some (false, a_dup 80) ∧ tget (tab_6_init X) 80 = some (false, a_ci X M_6_init M_5_init 5 83) ∧ tget (tab_6_init X) 83 = some (false, a_pr 6 9 86) ∧ tget (tab_6_init X) 86 = some (false, a_aload 0 87) ∧ tget (tab_6_init X) 87 = some (false, a_new M_6_init 5 [none, some none, some none] 90) ∧ tget (tab_6_init X) 90 = some (false, a_dup 91) ∧ tget (tab_6_init X) 91 = some (false, a_ci X M_6_init M_5_init 5 94) ∧ tget (tab_6_init X) 94 = some (false, a_pr 6 10 97) ∧ tget (tab_6_init X) 97 = some (false, a_ret M_6_init) := ⟨rfl, rfl, rfl, rfl, rfl, rfl, rfl, rfl, rfl, rfl, rfl, rfl, rfl, rfl, rfl, rfl, rfl, rfl, rfl, rfl, rfl, rfl, rfl, rfl, rfl, rfl, rfl, rfl, rfl, rfl, rfl, rfl, rfl, rfl, rfl, rfl, rfl, rfl, rfl, rfl, rfl, rfl, rfl, rfl⟩
theorem tok_6_init (X : XT) : TabOK X M_6_init (tab_6_init X) := by
  unfold tab_6_init
  refine tok_cons (snd_aload_n dX6_init_0 rfl rfl) ?_
  refine tok_cons (snd_oi dX6_init_1 wm6_3 w_oi w_oc (by decide) rfl) ?_
  refine tok_cons (snd_aload_n dX6_init_4 rfl rfl) ?_
  refine tok_cons (snd_iconst dX6_init_5 rfl (inr_d rfl) rfl) ?_
  refine tok_cons (snd_pi (C := RX6) (T := TX6) (N := 11) (ty0 := tyX6) dX6_init_6 rfl (by decide) rfl wf6_11 inX6 tyX6_ok nmX6 (by decide +kernel) rfl rfl) ?_
  refine tok_cons (snd_aload_n dX6_init_9 rfl rfl) ?_
  refine tok_cons (snd_sipush dX6_init_10 (by decide) (inr_d rfl) rfl) ?_
  refine tok_cons (snd_newa dX6_init_13 rfl wac_int (Nat.le_of_ble_eq_true rfl) rfl) ?_
  refine tok_cons (snd_pr (ty := (.array .int)) (C := RX6) (T := TX6) (N := 11) (ty0 := tyX6) dX6_init_15 rfl (by decide) rfl rfl rfl wf6_15 inX6 tyX6_ok nmX6 (by decide +kernel) (fun a => ⟨rfl, rfl⟩) rfl) ?_
  refine tok_cons (snd_aload_n dX6_init_18 rfl rfl) ?_
  refine tok_cons (snd_sipush dX6_init_19 (by decide) (inr_d rfl) rfl) ?_
  refine tok_cons (snd_newa dX6_init_22 rfl wac_int (Nat.le_of_ble_eq_true rfl) rfl) ?_
  refine tok_cons (snd_pr (ty := (.array .int)) (C := RX6) (T := TX6) (N := 11) (ty0 := tyX6) dX6_init_24 rfl (by decide) rfl rfl rfl wf6_19 inX6 tyX6_ok nmX6 (by decide +kernel) (fun a => ⟨rfl, rfl⟩) rfl) ?_
  refine tok_cons (snd_aload_n dX6_init_27 rfl rfl) ?_
  refine tok_cons (snd_bipush dX6_init_28 (by decide) (inr_d rfl) rfl) ?_
  refine tok_cons (snd_sipush dX6_init_30 (by decide) (inr_d rfl) rfl) ?_
  refine tok_cons (snd_mnew dX6_init_33 wcl6_22 wac_int (Nat.le_of_ble_eq_true rfl) (Nat.le_of_ble_eq_true rfl) rfl) ?_
  refine tok_cons (snd_pr (ty := (.array (.array .int))) (C := RX6) (T := TX6) (N := 11) (ty0 := tyX6) dX6_init_37 rfl (by decide) rfl rfl rfl wf6_24 inX6 tyX6_ok nmX6 (by decide +kernel) (fun a => ⟨rfl, rfl⟩) rfl) ?_
  refine tok_cons (snd_aload_n dX6_init_40 rfl rfl) ?_
  refine tok_cons (snd_bipush dX6_init_41 (by decide) (inr_d rfl) rfl) ?_
  refine tok_cons (snd_sipush dX6_init_43 (by decide) (inr_d rfl) rfl) ?_
  refine tok_cons (snd_mnew dX6_init_46 wcl6_22 wac_int (Nat.le_of_ble_eq_true rfl) (Nat.le_of_ble_eq_true rfl) rfl) ?_
  refine tok_cons (snd_pr (ty := (.array (.array .int))) (C := RX6) (T := TX6) (N := 11) (ty0 := tyX6) dX6_init_50 rfl (by decide) rfl rfl rfl wf6_27 inX6 tyX6_ok nmX6 (by decide +kernel) (fun a => ⟨rfl, rfl⟩) rfl) ?_
  refine tok_cons (snd_aload_n dX6_init_53 rfl rfl) ?_
  refine tok_cons (snd_new (C := RX2) (T := TX2) (N := 7) (ty := tyX2) dX6_init_54 rfl inX2 wcl6_30 wib_2 wn_2 tyX2_ok rfl (fun j hj => by match j, hj with | 0, _ => exact Or.inr ⟨rfl, rfl⟩ | 1, _ => exact Or.inr ⟨rfl, rfl⟩ | 2, _ => exact Or.inr ⟨rfl, rfl⟩ | 3, _ => exact Or.inr ⟨rfl, rfl⟩ | 4, _ => exact Or.inr ⟨rfl, rfl⟩ | 5, _ => exact Or.inr ⟨rfl, rfl⟩ | 6, _ => exact Or.inr ⟨rfl, rfl⟩) rfl) ?_
  refine tok_cons (snd_dup dX6_init_57 rfl) ?_
  refine tok_cons (snd_ci dX6_init_58 mok_2_init rfl ⟨wi_2_init, rfl, Or.inr (List.mem_of_getElem? (i := 4) rfl)⟩ pn_2_init (by decide) rfl) ?_
  refine tok_cons (snd_pr (ty := (.object RX2)) (C := RX6) (T := TX6) (N := 11) (ty0 := tyX6) dX6_init_61 rfl (by decide) rfl rfl rfl wf6_33 inX6 tyX6_ok nmX6 (by decide +kernel) (fun a => ⟨rfl, rfl⟩) rfl) ?_
  refine tok_cons (snd_aload_n dX6_init_64 rfl rfl) ?_
  refine tok_cons (snd_new (C := RX2) (T := TX2) (N := 7) (ty := tyX2) dX6_init_65 rfl inX2 wcl6_30 wib_2 wn_2 tyX2_ok rfl (fun j hj => by match j, hj with | 0, _ => exact Or.inr ⟨rfl, rfl⟩ | 1, _ => exact Or.inr ⟨rfl, rfl⟩ | 2, _ => exact Or.inr ⟨rfl, rfl⟩ | 3, _ => exact Or.inr ⟨rfl, rfl⟩ | 4, _ => exact Or.inr ⟨rfl, rfl⟩ | 5, _ => exact Or.inr ⟨rfl, rfl⟩ | 6, _ => exact Or.inr ⟨rfl, rfl⟩) rfl) ?_
  refine tok_cons (snd_dup dX6_init_68 rfl) ?_
  refine tok_cons (snd_ci dX6_init_69 mok_2_init rfl ⟨wi_2_init, rfl, Or.inr (List.mem_of_getElem? (i := 4) rfl)⟩ pn_2_init (by decide) rfl) ?_
  refine tok_cons (snd_pr (ty := (.object RX2)) (C := RX6) (T := TX6) (N := 11) (ty0 := tyX6) dX6_init_72 rfl (by decide) rfl rfl rfl wf6_37 inX6 tyX6_ok nmX6 (by decide +kernel) (fun a => ⟨rfl, rfl⟩) rfl) ?_
  refine tok_cons (snd_aload_n dX6_init_75 rfl rfl) ?_
  refine tok_cons (snd_new (C := RX5) (T := TX5) (N := 3) (ty := tyX5) dX6_init_76 rfl inX5 wcl6_40 wib_5 wn_5 tyX5_ok rfl (fun j hj => by match j, hj with | 0, _ => exact Or.inl ⟨rfl, rfl⟩ | 1, _ => exact Or.inr ⟨rfl, rfl⟩ | 2, _ => exact Or.inr ⟨rfl, rfl⟩) rfl) ?_
  refine tok_cons (snd_dup dX6_init_79 rfl) ?_
  refine tok_cons (snd_ci dX6_init_80 mok_5_init rfl ⟨wi_5_init, rfl, Or.inr (List.mem_of_getElem? (i := 5) rfl)⟩ pn_5_init (by decide) rfl) ?_
  refine tok_cons (snd_pr (ty := (.object RX5)) (C := RX6) (T := TX6) (N := 11) (ty0 := tyX6) dX6_init_83 rfl (by decide) rfl rfl rfl wf6_43 inX6 tyX6_ok nmX6 (by decide +kernel) (fun a => ⟨rfl, rfl⟩) rfl) ?_
  refine tok_cons (snd_aload_n dX6_init_86 rfl rfl) ?_
  refine tok_cons (snd_new (C := RX5) (T := TX5) (N := 3) (ty := tyX5) dX6_init_87 rfl inX5 wcl6_40 wib_5 wn_5 tyX5_ok rfl (fun j hj => by match j, hj with | 0, _ => exact Or.inl ⟨rfl, rfl⟩ | 1, _ => exact Or.inr ⟨rfl, rfl⟩ | 2, _ => exact Or.inr ⟨rfl, rfl⟩) rfl) ?_
  refine tok_cons (snd_dup dX6_init_90 rfl) ?_
  refine tok_cons (snd_ci dX6_init_91 mok_5_init rfl ⟨wi_5_init, rfl, Or.inr (List.mem_of_getElem? (i := 5) rfl)⟩ pn_5_init (by decide) rfl) ?_
  refine tok_cons (snd_pr (ty := (.object RX5)) (C := RX6) (T := TX6) (N := 11) (ty0 := tyX6) dX6_init_94 rfl (by decide) rfl rfl rfl wf6_47 inX6 tyX6_ok nmX6 (by decide +kernel) (fun a => ⟨rfl, rfl⟩) rfl) ?_
  refine tok_cons (snd_ret dX6_init_97 rfl) ?_
  exact tok_nil
def tab_3_init (X : XT) : Tab := [(0, false, a_aload 0 1), (1, false, a_oi M_3_init 4), (4, false, a_aload 0 5), (5, false, a_const 6 7), (7, false, a_anew M_3_init 6 10), (10, false, a_pr 3 2 13), (13, false, a_const 0 14), (14, false, a_istore 1 15), (15, false, a_iload 1 16), (16, false, a_const 6 18), (18, false, a_icmp 3 40 21), (21, false, a_aload 0 22), (22, false, a_gr 3 2 25), (25, false, a_iload 1 26), (26, false, a_new M_3_init 1 [none, some none, some none, some none, some none] 29), (29, false, a_dup 30), (30, false, a_ci X M_3_init M_1_init 1 33), (33, false, a_astq 34), (34, false, a_iinc 1 1 37), (37, false, a_goto 15), (40, false, a_ret M_3_init)]
set_option maxRecDepth 20000 in
theorem t_3_init (X : XT) : tget (tab_3_init X) 0 = some (false, a_aload 0 1) ∧ tget (tab_3_init X) 1 = some (false, a_oi M_3_init 4) ∧ tget (tab_3_init X) 4 = some (false, a_aload 0 5) ∧ tget (tab_3_init X) 5 = some (false, a_const 6 7) ∧ tget (tab_3_init X) 7 = some (false, a_anew M_3_init 6 10) ∧ tget (tab_3_init X) 10 = some (false, a_pr 3 2 13) ∧ tget (tab_3_init X) 13 = some (false, a_const 0 14) ∧ tget (tab_3_init X) 14 = some (false, a_istore 1 15) ∧ tget (tab_3_init X) 15 = some (false, a_iload 1 16) ∧ tget (tab_3_init X) 16 = some (false, a_const 6 18) ∧ tget (tab_3_init X) 18 = some (false, a_icmp 3 40 21) ∧ tget (tab_3_init X) 21 = some (false, a_aload 0 22) ∧ tget (tab_3_init X) 22 = some (false, a_gr 3 2 25) ∧ tget (tab_3_init X) 25 = some (false, a_iload 1 26) ∧ tget (tab_3_init X) 26 = some (false, a_new M_3_init 1 [none, some none, some none, some none, some none] 29) ∧ tget (tab_3_init X) 29 = some (false, a_dup 30) ∧ tget (tab_3_init X) 30 = some (false, a_ci X M_3_init M_1_init 1 33) ∧ tget (tab_3_init X) 33 = some (false, a_astq 34) ∧ tget (tab_3_init X) 34 = some (false, a_iinc 1 1 37) ∧ tget (tab_3_init X) 37 = some (false, a_goto 15) ∧ tget (tab_3_init X) 40 = some (false, a_ret M_3_init) := ⟨rfl, rfl, rfl, rfl, rfl, rfl, rfl, rfl, rfl, rfl, rfl, rfl, rfl, rfl, rfl, rfl, rfl, rfl, rfl, rfl, rfl⟩
theorem tok_3_init (X : XT) : TabOK X M_3_init (tab_3_init X) := by
  unfold tab_3_init
  refine tok_cons (snd_aload_n dX3_init_0 rfl rfl) ?_
  refine tok_cons (snd_oi dX3_init_1 wm3_3 w_oi w_oc (by decide) rfl) ?_
  refine tok_cons (snd_aload_n dX3_init_4 rfl rfl) ?_
  refine tok_cons (snd_bipush dX3_init_5 (by decide) (inr_d rfl) rfl) ?_
  refine tok_cons (snd_anew dX3_init_7 wcl3_9 (Nat.le_of_ble_eq_true rfl) rfl) ?_
  refine tok_cons (snd_pr (ty := (.array (.object RX1))) (C := RX3) (T := TX3) (N := 3) (ty0 := tyX3) dX3_init_10 rfl (by decide) rfl rfl rfl wf3_11 inX3 tyX3_ok nmX3 (by decide +kernel) (fun a => ⟨rfl, rfl⟩) rfl) ?_
  refine tok_cons (snd_iconst dX3_init_13 rfl (inr_d rfl) rfl) ?_
  refine tok_cons (snd_istore_n dX3_init_14 rfl rfl (by decide)) ?_
  refine tok_cons (snd_iload_n dX3_init_15 rfl rfl) ?_
  refine tok_cons (snd_bipush dX3_init_16 (by decide) (inr_d rfl) rfl) ?_
  refine tok_cons (snd_icmp_ge dX3_init_18 (by decide) rfl) ?_
  refine tok_cons (snd_aload_n dX3_init_21 rfl rfl) ?_
  refine tok_cons (snd_gr (C := RX3) (T := TX3) (N := 3) dX3_init_22 rfl (by decide) rfl wf3_11 inX3 rfl) ?_
  refine tok_cons (snd_iload_n dX3_init_25 rfl rfl) ?_
  refine tok_cons (snd_new (C := RX1) (T := TX1) (N := 5) (ty := tyX1) dX3_init_26 rfl inX1 wcl3_9 wib_1 wn_1 tyX1_ok rfl (fun j hj => by match j, hj with | 0, _ => exact Or.inl ⟨rfl, rfl⟩ | 1, _ => exact Or.inr ⟨rfl, rfl⟩ | 2, _ => exact Or.inr ⟨rfl, rfl⟩ | 3, _ => exact Or.inr ⟨rfl, rfl⟩ | 4, _ => exact Or.inr ⟨rfl, rfl⟩) rfl) ?_
  refine tok_cons (snd_dup dX3_init_29 rfl) ?_
  refine tok_cons (snd_ci dX3_init_30 mok_1_init rfl ⟨wi_1_init, rfl, Or.inr (List.mem_of_getElem? (i := 2) rfl)⟩ pn_1_init (by decide) rfl) ?_
  refine tok_cons (snd_astq dX3_init_33 rfl) ?_
  refine tok_cons (snd_iinc dX3_init_34 rfl rfl (by decide)) ?_
  refine tok_cons (snd_goto dX3_init_37 (by decide)) ?_
  refine tok_cons (snd_ret dX3_init_40 rfl) ?_
  exact tok_nil
def tab_7_init (X : XT) : Tab := [(0, false, a_aload 0 1), (1, false, a_oi M_7_init 4), (4, false, a_aload 0 5), (5, false, a_new M_7_init 1 [none, some none, some none, some none, some none] 8), (8, false, a_dup 9), (9, false, a_ci X M_7_init M_1_init 1 12), (12, false, a_pr 7 0 15), (15, false, a_aload 0 16), (16, false, a_new M_7_init 3 [none, none, some none] 19), (19, false, a_dup 20), (20, false, a_ci X M_7_init M_3_init 3 23), (23, false, a_pr 7 1 26), (26, false, a_aload 0 27), (27, false, a_new M_7_init 6 [none, none, some none, some none, some none, some none, none, some none, some none, some none, some none] 30), (30, false, a_dup 31), (31, false, a_ci X M_7_init M_6_init 6 34), (34, false, a_pr 7 2 37), (37, false, a_aload 0 38), (38, false, a_new M_7_init 0 [none, none, some none, some none, some none, some none, some none] 41), (41, false, a_dup 42), (42, false, a_ci X M_7_init M_0_init 0 45), (45, false, a_pr 7 3 48), (48, false, a_ret M_7_init)]
set_option maxRecDepth 20000 in
theorem t_7_init (X : XT) : tget (tab_7_init X) 0 = some (false, a_aload 0 1) ∧ tget (tab_7_init X) 1 = some (false, a_oi M_7_init 4) ∧ tget (tab_7_init X) 4 = some (false, a_aload 0 5) ∧ tget (tab_7_init X) 5 = some (false, a_new M_7_init 1 [none, some none, some none, some none, some none] 8) ∧ tget (tab_7_init X) 8 = some (false, a_dup 9) ∧ tget (tab_7_init X) 9 = some (false, a_ci X M_7_init M_1_init 1 12) ∧ tget (tab_7_init X) 12 = some (false, a_pr 7 0 15) ∧ tget (tab_7_init X) 15 = some (false, a_aload 0 16) ∧ tget (tab_7_init X) 16 = some (false, a_new M_7_init 3 [none, none, some none] 19) ∧ tget (tab_7_init X) 19 = some (false, a_dup 20) ∧ tget (tab_7_init X) 20 = some (false, a_ci X M_7_init M_3_init 3 23) ∧ tget (tab_7_init X) 23 = some (false, a_pr 7 1 26) ∧ tget (tab_7_init X) 26 = some (false, a_aload 0 27) ∧ tget (tab_7_init X) 27 = some (false, a_new M_7_init 6 [none, none, some none, some none, some none, some none, none, some none, some none, some none, some none] 30) ∧ tget (tab_7_init X) 30 = some (false, a_dup 31) ∧ tget (tab_7_init X) 31 = some (false, a_ci X M_7_init M_6_init 6 34) ∧ tget (tab_7_init X) 34 = some (false, a_pr 7 2 37) ∧ tget (tab_7_init X) 37 = some (false, a_aload 0 38) ∧ tget (tab_7_init X) 38 = some (false, a_new M_7_init 0 [none, none, some none, some none, some none, some none, some none] 41) ∧ tget (tab_7_init X) 41 = some (false, a_dup 42) ∧ tget (tab_7_init X) 42 = some (false, a_ci X M_7_init M_0_init 0 45) ∧ tget (tab_7_init X) 45 = some (false, a_pr 7 3 48) ∧ tget (tab_7_init X) 48 = some (false, a_ret M_7_init) := ⟨rfl, rfl, rfl, rfl, rfl, rfl, rfl, rfl, rfl, rfl, rfl, rfl, rfl, rfl, rfl, rfl, rfl, rfl, rfl, rfl, rfl, rfl, rfl⟩
theorem tok_7_init (X : XT) : TabOK X M_7_init (tab_7_init X) := by
  unfold tab_7_init
  refine tok_cons (snd_aload_n dX7_init_0 rfl rfl) ?_
  refine tok_cons (snd_oi dX7_init_1 wm7_1 w_oi w_oc (by decide) rfl) ?_
  refine tok_cons (snd_aload_n dX7_init_4 rfl rfl) ?_
  refine tok_cons (snd_new (C := RX1) (T := TX1) (N := 5) (ty := tyX1) dX7_init_5 rfl inX1 wcl7_7 wib_1 wn_1 tyX1_ok rfl (fun j hj => by match j, hj with | 0, _ => exact Or.inl ⟨rfl, rfl⟩ | 1, _ => exact Or.inr ⟨rfl, rfl⟩ | 2, _ => exact Or.inr ⟨rfl, rfl⟩ | 3, _ => exact Or.inr ⟨rfl, rfl⟩ | 4, _ => exact Or.inr ⟨rfl, rfl⟩) rfl) ?_
  refine tok_cons (snd_dup dX7_init_8 rfl) ?_
  refine tok_cons (snd_ci dX7_init_9 mok_1_init rfl ⟨wi_1_init, rfl, Or.inr (List.mem_of_getElem? (i := 0) rfl)⟩ pn_1_init (by decide) rfl) ?_
  refine tok_cons (snd_pr (ty := (.object RX1)) (C := RX7) (T := TX7) (N := 4) (ty0 := tyX7) dX7_init_12 rfl (by decide) rfl rfl rfl wf7_10 inX7 tyX7_ok nmX7 (by decide +kernel) (fun a => ⟨rfl, rfl⟩) rfl) ?_
  refine tok_cons (snd_aload_n dX7_init_15 rfl rfl) ?_
  refine tok_cons (snd_new (C := RX3) (T := TX3) (N := 3) (ty := tyX3) dX7_init_16 rfl inX3 wcl7_16 wib_3 wn_3 tyX3_ok rfl (fun j hj => by match j, hj with | 0, _ => exact Or.inl ⟨rfl, rfl⟩ | 1, _ => exact Or.inl ⟨rfl, rfl⟩ | 2, _ => exact Or.inr ⟨rfl, rfl⟩) rfl) ?_
  refine tok_cons (snd_dup dX7_init_19 rfl) ?_
  refine tok_cons (snd_ci dX7_init_20 mok_3_init rfl ⟨wi_3_init, rfl, Or.inl wm7_18⟩ pn_3_init (by decide) rfl) ?_
  refine tok_cons (snd_pr (ty := (.object RX3)) (C := RX7) (T := TX7) (N := 4) (ty0 := tyX7) dX7_init_23 rfl (by decide) rfl rfl rfl wf7_19 inX7 tyX7_ok nmX7 (by decide +kernel) (fun a => ⟨rfl, rfl⟩) rfl) ?_
  refine tok_cons (snd_aload_n dX7_init_26 rfl rfl) ?_
  refine tok_cons (snd_new (C := RX6) (T := TX6) (N := 11) (ty := tyX6) dX7_init_27 rfl inX6 wcl7_23 wib_6 wn_6 tyX6_ok rfl (fun j hj => by match j, hj with | 0, _ => exact Or.inl ⟨rfl, rfl⟩ | 1, _ => exact Or.inl ⟨rfl, rfl⟩ | 2, _ => exact Or.inr ⟨rfl, rfl⟩ | 3, _ => exact Or.inr ⟨rfl, rfl⟩ | 4, _ => exact Or.inr ⟨rfl, rfl⟩ | 5, _ => exact Or.inr ⟨rfl, rfl⟩ | 6, _ => exact Or.inl ⟨rfl, rfl⟩ | 7, _ => exact Or.inr ⟨rfl, rfl⟩ | 8, _ => exact Or.inr ⟨rfl, rfl⟩ | 9, _ => exact Or.inr ⟨rfl, rfl⟩ | 10, _ => exact Or.inr ⟨rfl, rfl⟩) rfl) ?_
  refine tok_cons (snd_dup dX7_init_30 rfl) ?_
  refine tok_cons (snd_ci dX7_init_31 mok_6_init rfl ⟨wi_6_init, rfl, Or.inr (List.mem_of_getElem? (i := 3) rfl)⟩ pn_6_init (by decide) rfl) ?_
  refine tok_cons (snd_pr (ty := (.object RX6)) (C := RX7) (T := TX7) (N := 4) (ty0 := tyX7) dX7_init_34 rfl (by decide) rfl rfl rfl wf7_26 inX7 tyX7_ok nmX7 (by decide +kernel) (fun a => ⟨rfl, rfl⟩) rfl) ?_
  refine tok_cons (snd_aload_n dX7_init_37 rfl rfl) ?_
  refine tok_cons (snd_new (C := RX0) (T := TX0) (N := 7) (ty := tyX0) dX7_init_38 rfl inX0 wcl7_30 wib_0 wn_0 tyX0_ok rfl (fun j hj => by match j, hj with | 0, _ => exact Or.inl ⟨rfl, rfl⟩ | 1, _ => exact Or.inl ⟨rfl, rfl⟩ | 2, _ => exact Or.inr ⟨rfl, rfl⟩ | 3, _ => exact Or.inr ⟨rfl, rfl⟩ | 4, _ => exact Or.inr ⟨rfl, rfl⟩ | 5, _ => exact Or.inr ⟨rfl, rfl⟩ | 6, _ => exact Or.inr ⟨rfl, rfl⟩) rfl) ?_
  refine tok_cons (snd_dup dX7_init_41 rfl) ?_
  refine tok_cons (snd_ci dX7_init_42 mok_0_init rfl ⟨wi_0_init, rfl, Or.inr (List.mem_of_getElem? (i := 6) rfl)⟩ pn_0_init (by decide) rfl) ?_
  refine tok_cons (snd_pr (ty := (.object RX0)) (C := RX7) (T := TX7) (N := 4) (ty0 := tyX7) dX7_init_45 rfl (by decide) rfl rfl rfl wf7_33 inX7 tyX7_ok nmX7 (by decide +kernel) (fun a => ⟨rfl, rfl⟩) rfl) ?_
  refine tok_cons (snd_ret dX7_init_48 rfl) ?_
  exact tok_nil
