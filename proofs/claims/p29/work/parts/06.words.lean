/-! ===== words by their places in the tables ===== -/
theorem in_t1 {i : Nat} {w : Cond} (h : tables_1_1[i]? = some w) (hg : goodWord w = true) : w ∈ W0 := W0_in (List.mem_append_right _ (List.mem_append_left _ (List.mem_of_getElem? h))) hg
theorem in_t2 {i : Nat} {w : Cond} (h : tables_1_2[i]? = some w) (hg : goodWord w = true) : w ∈ W0 := W0_in (List.mem_append_right _ (List.mem_append_right _ (List.mem_append_left _ (List.mem_of_getElem? h)))) hg
theorem in_t3 {i : Nat} {w : Cond} (h : tables_1_3[i]? = some w) (hg : goodWord w = true) : w ∈ W0 := W0_in (List.mem_append_right _ (List.mem_append_right _ (List.mem_append_right _ (List.mem_of_getElem? h)))) hg
theorem in_s {i : Nat} {w : Cond} (h : (k2_sels lw_privs)[i]? = some w) (hg : goodWord w = true) : w ∈ W0 := W0_in (List.mem_append_left _ (List.mem_of_getElem? h)) hg
theorem inr_d {v : Int} (h : decide (-2147483648 ≤ v ∧ v ≤ 2147483647) = true) : InR v := of_decide_eq_true (p := -2147483648 ≤ v ∧ v ≤ 2147483647) h
theorem tok_nil {X : XT} {M : MT} : TabOK X M [] := fun _ h => by cases h
theorem tok_cons {X : XT} {M : MT} {k : Nat} {b : Bool} {a : Act} {t : Tab} (h : Snd X M k a) (ht : TabOK X M t) : TabOK X M ((k, b, a) :: t) := fun q hq => (List.mem_cons.mp hq).elim (fun e => e ▸ h) (ht q)
theorem wc_0_isAllowed : Cond.code yX0_isAllowed cX0_isAllowed 1 (some .boolean) ∈ W0 := in_t2 (i := 205) rfl rfl
theorem wn_0 : Cond.initialized RX0 ∈ W0 := in_t1 (i := 8) rfl rfl
theorem wc_0_search : Cond.code yX0_search cX0_search 3 none ∈ W0 := in_t2 (i := 179) rfl rfl
theorem wc_0_searchFrom : Cond.code yX0_searchFrom cX0_searchFrom 4 none ∈ W0 := in_t2 (i := 183) rfl rfl
theorem wc_0_considerGroup : Cond.code yX0_considerGroup cX0_considerGroup 5 none ∈ W0 := in_t2 (i := 196) rfl rfl
theorem wc_0_blankSquares : Cond.code yX0_blankSquares cX0_blankSquares 5 (some .int) ∈ W0 := in_t2 (i := 200) rfl rfl
theorem wc_1_notes : Cond.code yX1_notes cX1_notes 2 (some (.object "BilingualSetter$Notes")) ∈ W0 := in_t2 (i := 113) rfl rfl
theorem wn_1 : Cond.initialized RX1 ∈ W0 := in_t1 (i := 2) rfl rfl
theorem wc_1_hasPair : Cond.code yX1_hasPair cX1_hasPair 2 (some .boolean) ∈ W0 := in_t2 (i := 78) rfl rfl
theorem wc_1_hasLine : Cond.code yX1_hasLine cX1_hasLine 4 (some .boolean) ∈ W0 := in_t3 (i := 14) rfl rfl
theorem wc_1_placePair : Cond.code yX1_placePair cX1_placePair 5 none ∈ W0 := in_t2 (i := 230) rfl rfl
theorem wc_1_copyFrom : Cond.code yX1_copyFrom cX1_copyFrom 2 none ∈ W0 := in_t2 (i := 38) rfl rfl
theorem wc_2_turn : Cond.code yX2_turn cX2_turn 4 none ∈ W0 := in_t2 (i := 83) rfl rfl
theorem wn_2 : Cond.initialized RX2 ∈ W0 := in_t1 (i := 6) rfl rfl
theorem wc_2_copyFrom : Cond.code yX2_copyFrom cX2_copyFrom 2 none ∈ W0 := in_t2 (i := 104) rfl rfl
theorem wc_2_put : Cond.code yX2_put cX2_put 8 none ∈ W0 := in_t2 (i := 109) rfl rfl
theorem wc_2_noteRows : Cond.code yX2_noteRows cX2_noteRows 5 (some .int) ∈ W0 := in_t2 (i := 133) rfl rfl
theorem wc_2_mostCarried : Cond.code yX2_mostCarried cX2_mostCarried 3 (some .int) ∈ W0 := in_t2 (i := 128) rfl rfl
theorem wc_2_fits : Cond.code yX2_fits cX2_fits 5 (some .boolean) ∈ W0 := in_t2 (i := 124) rfl rfl
theorem wc_2_carriedFrom : Cond.code yX2_carriedFrom cX2_carriedFrom 6 (some .int) ∈ W0 := in_t2 (i := 169) rfl rfl
theorem wc_3_record : Cond.code yX3_record cX3_record 3 none ∈ W0 := in_t2 (i := 34) rfl rfl
theorem wn_3 : Cond.initialized RX3 ∈ W0 := in_t1 (i := 4) rfl rfl
theorem wc_3_restore : Cond.code yX3_restore cX3_restore 3 none ∈ W0 := in_t3 (i := 49) rfl rfl
theorem wc_4_before : Cond.code yX4_before cX4_before 3 (some .int) ∈ W0 := in_t2 (i := 187) rfl rfl
theorem wn_4 : Cond.initialized RX4 ∈ W0 := in_t1 (i := 3) rfl rfl
theorem wc_4_endBefore : Cond.code yX4_endBefore cX4_endBefore 6 (some .int) ∈ W0 := in_t2 (i := 117) rfl rfl
theorem wc_4_place : Cond.code yX4_place cX4_place 6 (some .int) ∈ W0 := in_t3 (i := 20) rfl rfl
theorem wc_4_drop : Cond.code yX4_drop cX4_drop 3 none ∈ W0 := in_t3 (i := 29) rfl rfl
theorem wc_4_movePairs : Cond.code yX4_movePairs cX4_movePairs 4 none ∈ W0 := in_t2 (i := 237) rfl rfl
theorem wc_4_copyFrom : Cond.code yX4_copyFrom cX4_copyFrom 2 none ∈ W0 := in_t2 (i := 51) rfl rfl
theorem wc_5_takePair : Cond.code yX5_takePair cX5_takePair 4 none ∈ W0 := in_t2 (i := 74) rfl rfl
theorem wn_5 : Cond.initialized RX5 ∈ W0 := in_t1 (i := 7) rfl rfl
theorem wc_5_takeStart : Cond.code yX5_takeStart cX5_takeStart 4 none ∈ W0 := in_t2 (i := 156) rfl rfl
theorem wc_5_dropStart : Cond.code yX5_dropStart cX5_dropStart 3 none ∈ W0 := in_t2 (i := 161) rfl rfl
theorem wc_5_isBegun : Cond.code yX5_isBegun cX5_isBegun 1 (some .boolean) ∈ W0 := in_t2 (i := 96) rfl rfl
theorem wc_6_arrange : Cond.code yX6_arrange cX6_arrange 6 none ∈ W0 := in_t2 (i := 70) rfl rfl
theorem wn_6 : Cond.initialized RX6 ∈ W0 := in_t1 (i := 5) rfl rfl
theorem wc_6_isCarried : Cond.code yX6_isCarried cX6_isCarried 1 (some .boolean) ∈ W0 := in_t2 (i := 88) rfl rfl
theorem wc_6_putNext : Cond.code yX6_putNext cX6_putNext 3 (some .boolean) ∈ W0 := in_t2 (i := 92) rfl rfl
theorem wc_6_putRest : Cond.code yX6_putRest cX6_putRest 2 none ∈ W0 := in_t2 (i := 137) rfl rfl
theorem wc_6_fits : Cond.code yX6_fits cX6_fits 3 (some .boolean) ∈ W0 := in_t2 (i := 100) rfl rfl
theorem wc_6_findStart : Cond.code yX6_findStart cX6_findStart 8 (some .boolean) ∈ W0 := in_t2 (i := 151) rfl rfl
theorem wc_6_addSegment : Cond.code yX6_addSegment cX6_addSegment 5 none ∈ W0 := in_t2 (i := 141) rfl rfl
theorem wc_6_endSpread : Cond.code yX6_endSpread cX6_endSpread 6 none ∈ W0 := in_t2 (i := 165) rfl rfl
theorem wc_6_has : Cond.code yX6_has cX6_has 2 (some .boolean) ∈ W0 := in_t3 (i := 60) rfl rfl
theorem wc_6_segmentsOf : Cond.code yX6_segmentsOf cX6_segmentsOf 2 (some .int) ∈ W0 := in_t3 (i := 73) rfl rfl
theorem wc_6_segmentWith : Cond.code yX6_segmentWith cX6_segmentWith 5 (some .int) ∈ W0 := in_t3 (i := 113) rfl rfl
theorem wc_6_contains : Cond.code yX6_contains cX6_contains 6 (some .boolean) ∈ W0 := in_t3 (i := 117) rfl rfl
theorem wc_6_spreadWith : Cond.code yX6_spreadWith cX6_spreadWith 3 (some .int) ∈ W0 := in_t3 (i := 121) rfl rfl
theorem wc_6_rowIn : Cond.code yX6_rowIn cX6_rowIn 4 (some .int) ∈ W0 := in_t3 (i := 129) rfl rfl
theorem wc_6_textAt : Cond.code yX6_textAt cX6_textAt 7 (some .int) ∈ W0 := in_t3 (i := 92) rfl rfl
theorem wc_6_noteAt : Cond.code yX6_noteAt cX6_noteAt 9 (some .int) ∈ W0 := in_t3 (i := 96) rfl rfl
theorem wc_6_noteLine : Cond.code yX6_noteLine cX6_noteLine 9 (some .int) ∈ W0 := in_t3 (i := 101) rfl rfl
theorem wc_6_blankSquares : Cond.code yX6_blankSquares cX6_blankSquares 3 (some .int) ∈ W0 := in_t3 (i := 81) rfl rfl
theorem wc_7_insert : Cond.code yX7_insert cX7_insert 4 (some .int) ∈ W0 := in_t2 (i := 226) rfl rfl
theorem wn_7 : Cond.initialized RX7 ∈ W0 := in_t1 (i := 1) rfl rfl
theorem wc_7_setFlag : Cond.code yX7_setFlag cX7_setFlag 4 (some .int) ∈ W0 := in_t3 (i := 36) rfl rfl
theorem wc_7_addNote : Cond.code yX7_addNote cX7_addNote 5 (some .int) ∈ W0 := in_t3 (i := 10) rfl rfl
theorem wc_7_removeNote : Cond.code yX7_removeNote cX7_removeNote 4 (some .int) ∈ W0 := in_t3 (i := 25) rfl rfl
theorem wc_7_set : Cond.code yX7_set cX7_set 4 (some .int) ∈ W0 := in_t2 (i := 19) rfl rfl
theorem wc_7_undo : Cond.code yX7_undo cX7_undo 1 (some .int) ∈ W0 := in_t3 (i := 45) rfl rfl
theorem wc_7_pairCount : Cond.code yX7_pairCount cX7_pairCount 1 (some .int) ∈ W0 := in_t2 (i := 62) rfl rfl
theorem wc_7_pairInfo : Cond.code yX7_pairInfo cX7_pairInfo 3 (some .int) ∈ W0 := in_t3 (i := 133) rfl rfl
theorem wc_7_noteCount : Cond.code yX7_noteCount cX7_noteCount 2 (some .int) ∈ W0 := in_t3 (i := 2) rfl rfl
theorem wc_7_noteInfo : Cond.code yX7_noteInfo cX7_noteInfo 5 (some .int) ∈ W0 := in_t3 (i := 105) rfl rfl
theorem wc_7_spreadCount : Cond.code yX7_spreadCount cX7_spreadCount 1 (some .int) ∈ W0 := in_t2 (i := 66) rfl rfl
theorem wc_7_segmentCount : Cond.code yX7_segmentCount cX7_segmentCount 2 (some .int) ∈ W0 := in_t3 (i := 69) rfl rfl
theorem wc_7_pageInfo : Cond.code yX7_pageInfo cX7_pageInfo 4 (some .int) ∈ W0 := in_t3 (i := 56) rfl rfl
theorem wc_7_isOverfull : Cond.code yX7_isOverfull cX7_isOverfull 2 (some .int) ∈ W0 := in_t3 (i := 65) rfl rfl
theorem wc_7_spreadOf : Cond.code yX7_spreadOf cX7_spreadOf 4 (some .int) ∈ W0 := in_t3 (i := 109) rfl rfl
theorem wc_7_rowOf : Cond.code yX7_rowOf cX7_rowOf 4 (some .int) ∈ W0 := in_t3 (i := 125) rfl rfl
theorem wc_7_shown : Cond.code yX7_shown cX7_shown 5 (some .int) ∈ W0 := in_t3 (i := 88) rfl rfl
theorem wc_7_cost : Cond.code yX7_cost cX7_cost 1 (some .int) ∈ W0 := in_t3 (i := 77) rfl rfl
theorem wc_7_bestCost : Cond.code yX7_bestCost cX7_bestCost 1 (some .int) ∈ W0 := in_t2 (i := 175) rfl rfl
theorem wc_7_bestBreak : Cond.code yX7_bestBreak cX7_bestBreak 2 (some .int) ∈ W0 := in_t2 (i := 210) rfl rfl
theorem wc_7_leastHeight : Cond.code yX7_leastHeight cX7_leastHeight 3 (some .int) ∈ W0 := in_t2 (i := 214) rfl rfl
theorem wc_7_changePair : Cond.code yX7_changePair cX7_changePair 5 (some .int) ∈ W0 := in_t3 (i := 41) rfl rfl
theorem wc_7_beginChange : Cond.code yX7_beginChange cX7_beginChange 1 none ∈ W0 := in_t2 (i := 30) rfl rfl
theorem wc_7_forgetResults : Cond.code yX7_forgetResults cX7_forgetResults 1 none ∈ W0 := in_t2 (i := 58) rfl rfl
theorem wc_7_isIn : Cond.code yX7_isIn cX7_isIn 3 (some .boolean) ∈ W0 := in_t2 (i := 22) rfl rfl
theorem wc_7_isSide : Cond.code yX7_isSide cX7_isSide 1 (some .boolean) ∈ W0 := in_t3 (i := 5) rfl rfl
theorem wc_7_openPlace : Cond.code yX7_openPlace cX7_openPlace 3 none ∈ W0 := in_t2 (i := 233) rfl rfl
theorem wc_7_closePlace : Cond.code yX7_closePlace cX7_closePlace 3 none ∈ W0 := in_t3 (i := 32) rfl rfl
theorem wc_7_copyTable : Cond.code yX7_copyTable cX7_copyTable 3 none ∈ W0 := in_t2 (i := 41) rfl rfl
theorem wf0_15 : Cond.fieldLink RX0 15 "BilingualSetter$Division" "costs" "[I" ∈ W0 := in_t1 (i := 223) rfl rfl
theorem wf1_23 : Cond.fieldLink RX1 23 "BilingualSetter$Edition" "right" "LBilingualSetter$Notes;" ∈ W0 := in_t1 (i := 67) rfl rfl
theorem wf1_19 : Cond.fieldLink RX1 19 "BilingualSetter$Edition" "left" "LBilingualSetter$Notes;" ∈ W0 := in_t1 (i := 64) rfl rfl
theorem wf2_9 : Cond.fieldLink RX2 9 "BilingualSetter$Facing" "text" "[I" ∈ W0 := in_t1 (i := 119) rfl rfl
theorem wf2_15 : Cond.fieldLink RX2 15 "BilingualSetter$Facing" "next" "[I" ∈ W0 := in_t1 (i := 122) rfl rfl
theorem wf2_18 : Cond.fieldLink RX2 18 "BilingualSetter$Facing" "carriedTo" "[I" ∈ W0 := in_t1 (i := 124) rfl rfl
theorem wf2_21 : Cond.fieldLink RX2 21 "BilingualSetter$Facing" "firstNote" "[I" ∈ W0 := in_t1 (i := 126) rfl rfl
theorem wf2_24 : Cond.fieldLink RX2 24 "BilingualSetter$Facing" "notes" "[I" ∈ W0 := in_t1 (i := 128) rfl rfl
theorem wf2_27 : Cond.fieldLink RX2 27 "BilingualSetter$Facing" "noteLines" "[I" ∈ W0 := in_t1 (i := 130) rfl rfl
theorem wf2_30 : Cond.fieldLink RX2 30 "BilingualSetter$Facing" "lastLength" "[I" ∈ W0 := in_t1 (i := 131) rfl rfl
theorem wm2_33 : Cond.methodLink RX2 33 arraycopyName ∈ W0 := in_t2 (i := 105) rfl rfl
theorem wnat : Cond.native arraycopyName ∈ W0 := in_t2 (i := 47) rfl rfl
theorem ws_acopy : Cond.static arraycopyName ∈ W0 := in_t2 (i := 46) rfl rfl
theorem wn_Sys : Cond.initialized "java/lang/System" ∈ W0 := in_t1 (i := 10) rfl rfl
theorem wm2_75 : Cond.methodLink RX2 75 Lib.Math.min.name ∈ W0 := in_t2 (i := 129) rfl rfl
theorem ws_min : Cond.static Lib.Math.min.name ∈ W0 := in_t2 (i := 43) rfl rfl
theorem wn_Math : Cond.initialized "java/lang/Math" ∈ W0 := in_t1 (i := 9) rfl rfl
theorem wc_min : Cond.code Lib.Math.min.name Lib.Math.min.code 2 (some .int) ∈ W0 := in_t2 (i := 44) rfl rfl
theorem wm2_69 : Cond.methodLink RX2 69 Lib.Math.max.name ∈ W0 := in_t2 (i := 118) rfl rfl
theorem ws_max : Cond.static Lib.Math.max.name ∈ W0 := in_t2 (i := 119) rfl rfl
theorem wc_max : Cond.code Lib.Math.max.name Lib.Math.max.code 2 (some .int) ∈ W0 := in_t2 (i := 120) rfl rfl
theorem wf4_11 : Cond.fieldLink RX4 11 "BilingualSetter$Notes" "table" "[[I" ∈ W0 := in_t1 (i := 37) rfl rfl
theorem wf4_20 : Cond.fieldLink RX4 20 "BilingualSetter$Notes" "count" "I" ∈ W0 := in_t1 (i := 34) rfl rfl
theorem wf5_18 : Cond.fieldLink RX5 18 "BilingualSetter$Part" "pair" "I" ∈ W0 := in_t1 (i := 153) rfl rfl
theorem wf5_9 : Cond.fieldLink RX5 9 "BilingualSetter$Part" "first" "[I" ∈ W0 := in_t1 (i := 156) rfl rfl
theorem wm5_32 : Cond.methodLink RX5 32 arraycopyName ∈ W0 := in_t2 (i := 157) rfl rfl
theorem wf5_15 : Cond.fieldLink RX5 15 "BilingualSetter$Part" "lines" "[I" ∈ W0 := in_t1 (i := 159) rfl rfl
theorem wf6_33 : Cond.fieldLink RX6 33 "BilingualSetter$Spreads" "now" "LBilingualSetter$Facing;" ∈ W0 := in_t1 (i := 180) rfl rfl
theorem wf6_85 : Cond.fieldLink RX6 85 "BilingualSetter$Facing" "carriedTo" "[I" ∈ W0 := in_t1 (i := 125) rfl rfl
theorem wf6_15 : Cond.fieldLink RX6 15 "BilingualSetter$Spreads" "firstSegment" "[I" ∈ W0 := in_t1 (i := 173) rfl rfl
theorem wf6_50 : Cond.fieldLink RX6 50 "BilingualSetter$Spreads" "count" "I" ∈ W0 := in_t1 (i := 171) rfl rfl
theorem wf6_24 : Cond.fieldLink RX6 24 "BilingualSetter$Spreads" "segments" "[[I" ∈ W0 := in_t1 (i := 176) rfl rfl
theorem wf6_27 : Cond.fieldLink RX6 27 "BilingualSetter$Spreads" "pages" "[[I" ∈ W0 := in_t1 (i := 177) rfl rfl
theorem wf6_193 : Cond.fieldLink RX6 193 "BilingualSetter$Notes" "count" "I" ∈ W0 := in_t1 (i := 36) rfl rfl
theorem wf6_188 : Cond.fieldLink RX6 188 "BilingualSetter$Notes" "table" "[[I" ∈ W0 := in_t1 (i := 40) rfl rfl
theorem wf7_10 : Cond.fieldLink RX7 10 "BilingualSetter" "edition" "LBilingualSetter$Edition;" ∈ W0 := in_t2 (i := 3) rfl rfl
theorem wf7_37 : Cond.fieldLink RX7 37 "BilingualSetter$Edition" "count" "I" ∈ W0 := in_t1 (i := 56) rfl rfl
theorem wf7_26 : Cond.fieldLink RX7 26 "BilingualSetter" "spreads" "LBilingualSetter$Spreads;" ∈ W0 := in_t2 (i := 5) rfl rfl
theorem wf7_188 : Cond.fieldLink RX7 188 "BilingualSetter$Spreads" "height" "I" ∈ W0 := in_t1 (i := 170) rfl rfl
theorem wf7_33 : Cond.fieldLink RX7 33 "BilingualSetter" "division" "LBilingualSetter$Division;" ∈ W0 := in_t2 (i := 6) rfl rfl
theorem wf7_191 : Cond.fieldLink RX7 191 "BilingualSetter$Division" "isSearched" "Z" ∈ W0 := in_t1 (i := 218) rfl rfl
theorem wm7_201 : Cond.methodLink RX7 201 Lib.Math.min.name ∈ W0 := in_t2 (i := 42) rfl rfl
theorem wm7_195 : Cond.methodLink RX7 195 arraycopyName ∈ W0 := in_t2 (i := 45) rfl rfl
theorem wf0_84 : Cond.fieldLink RX0 84 "BilingualSetter$Edition" "settings" "[I" ∈ W0 := in_t1 (i := 71) rfl rfl
theorem wf0_24 : Cond.fieldLink RX0 24 "BilingualSetter$Division" "group" "LBilingualSetter$Facing;" ∈ W0 := in_t1 (i := 226) rfl rfl
theorem wf0_99 : Cond.fieldLink RX0 99 "BilingualSetter$Facing" "text" "[I" ∈ W0 := in_t1 (i := 120) rfl rfl
theorem wm0_102 : Cond.methodLink RX0 102 yX2_noteRows ∈ W0 := in_t2 (i := 201) rfl rfl
theorem wi_2_noteRows : Cond.instanceMethod yX2_noteRows ∈ W0 := in_t2 (i := 131) rfl rfl
theorem wl_2_noteRows : Cond.selects RX2 yX2_noteRows yX2_noteRows ∈ W0 := in_t2 (i := 132) rfl rfl
theorem wf1_38 : Cond.fieldLink RX1 38 "BilingualSetter$Edition" "count" "I" ∈ W0 := in_t1 (i := 57) rfl rfl
theorem ws_7_isIn : Cond.static yX7_isIn ∈ W0 := in_t2 (i := 21) rfl rfl
theorem wf2_66 : Cond.fieldLink RX2 66 "BilingualSetter$Edition" "settings" "[I" ∈ W0 := in_t1 (i := 72) rfl rfl
theorem wf2_39 : Cond.fieldLink RX2 39 "BilingualSetter$Part" "lines" "[I" ∈ W0 := in_t1 (i := 160) rfl rfl
theorem wm2_44 : Cond.methodLink RX2 44 yX1_notes ∈ W0 := in_t2 (i := 110) rfl rfl
theorem wi_1_notes : Cond.instanceMethod yX1_notes ∈ W0 := in_t2 (i := 111) rfl rfl
theorem wl_1_notes : Cond.selects RX1 yX1_notes yX1_notes ∈ W0 := in_t2 (i := 112) rfl rfl
theorem wf2_49 : Cond.fieldLink RX2 49 "BilingualSetter$Part" "pair" "I" ∈ W0 := in_t1 (i := 155) rfl rfl
theorem wf2_53 : Cond.fieldLink RX2 53 "BilingualSetter$Part" "first" "[I" ∈ W0 := in_t1 (i := 157) rfl rfl
theorem wm2_56 : Cond.methodLink RX2 56 yX4_endBefore ∈ W0 := in_t2 (i := 114) rfl rfl
theorem wi_4_endBefore : Cond.instanceMethod yX4_endBefore ∈ W0 := in_t2 (i := 115) rfl rfl
theorem wl_4_endBefore : Cond.selects RX4 yX4_endBefore yX4_endBefore ∈ W0 := in_t2 (i := 116) rfl rfl
theorem wf2_62 : Cond.fieldLink RX2 62 "BilingualSetter$Notes" "table" "[[I" ∈ W0 := in_t1 (i := 38) rfl rfl
theorem wm2_78 : Cond.methodLink RX2 78 yX2_mostCarried ∈ W0 := in_t2 (i := 125) rfl rfl
theorem wi_2_mostCarried : Cond.instanceMethod yX2_mostCarried ∈ W0 := in_t2 (i := 126) rfl rfl
theorem wl_2_mostCarried : Cond.selects RX2 yX2_mostCarried yX2_mostCarried ∈ W0 := in_t2 (i := 127) rfl rfl
theorem wm2_81 : Cond.methodLink RX2 81 yX2_noteRows ∈ W0 := in_t2 (i := 130) rfl rfl
theorem wm4_16 : Cond.methodLink RX4 16 yX4_endBefore ∈ W0 := in_t2 (i := 188) rfl rfl
theorem ws_7_copyTable : Cond.static yX7_copyTable ∈ W0 := in_t2 (i := 40) rfl rfl
theorem wf6_11 : Cond.fieldLink RX6 11 "BilingualSetter$Spreads" "height" "I" ∈ W0 := in_t1 (i := 169) rfl rfl
theorem wm6_165 : Cond.methodLink RX6 165 Lib.Math.max.name ∈ W0 := in_t2 (i := 171) rfl rfl
theorem wf6_120 : Cond.fieldLink RX6 120 "BilingualSetter$Edition" "settings" "[I" ∈ W0 := in_t1 (i := 73) rfl rfl
theorem wm6_181 : Cond.methodLink RX6 181 yX1_notes ∈ W0 := in_t3 (i := 97) rfl rfl
theorem wm6_184 : Cond.methodLink RX6 184 yX6_noteLine ∈ W0 := in_t3 (i := 98) rfl rfl
theorem wi_6_noteLine : Cond.instanceMethod yX6_noteLine ∈ W0 := in_t3 (i := 100) rfl rfl
theorem wl_6_noteLine : Cond.selects RX6 yX6_noteLine yX6_noteLine ∈ W0 := in_s (i := 13) rfl rfl
theorem wm7_41 : Cond.methodLink RX7 41 yX7_isIn ∈ W0 := in_t2 (i := 20) rfl rfl
theorem wf0_39 : Cond.fieldLink RX0 39 "BilingualSetter$Edition" "count" "I" ∈ W0 := in_t1 (i := 58) rfl rfl
theorem wf0_18 : Cond.fieldLink RX0 18 "BilingualSetter$Division" "sizes" "[I" ∈ W0 := in_t1 (i := 225) rfl rfl
theorem wm0_95 : Cond.methodLink RX0 95 yX0_blankSquares ∈ W0 := in_t2 (i := 197) rfl rfl
theorem wi_0_blankSquares : Cond.instanceMethod yX0_blankSquares ∈ W0 := in_t2 (i := 199) rfl rfl
theorem wl_0_blankSquares : Cond.selects RX0 yX0_blankSquares yX0_blankSquares ∈ W0 := in_s (i := 11) rfl rfl
theorem wm1_46 : Cond.methodLink RX1 46 yX1_hasPair ∈ W0 := in_t3 (i := 15) rfl rfl
theorem wi_1_hasPair : Cond.instanceMethod yX1_hasPair ∈ W0 := in_t2 (i := 76) rfl rfl
theorem wl_1_hasPair : Cond.selects RX1 yX1_hasPair yX1_hasPair ∈ W0 := in_t2 (i := 77) rfl rfl
theorem ws_7_isSide : Cond.static yX7_isSide ∈ W0 := in_t3 (i := 4) rfl rfl
theorem wf1_11 : Cond.fieldLink RX1 11 "BilingualSetter$Edition" "pairs" "[[I" ∈ W0 := in_t1 (i := 59) rfl rfl
theorem wm1_72 : Cond.methodLink RX1 72 yX4_copyFrom ∈ W0 := in_t2 (i := 48) rfl rfl
theorem wi_4_copyFrom : Cond.instanceMethod yX4_copyFrom ∈ W0 := in_t2 (i := 49) rfl rfl
theorem wl_4_copyFrom : Cond.selects RX4 yX4_copyFrom yX4_copyFrom ∈ W0 := in_t2 (i := 50) rfl rfl
theorem wf1_35 : Cond.fieldLink RX1 35 "BilingualSetter$Edition" "settings" "[I" ∈ W0 := in_t1 (i := 70) rfl rfl
theorem wm1_76 : Cond.methodLink RX1 76 arraycopyName ∈ W0 := in_t2 (i := 53) rfl rfl
theorem wm4_24 : Cond.methodLink RX4 24 yX4_before ∈ W0 := in_t2 (i := 238) rfl rfl
theorem wi_4_before : Cond.instanceMethod yX4_before ∈ W0 := in_t2 (i := 185) rfl rfl
theorem wl_4_before : Cond.selects RX4 yX4_before yX4_before ∈ W0 := in_t2 (i := 186) rfl rfl
theorem ws_7_openPlace : Cond.static yX7_openPlace ∈ W0 := in_t2 (i := 232) rfl rfl
theorem ws_7_closePlace : Cond.static yX7_closePlace ∈ W0 := in_t3 (i := 31) rfl rfl
theorem wm5_22 : Cond.methodLink RX5 22 yX1_hasPair ∈ W0 := in_t2 (i := 75) rfl rfl
theorem wf5_28 : Cond.fieldLink RX5 28 "BilingualSetter$Edition" "pairs" "[[I" ∈ W0 := in_t1 (i := 60) rfl rfl
theorem wf6_37 : Cond.fieldLink RX6 37 "BilingualSetter$Spreads" "trial" "LBilingualSetter$Facing;" ∈ W0 := in_t1 (i := 181) rfl rfl
theorem wm6_112 : Cond.methodLink RX6 112 yX2_copyFrom ∈ W0 := in_t2 (i := 101) rfl rfl
theorem wi_2_copyFrom : Cond.instanceMethod yX2_copyFrom ∈ W0 := in_t2 (i := 102) rfl rfl
theorem wl_2_copyFrom : Cond.selects RX2 yX2_copyFrom yX2_copyFrom ∈ W0 := in_t2 (i := 103) rfl rfl
theorem wm6_116 : Cond.methodLink RX6 116 yX2_put ∈ W0 := in_t2 (i := 106) rfl rfl
theorem wi_2_put : Cond.instanceMethod yX2_put ∈ W0 := in_t2 (i := 107) rfl rfl
theorem wl_2_put : Cond.selects RX2 yX2_put yX2_put ∈ W0 := in_t2 (i := 108) rfl rfl
theorem wm6_123 : Cond.methodLink RX6 123 yX2_fits ∈ W0 := in_t2 (i := 121) rfl rfl
theorem wi_2_fits : Cond.instanceMethod yX2_fits ∈ W0 := in_t2 (i := 122) rfl rfl
theorem wl_2_fits : Cond.selects RX2 yX2_fits yX2_fits ∈ W0 := in_t2 (i := 123) rfl rfl
theorem wf6_53 : Cond.fieldLink RX6 53 "BilingualSetter$Spreads" "segmentsMade" "I" ∈ W0 := in_t1 (i := 179) rfl rfl
theorem wf6_64 : Cond.fieldLink RX6 64 "BilingualSetter$Part" "pair" "I" ∈ W0 := in_t1 (i := 154) rfl rfl
theorem wf6_145 : Cond.fieldLink RX6 145 "BilingualSetter$Part" "first" "[I" ∈ W0 := in_t1 (i := 158) rfl rfl
theorem wf6_126 : Cond.fieldLink RX6 126 "BilingualSetter$Part" "lines" "[I" ∈ W0 := in_t1 (i := 161) rfl rfl
theorem wf6_129 : Cond.fieldLink RX6 129 "BilingualSetter$Facing" "next" "[I" ∈ W0 := in_t1 (i := 123) rfl rfl
theorem wm6_154 : Cond.methodLink RX6 154 yX2_carriedFrom ∈ W0 := in_t2 (i := 166) rfl rfl
theorem wi_2_carriedFrom : Cond.instanceMethod yX2_carriedFrom ∈ W0 := in_t2 (i := 167) rfl rfl
theorem wl_2_carriedFrom : Cond.selects RX2 yX2_carriedFrom yX2_carriedFrom ∈ W0 := in_t2 (i := 168) rfl rfl
theorem wm6_158 : Cond.methodLink RX6 158 yX2_noteRows ∈ W0 := in_t2 (i := 170) rfl rfl
theorem wf6_162 : Cond.fieldLink RX6 162 "BilingualSetter$Facing" "text" "[I" ∈ W0 := in_t1 (i := 121) rfl rfl
theorem wf6_168 : Cond.fieldLink RX6 168 "BilingualSetter$Facing" "notes" "[I" ∈ W0 := in_t1 (i := 129) rfl rfl
theorem wf6_171 : Cond.fieldLink RX6 171 "BilingualSetter$Facing" "firstNote" "[I" ∈ W0 := in_t1 (i := 127) rfl rfl
theorem wm6_60 : Cond.methodLink RX6 60 yX2_turn ∈ W0 := in_t2 (i := 80) rfl rfl
theorem wi_2_turn : Cond.instanceMethod yX2_turn ∈ W0 := in_t2 (i := 81) rfl rfl
theorem wl_2_turn : Cond.selects RX2 yX2_turn yX2_turn ∈ W0 := in_t2 (i := 82) rfl rfl
theorem wm6_177 : Cond.methodLink RX6 177 yX6_contains ∈ W0 := in_t3 (i := 114) rfl rfl
theorem wi_6_contains : Cond.instanceMethod yX6_contains ∈ W0 := in_t3 (i := 116) rfl rfl
theorem wl_6_contains : Cond.selects RX6 yX6_contains yX6_contains ∈ W0 := in_s (i := 14) rfl rfl
theorem wm7_52 : Cond.methodLink RX7 52 yX1_hasPair ∈ W0 := in_t3 (i := 37) rfl rfl
theorem wf7_112 : Cond.fieldLink RX7 112 "BilingualSetter$Edition" "pairs" "[[I" ∈ W0 := in_t1 (i := 63) rfl rfl
theorem wm7_60 : Cond.methodLink RX7 60 yX7_isSide ∈ W0 := in_t3 (i := 3) rfl rfl
theorem wm7_63 : Cond.methodLink RX7 63 yX1_notes ∈ W0 := in_t3 (i := 6) rfl rfl
theorem wf7_84 : Cond.fieldLink RX7 84 "BilingualSetter$Notes" "count" "I" ∈ W0 := in_t1 (i := 35) rfl rfl
theorem wf7_116 : Cond.fieldLink RX7 116 "BilingualSetter$Notes" "table" "[[I" ∈ W0 := in_t1 (i := 39) rfl rfl
theorem wf0_56 : Cond.fieldLink RX0 56 "BilingualSetter$Edition" "left" "LBilingualSetter$Notes;" ∈ W0 := in_t1 (i := 65) rfl rfl
theorem wm0_60 : Cond.methodLink RX0 60 yX4_before ∈ W0 := in_t2 (i := 184) rfl rfl
theorem wm0_66 : Cond.methodLink RX0 66 yX2_turn ∈ W0 := in_t2 (i := 189) rfl rfl
theorem wf0_70 : Cond.fieldLink RX0 70 "BilingualSetter$Edition" "right" "LBilingualSetter$Notes;" ∈ W0 := in_t1 (i := 68) rfl rfl
theorem wf0_31 : Cond.fieldLink RX0 31 "BilingualSetter$Division" "whole" "LBilingualSetter$Part;" ∈ W0 := in_t1 (i := 227) rfl rfl
theorem wm0_77 : Cond.methodLink RX0 77 yX5_takePair ∈ W0 := in_t2 (i := 190) rfl rfl
theorem wi_5_takePair : Cond.instanceMethod yX5_takePair ∈ W0 := in_t2 (i := 72) rfl rfl
theorem wl_5_takePair : Cond.selects RX5 yX5_takePair yX5_takePair ∈ W0 := in_t2 (i := 73) rfl rfl
theorem wm0_80 : Cond.methodLink RX0 80 yX2_put ∈ W0 := in_t2 (i := 191) rfl rfl
theorem wm0_87 : Cond.methodLink RX0 87 yX2_fits ∈ W0 := in_t2 (i := 192) rfl rfl
theorem wm0_91 : Cond.methodLink RX0 91 yX0_considerGroup ∈ W0 := in_t2 (i := 193) rfl rfl
theorem wi_0_considerGroup : Cond.instanceMethod yX0_considerGroup ∈ W0 := in_t2 (i := 195) rfl rfl
theorem wl_0_considerGroup : Cond.selects RX0 yX0_considerGroup yX0_considerGroup ∈ W0 := in_s (i := 10) rfl rfl
theorem wf0_73 : Cond.fieldLink RX0 73 "BilingualSetter$Edition" "pairs" "[[I" ∈ W0 := in_t1 (i := 62) rfl rfl
theorem wm1_57 : Cond.methodLink RX1 57 yX4_movePairs ∈ W0 := in_t2 (i := 234) rfl rfl
theorem wi_4_movePairs : Cond.instanceMethod yX4_movePairs ∈ W0 := in_t2 (i := 235) rfl rfl
theorem wl_4_movePairs : Cond.selects RX4 yX4_movePairs yX4_movePairs ∈ W0 := in_t2 (i := 236) rfl rfl
theorem wf3_11 : Cond.fieldLink RX3 11 "BilingualSetter$History" "ring" "[LBilingualSetter$Edition;" ∈ W0 := in_t1 (i := 98) rfl rfl
theorem wf3_18 : Cond.fieldLink RX3 18 "BilingualSetter$History" "next" "I" ∈ W0 := in_t1 (i := 97) rfl rfl
theorem wm3_22 : Cond.methodLink RX3 22 yX1_copyFrom ∈ W0 := in_t2 (i := 35) rfl rfl
theorem wi_1_copyFrom : Cond.instanceMethod yX1_copyFrom ∈ W0 := in_t2 (i := 36) rfl rfl
theorem wl_1_copyFrom : Cond.selects RX1 yX1_copyFrom yX1_copyFrom ∈ W0 := in_t2 (i := 37) rfl rfl
theorem wf3_26 : Cond.fieldLink RX3 26 "BilingualSetter$History" "count" "I" ∈ W0 := in_t1 (i := 95) rfl rfl
theorem wm3_29 : Cond.methodLink RX3 29 Lib.Math.min.name ∈ W0 := in_t2 (i := 54) rfl rfl
theorem wf6_43 : Cond.fieldLink RX6 43 "BilingualSetter$Spreads" "rest" "LBilingualSetter$Part;" ∈ W0 := in_t1 (i := 182) rfl rfl
theorem wm6_104 : Cond.methodLink RX6 104 yX6_addSegment ∈ W0 := in_t2 (i := 138) rfl rfl
theorem wi_6_addSegment : Cond.instanceMethod yX6_addSegment ∈ W0 := in_t2 (i := 140) rfl rfl
theorem wl_6_addSegment : Cond.selects RX6 yX6_addSegment yX6_addSegment ∈ W0 := in_s (i := 6) rfl rfl
theorem wm6_56 : Cond.methodLink RX6 56 yX5_takePair ∈ W0 := in_t2 (i := 71) rfl rfl
theorem wm6_132 : Cond.methodLink RX6 132 Lib.Math.min.name ∈ W0 := in_t2 (i := 152) rfl rfl
theorem wf6_47 : Cond.fieldLink RX6 47 "BilingualSetter$Spreads" "start" "LBilingualSetter$Part;" ∈ W0 := in_t1 (i := 183) rfl rfl
theorem wm6_138 : Cond.methodLink RX6 138 yX5_takeStart ∈ W0 := in_t2 (i := 153) rfl rfl
theorem wi_5_takeStart : Cond.instanceMethod yX5_takeStart ∈ W0 := in_t2 (i := 154) rfl rfl
theorem wl_5_takeStart : Cond.selects RX5 yX5_takeStart yX5_takeStart ∈ W0 := in_t2 (i := 155) rfl rfl
theorem wm6_94 : Cond.methodLink RX6 94 yX6_fits ∈ W0 := in_t2 (i := 97) rfl rfl
theorem wi_6_fits : Cond.instanceMethod yX6_fits ∈ W0 := in_t2 (i := 99) rfl rfl
theorem wl_6_fits : Cond.selects RX6 yX6_fits yX6_fits ∈ W0 := in_s (i := 4) rfl rfl
theorem wf0_35 : Cond.fieldLink RX0 35 "BilingualSetter$Division" "isSearched" "Z" ∈ W0 := in_t1 (i := 217) rfl rfl
theorem wf0_49 : Cond.fieldLink RX0 49 "BilingualSetter$Division" "groups" "I" ∈ W0 := in_t1 (i := 219) rfl rfl
theorem wm0_52 : Cond.methodLink RX0 52 yX0_isAllowed ∈ W0 := in_t2 (i := 202) rfl rfl
theorem wi_0_isAllowed : Cond.instanceMethod yX0_isAllowed ∈ W0 := in_t2 (i := 203) rfl rfl
theorem wl_0_isAllowed : Cond.selects RX0 yX0_isAllowed yX0_isAllowed ∈ W0 := in_t2 (i := 204) rfl rfl
theorem wf0_9 : Cond.fieldLink RX0 9 "BilingualSetter$Division" "firstPairs" "[I" ∈ W0 := in_t1 (i := 221) rfl rfl
theorem wm0_45 : Cond.methodLink RX0 45 yX0_searchFrom ∈ W0 := in_t2 (i := 180) rfl rfl
theorem wi_0_searchFrom : Cond.instanceMethod yX0_searchFrom ∈ W0 := in_t2 (i := 182) rfl rfl
theorem wl_0_searchFrom : Cond.selects RX0 yX0_searchFrom yX0_searchFrom ∈ W0 := in_s (i := 9) rfl rfl
theorem wm6_67 : Cond.methodLink RX6 67 yX1_hasPair ∈ W0 := in_t2 (i := 84) rfl rfl
theorem wf6_91 : Cond.fieldLink RX6 91 "BilingualSetter$Edition" "pairs" "[[I" ∈ W0 := in_t1 (i := 61) rfl rfl
theorem wf6_19 : Cond.fieldLink RX6 19 "BilingualSetter$Spreads" "overfull" "[I" ∈ W0 := in_t1 (i := 174) rfl rfl
theorem wm6_98 : Cond.methodLink RX6 98 yX6_putRest ∈ W0 := in_t2 (i := 134) rfl rfl
theorem wi_6_putRest : Cond.instanceMethod yX6_putRest ∈ W0 := in_t2 (i := 136) rfl rfl
theorem wl_6_putRest : Cond.selects RX6 yX6_putRest yX6_putRest ∈ W0 := in_s (i := 5) rfl rfl
theorem wm6_101 : Cond.methodLink RX6 101 yX6_findStart ∈ W0 := in_t2 (i := 148) rfl rfl
theorem wi_6_findStart : Cond.instanceMethod yX6_findStart ∈ W0 := in_t2 (i := 150) rfl rfl
theorem wl_6_findStart : Cond.selects RX6 yX6_findStart yX6_findStart ∈ W0 := in_s (i := 7) rfl rfl
theorem wm6_108 : Cond.methodLink RX6 108 yX5_dropStart ∈ W0 := in_t2 (i := 158) rfl rfl
theorem wi_5_dropStart : Cond.instanceMethod yX5_dropStart ∈ W0 := in_t2 (i := 159) rfl rfl
theorem wl_5_dropStart : Cond.selects RX5 yX5_dropStart yX5_dropStart ∈ W0 := in_t2 (i := 160) rfl rfl
theorem wm6_88 : Cond.methodLink RX6 88 yX5_isBegun ∈ W0 := in_t2 (i := 93) rfl rfl
theorem wi_5_isBegun : Cond.instanceMethod yX5_isBegun ∈ W0 := in_t2 (i := 94) rfl rfl
theorem wl_5_isBegun : Cond.selects RX5 yX5_isBegun yX5_isBegun ∈ W0 := in_t2 (i := 95) rfl rfl
theorem wf7_19 : Cond.fieldLink RX7 19 "BilingualSetter" "history" "LBilingualSetter$History;" ∈ W0 := in_t2 (i := 4) rfl rfl
theorem wf7_104 : Cond.fieldLink RX7 104 "BilingualSetter$History" "count" "I" ∈ W0 := in_t1 (i := 96) rfl rfl
theorem wm7_105 : Cond.methodLink RX7 105 yX3_restore ∈ W0 := in_t3 (i := 46) rfl rfl
theorem wi_3_restore : Cond.instanceMethod yX3_restore ∈ W0 := in_t3 (i := 47) rfl rfl
theorem wl_3_restore : Cond.selects RX3 yX3_restore yX3_restore ∈ W0 := in_t3 (i := 48) rfl rfl
theorem wm7_109 : Cond.methodLink RX7 109 yX7_forgetResults ∈ W0 := in_t2 (i := 55) rfl rfl
theorem wi_7_forgetResults : Cond.instanceMethod yX7_forgetResults ∈ W0 := in_t2 (i := 57) rfl rfl
theorem wl_7_forgetResults : Cond.selects RX7 yX7_forgetResults yX7_forgetResults ∈ W0 := in_s (i := 1) rfl rfl
theorem wm7_185 : Cond.methodLink RX7 185 yX3_record ∈ W0 := in_t2 (i := 31) rfl rfl
theorem wi_3_record : Cond.instanceMethod yX3_record ∈ W0 := in_t2 (i := 32) rfl rfl
theorem wl_3_record : Cond.selects RX3 yX3_record yX3_record ∈ W0 := in_t2 (i := 33) rfl rfl
theorem wm6_81 : Cond.methodLink RX6 81 yX6_endSpread ∈ W0 := in_t2 (i := 162) rfl rfl
theorem wi_6_endSpread : Cond.instanceMethod yX6_endSpread ∈ W0 := in_t2 (i := 164) rfl rfl
theorem wl_6_endSpread : Cond.selects RX6 yX6_endSpread yX6_endSpread ∈ W0 := in_s (i := 8) rfl rfl
theorem wm6_77 : Cond.methodLink RX6 77 yX6_putNext ∈ W0 := in_t2 (i := 89) rfl rfl
theorem wi_6_putNext : Cond.instanceMethod yX6_putNext ∈ W0 := in_t2 (i := 91) rfl rfl
theorem wl_6_putNext : Cond.selects RX6 yX6_putNext yX6_putNext ∈ W0 := in_s (i := 3) rfl rfl
theorem wm6_73 : Cond.methodLink RX6 73 yX6_isCarried ∈ W0 := in_t2 (i := 85) rfl rfl
theorem wi_6_isCarried : Cond.instanceMethod yX6_isCarried ∈ W0 := in_t2 (i := 87) rfl rfl
theorem wl_6_isCarried : Cond.selects RX6 yX6_isCarried yX6_isCarried ∈ W0 := in_s (i := 2) rfl rfl
theorem wm7_45 : Cond.methodLink RX7 45 yX7_beginChange ∈ W0 := in_t2 (i := 27) rfl rfl
theorem wi_7_beginChange : Cond.instanceMethod yX7_beginChange ∈ W0 := in_t2 (i := 29) rfl rfl
theorem wl_7_beginChange : Cond.selects RX7 yX7_beginChange yX7_beginChange ∈ W0 := in_s (i := 0) rfl rfl
theorem wm7_48 : Cond.methodLink RX7 48 yX1_placePair ∈ W0 := in_t2 (i := 227) rfl rfl
theorem wi_1_placePair : Cond.instanceMethod yX1_placePair ∈ W0 := in_t2 (i := 228) rfl rfl
theorem wl_1_placePair : Cond.selects RX1 yX1_placePair yX1_placePair ∈ W0 := in_t2 (i := 229) rfl rfl
theorem wm7_77 : Cond.methodLink RX7 77 yX1_hasLine ∈ W0 := in_t3 (i := 11) rfl rfl
theorem wi_1_hasLine : Cond.instanceMethod yX1_hasLine ∈ W0 := in_t3 (i := 12) rfl rfl
theorem wl_1_hasLine : Cond.selects RX1 yX1_hasLine yX1_hasLine ∈ W0 := in_t3 (i := 13) rfl rfl
theorem wf7_80 : Cond.fieldLink RX7 80 "BilingualSetter$Edition" "left" "LBilingualSetter$Notes;" ∈ W0 := in_t1 (i := 66) rfl rfl
theorem wf7_85 : Cond.fieldLink RX7 85 "BilingualSetter$Edition" "right" "LBilingualSetter$Notes;" ∈ W0 := in_t1 (i := 69) rfl rfl
theorem wm7_88 : Cond.methodLink RX7 88 yX4_place ∈ W0 := in_t3 (i := 17) rfl rfl
theorem wi_4_place : Cond.instanceMethod yX4_place ∈ W0 := in_t3 (i := 18) rfl rfl
theorem wl_4_place : Cond.selects RX4 yX4_place yX4_place ∈ W0 := in_t3 (i := 19) rfl rfl
theorem wm7_91 : Cond.methodLink RX7 91 yX4_drop ∈ W0 := in_t3 (i := 26) rfl rfl
theorem wi_4_drop : Cond.instanceMethod yX4_drop ∈ W0 := in_t3 (i := 27) rfl rfl
theorem wl_4_drop : Cond.selects RX4 yX4_drop yX4_drop ∈ W0 := in_t3 (i := 28) rfl rfl
theorem wf7_94 : Cond.fieldLink RX7 94 "BilingualSetter" "LOWEST" "[I" ∈ W0 := in_t2 (i := 23) rfl rfl
theorem wf7_98 : Cond.fieldLink RX7 98 "BilingualSetter" "HIGHEST" "[I" ∈ W0 := in_t2 (i := 25) rfl rfl
theorem wf7_101 : Cond.fieldLink RX7 101 "BilingualSetter$Edition" "settings" "[I" ∈ W0 := in_t1 (i := 74) rfl rfl
theorem wm7_163 : Cond.methodLink RX7 163 yX0_search ∈ W0 := in_t2 (i := 176) rfl rfl
theorem wi_0_search : Cond.instanceMethod yX0_search ∈ W0 := in_t2 (i := 177) rfl rfl
theorem wl_0_search : Cond.selects RX0 yX0_search yX0_search ∈ W0 := in_t2 (i := 178) rfl rfl
theorem wm7_166 : Cond.methodLink RX7 166 yX0_isAllowed ∈ W0 := in_t2 (i := 206) rfl rfl
theorem wf7_170 : Cond.fieldLink RX7 170 "BilingualSetter$Division" "costs" "[I" ∈ W0 := in_t1 (i := 224) rfl rfl
theorem wf7_173 : Cond.fieldLink RX7 173 "BilingualSetter$Division" "groups" "I" ∈ W0 := in_t1 (i := 220) rfl rfl
theorem wf7_176 : Cond.fieldLink RX7 176 "BilingualSetter$Division" "firstPairs" "[I" ∈ W0 := in_t1 (i := 222) rfl rfl
theorem wm7_73 : Cond.methodLink RX7 73 yX7_changePair ∈ W0 := in_t3 (i := 38) rfl rfl
theorem wi_7_changePair : Cond.instanceMethod yX7_changePair ∈ W0 := in_t3 (i := 40) rfl rfl
theorem wl_7_changePair : Cond.selects RX7 yX7_changePair yX7_changePair ∈ W0 := in_s (i := 12) rfl rfl
theorem wm7_119 : Cond.methodLink RX7 119 yX6_arrange ∈ W0 := in_t2 (i := 67) rfl rfl
theorem wi_6_arrange : Cond.instanceMethod yX6_arrange ∈ W0 := in_t2 (i := 68) rfl rfl
theorem wl_6_arrange : Cond.selects RX6 yX6_arrange yX6_arrange ∈ W0 := in_t2 (i := 69) rfl rfl
theorem wf7_123 : Cond.fieldLink RX7 123 "BilingualSetter$Spreads" "count" "I" ∈ W0 := in_t1 (i := 172) rfl rfl
theorem wm7_124 : Cond.methodLink RX7 124 yX6_has ∈ W0 := in_t3 (i := 57) rfl rfl
theorem wi_6_has : Cond.instanceMethod yX6_has ∈ W0 := in_t3 (i := 58) rfl rfl
theorem wl_6_has : Cond.selects RX6 yX6_has yX6_has ∈ W0 := in_t3 (i := 59) rfl rfl
theorem wm7_127 : Cond.methodLink RX7 127 yX6_segmentsOf ∈ W0 := in_t3 (i := 70) rfl rfl
theorem wi_6_segmentsOf : Cond.instanceMethod yX6_segmentsOf ∈ W0 := in_t3 (i := 71) rfl rfl
theorem wl_6_segmentsOf : Cond.selects RX6 yX6_segmentsOf yX6_segmentsOf ∈ W0 := in_t3 (i := 72) rfl rfl
theorem wf7_137 : Cond.fieldLink RX7 137 "BilingualSetter$Spreads" "pages" "[[I" ∈ W0 := in_t1 (i := 178) rfl rfl
theorem wf7_140 : Cond.fieldLink RX7 140 "BilingualSetter$Spreads" "overfull" "[I" ∈ W0 := in_t1 (i := 175) rfl rfl
theorem wm7_143 : Cond.methodLink RX7 143 yX6_segmentWith ∈ W0 := in_t3 (i := 110) rfl rfl
theorem wi_6_segmentWith : Cond.instanceMethod yX6_segmentWith ∈ W0 := in_t3 (i := 111) rfl rfl
theorem wl_6_segmentWith : Cond.selects RX6 yX6_segmentWith yX6_segmentWith ∈ W0 := in_t3 (i := 112) rfl rfl
theorem wm7_146 : Cond.methodLink RX7 146 yX6_spreadWith ∈ W0 := in_t3 (i := 118) rfl rfl
theorem wi_6_spreadWith : Cond.instanceMethod yX6_spreadWith ∈ W0 := in_t3 (i := 119) rfl rfl
theorem wl_6_spreadWith : Cond.selects RX6 yX6_spreadWith yX6_spreadWith ∈ W0 := in_t3 (i := 120) rfl rfl
theorem wm7_149 : Cond.methodLink RX7 149 yX6_rowIn ∈ W0 := in_t3 (i := 126) rfl rfl
theorem wi_6_rowIn : Cond.instanceMethod yX6_rowIn ∈ W0 := in_t3 (i := 127) rfl rfl
theorem wl_6_rowIn : Cond.selects RX6 yX6_rowIn yX6_rowIn ∈ W0 := in_t3 (i := 128) rfl rfl
theorem wm7_152 : Cond.methodLink RX7 152 yX6_textAt ∈ W0 := in_t3 (i := 89) rfl rfl
theorem wi_6_textAt : Cond.instanceMethod yX6_textAt ∈ W0 := in_t3 (i := 90) rfl rfl
theorem wl_6_textAt : Cond.selects RX6 yX6_textAt yX6_textAt ∈ W0 := in_t3 (i := 91) rfl rfl
theorem wm7_155 : Cond.methodLink RX7 155 yX6_noteAt ∈ W0 := in_t3 (i := 93) rfl rfl
theorem wi_6_noteAt : Cond.instanceMethod yX6_noteAt ∈ W0 := in_t3 (i := 94) rfl rfl
theorem wl_6_noteAt : Cond.selects RX6 yX6_noteAt yX6_noteAt ∈ W0 := in_t3 (i := 95) rfl rfl
theorem wm7_159 : Cond.methodLink RX7 159 yX6_blankSquares ∈ W0 := in_t3 (i := 78) rfl rfl
theorem wi_6_blankSquares : Cond.instanceMethod yX6_blankSquares ∈ W0 := in_t3 (i := 79) rfl rfl
theorem wl_6_blankSquares : Cond.selects RX6 yX6_blankSquares yX6_blankSquares ∈ W0 := in_t3 (i := 80) rfl rfl
theorem inX0 : ∀ w ∈ u_ws RX0 TX0 7, w ∈ W0 := by
  intro w hw
  obtain ⟨k, hk, rfl⟩ := List.mem_map.mp hw
  have hk := List.mem_range.mp hk
  match k, hk with
  | 0, _ => exact in_t1 (i := 228) rfl rfl
  | 1, _ => exact in_t1 (i := 230) rfl rfl
  | 2, _ => exact in_t1 (i := 232) rfl rfl
  | 3, _ => exact in_t1 (i := 234) rfl rfl
  | 4, _ => exact in_t1 (i := 236) rfl rfl
  | 5, _ => exact in_t1 (i := 238) rfl rfl
  | 6, _ => exact in_t2 (i := 0) rfl rfl
  | k + 7, hk => exact absurd hk (by omega)
theorem inX1 : ∀ w ∈ u_ws RX1 TX1 5, w ∈ W0 := by
  intro w hw
  obtain ⟨k, hk, rfl⟩ := List.mem_map.mp hw
  have hk := List.mem_range.mp hk
  match k, hk with
  | 0, _ => exact in_t1 (i := 75) rfl rfl
  | 1, _ => exact in_t1 (i := 77) rfl rfl
  | 2, _ => exact in_t1 (i := 79) rfl rfl
  | 3, _ => exact in_t1 (i := 81) rfl rfl
  | 4, _ => exact in_t1 (i := 83) rfl rfl
  | k + 5, hk => exact absurd hk (by omega)
theorem inX2 : ∀ w ∈ u_ws RX2 TX2 7, w ∈ W0 := by
  intro w hw
  obtain ⟨k, hk, rfl⟩ := List.mem_map.mp hw
  have hk := List.mem_range.mp hk
  match k, hk with
  | 0, _ => exact in_t1 (i := 132) rfl rfl
  | 1, _ => exact in_t1 (i := 134) rfl rfl
  | 2, _ => exact in_t1 (i := 136) rfl rfl
  | 3, _ => exact in_t1 (i := 138) rfl rfl
  | 4, _ => exact in_t1 (i := 140) rfl rfl
  | 5, _ => exact in_t1 (i := 142) rfl rfl
  | 6, _ => exact in_t1 (i := 144) rfl rfl
  | k + 7, hk => exact absurd hk (by omega)
theorem inX3 : ∀ w ∈ u_ws RX3 TX3 3, w ∈ W0 := by
  intro w hw
  obtain ⟨k, hk, rfl⟩ := List.mem_map.mp hw
  have hk := List.mem_range.mp hk
  match k, hk with
  | 0, _ => exact in_t1 (i := 99) rfl rfl
  | 1, _ => exact in_t1 (i := 101) rfl rfl
  | 2, _ => exact in_t1 (i := 103) rfl rfl
  | k + 3, hk => exact absurd hk (by omega)
theorem inX4 : ∀ w ∈ u_ws RX4 TX4 2, w ∈ W0 := by
  intro w hw
  obtain ⟨k, hk, rfl⟩ := List.mem_map.mp hw
  have hk := List.mem_range.mp hk
  match k, hk with
  | 0, _ => exact in_t1 (i := 41) rfl rfl
  | 1, _ => exact in_t1 (i := 43) rfl rfl
  | k + 2, hk => exact absurd hk (by omega)
theorem inX5 : ∀ w ∈ u_ws RX5 TX5 3, w ∈ W0 := by
  intro w hw
  obtain ⟨k, hk, rfl⟩ := List.mem_map.mp hw
  have hk := List.mem_range.mp hk
  match k, hk with
  | 0, _ => exact in_t1 (i := 162) rfl rfl
  | 1, _ => exact in_t1 (i := 164) rfl rfl
  | 2, _ => exact in_t1 (i := 166) rfl rfl
  | k + 3, hk => exact absurd hk (by omega)
theorem inX6 : ∀ w ∈ u_ws RX6 TX6 11, w ∈ W0 := by
  intro w hw
  obtain ⟨k, hk, rfl⟩ := List.mem_map.mp hw
  have hk := List.mem_range.mp hk
  match k, hk with
  | 0, _ => exact in_t1 (i := 184) rfl rfl
  | 1, _ => exact in_t1 (i := 186) rfl rfl
  | 2, _ => exact in_t1 (i := 188) rfl rfl
  | 3, _ => exact in_t1 (i := 190) rfl rfl
  | 4, _ => exact in_t1 (i := 192) rfl rfl
  | 5, _ => exact in_t1 (i := 194) rfl rfl
  | 6, _ => exact in_t1 (i := 196) rfl rfl
  | 7, _ => exact in_t1 (i := 198) rfl rfl
  | 8, _ => exact in_t1 (i := 200) rfl rfl
  | 9, _ => exact in_t1 (i := 202) rfl rfl
  | 10, _ => exact in_t1 (i := 204) rfl rfl
  | k + 11, hk => exact absurd hk (by omega)
theorem inX7 : ∀ w ∈ u_ws RX7 TX7 4, w ∈ W0 := by
  intro w hw
  obtain ⟨k, hk, rfl⟩ := List.mem_map.mp hw
  have hk := List.mem_range.mp hk
  match k, hk with
  | 0, _ => exact in_t2 (i := 7) rfl rfl
  | 1, _ => exact in_t2 (i := 9) rfl rfl
  | 2, _ => exact in_t2 (i := 11) rfl rfl
  | 3, _ => exact in_t2 (i := 13) rfl rfl
  | k + 4, hk => exact absurd hk (by omega)
def M_0_isAllowed : MT := (yX0_isAllowed, cX0_isAllowed, 1, (some .boolean), 1, 0, 0)
def M_0_search : MT := (yX0_search, cX0_search, 3, none, 5, 0, 0)
def M_0_searchFrom : MT := (yX0_searchFrom, cX0_searchFrom, 4, none, 4, 0, 0)
def M_0_considerGroup : MT := (yX0_considerGroup, cX0_considerGroup, 5, none, 3, 0, 0)
def M_0_blankSquares : MT := (yX0_blankSquares, cX0_blankSquares, 5, (some .int), 2, 0, 0)
def M_1_notes : MT := (yX1_notes, cX1_notes, 2, (some (.object "BilingualSetter$Notes")), 1, 0, 0)
def M_1_hasPair : MT := (yX1_hasPair, cX1_hasPair, 2, (some .boolean), 2, 0, 0)
def M_1_hasLine : MT := (yX1_hasLine, cX1_hasLine, 4, (some .boolean), 3, 0, 0)
def M_1_placePair : MT := (yX1_placePair, cX1_placePair, 5, none, 4, 0, 0)
def M_1_copyFrom : MT := (yX1_copyFrom, cX1_copyFrom, 2, none, 3, 0, 0)
def M_2_turn : MT := (yX2_turn, cX2_turn, 4, none, 1, 0, 0)
def M_2_copyFrom : MT := (yX2_copyFrom, cX2_copyFrom, 2, none, 1, 0, 0)
def M_2_put : MT := (yX2_put, cX2_put, 8, none, 2, 0, 0)
def M_2_noteRows : MT := (yX2_noteRows, cX2_noteRows, 5, (some .int), 1, 0, 0)
def M_2_mostCarried : MT := (yX2_mostCarried, cX2_mostCarried, 3, (some .int), 1, 0, 0)
def M_2_fits : MT := (yX2_fits, cX2_fits, 5, (some .boolean), 2, 0, 0)
def M_2_carriedFrom : MT := (yX2_carriedFrom, cX2_carriedFrom, 6, (some .int), 2, 0, 0)
def M_3_record : MT := (yX3_record, cX3_record, 3, none, 4, 0, 0)
def M_3_restore : MT := (yX3_restore, cX3_restore, 3, none, 4, 0, 0)
def M_4_before : MT := (yX4_before, cX4_before, 3, (some .int), 2, 0, 0)
def M_4_endBefore : MT := (yX4_endBefore, cX4_endBefore, 6, (some .int), 1, 0, 0)
def M_4_place : MT := (yX4_place, cX4_place, 6, (some .int), 3, 0, 0)
def M_4_drop : MT := (yX4_drop, cX4_drop, 3, none, 3, 0, 0)
def M_4_movePairs : MT := (yX4_movePairs, cX4_movePairs, 4, none, 3, 0, 0)
def M_4_copyFrom : MT := (yX4_copyFrom, cX4_copyFrom, 2, none, 2, 0, 0)
def M_5_takePair : MT := (yX5_takePair, cX5_takePair, 4, none, 3, 0, 0)
def M_5_takeStart : MT := (yX5_takeStart, cX5_takeStart, 4, none, 1, 0, 0)
def M_5_dropStart : MT := (yX5_dropStart, cX5_dropStart, 3, none, 1, 0, 0)
def M_5_isBegun : MT := (yX5_isBegun, cX5_isBegun, 1, (some .boolean), 1, 0, 0)
def M_6_arrange : MT := (yX6_arrange, cX6_arrange, 6, none, 6, 0, 0)
def M_6_isCarried : MT := (yX6_isCarried, cX6_isCarried, 1, (some .boolean), 1, 0, 0)
def M_6_putNext : MT := (yX6_putNext, cX6_putNext, 3, (some .boolean), 5, 0, 0)
def M_6_putRest : MT := (yX6_putRest, cX6_putRest, 2, none, 4, 0, 0)
def M_6_fits : MT := (yX6_fits, cX6_fits, 3, (some .boolean), 3, 0, 0)
def M_6_findStart : MT := (yX6_findStart, cX6_findStart, 8, (some .boolean), 4, 0, 0)
def M_6_addSegment : MT := (yX6_addSegment, cX6_addSegment, 5, none, 3, 0, 0)
def M_6_endSpread : MT := (yX6_endSpread, cX6_endSpread, 6, none, 3, 0, 0)
def M_6_has : MT := (yX6_has, cX6_has, 2, (some .boolean), 2, 0, 0)
def M_6_segmentsOf : MT := (yX6_segmentsOf, cX6_segmentsOf, 2, (some .int), 1, 0, 0)
def M_6_segmentWith : MT := (yX6_segmentWith, cX6_segmentWith, 5, (some .int), 3, 0, 0)
def M_6_contains : MT := (yX6_contains, cX6_contains, 6, (some .boolean), 2, 0, 0)
def M_6_spreadWith : MT := (yX6_spreadWith, cX6_spreadWith, 3, (some .int), 1, 0, 0)
def M_6_rowIn : MT := (yX6_rowIn, cX6_rowIn, 4, (some .int), 1, 0, 0)
def M_6_textAt : MT := (yX6_textAt, cX6_textAt, 7, (some .int), 2, 0, 0)
def M_6_noteAt : MT := (yX6_noteAt, cX6_noteAt, 9, (some .int), 2, 0, 0)
def M_6_noteLine : MT := (yX6_noteLine, cX6_noteLine, 9, (some .int), 1, 0, 0)
def M_6_blankSquares : MT := (yX6_blankSquares, cX6_blankSquares, 3, (some .int), 1, 0, 0)
def M_7_insert : MT := (yX7_insert, cX7_insert, 4, (some .int), 6, 0, 0)
def M_7_setFlag : MT := (yX7_setFlag, cX7_setFlag, 4, (some .int), 7, 0, 0)
def M_7_addNote : MT := (yX7_addNote, cX7_addNote, 5, (some .int), 6, 0, 0)
def M_7_removeNote : MT := (yX7_removeNote, cX7_removeNote, 4, (some .int), 6, 0, 0)
def M_7_set : MT := (yX7_set, cX7_set, 4, (some .int), 6, 0, 0)
def M_7_undo : MT := (yX7_undo, cX7_undo, 1, (some .int), 5, 0, 0)
def M_7_pairCount : MT := (yX7_pairCount, cX7_pairCount, 1, (some .int), 1, 0, 0)
def M_7_pairInfo : MT := (yX7_pairInfo, cX7_pairInfo, 3, (some .int), 3, 0, 0)
def M_7_noteCount : MT := (yX7_noteCount, cX7_noteCount, 2, (some .int), 3, 0, 0)
def M_7_noteInfo : MT := (yX7_noteInfo, cX7_noteInfo, 5, (some .int), 3, 0, 0)
def M_7_spreadCount : MT := (yX7_spreadCount, cX7_spreadCount, 1, (some .int), 7, 0, 0)
def M_7_segmentCount : MT := (yX7_segmentCount, cX7_segmentCount, 2, (some .int), 7, 0, 0)
def M_7_pageInfo : MT := (yX7_pageInfo, cX7_pageInfo, 4, (some .int), 7, 0, 0)
def M_7_isOverfull : MT := (yX7_isOverfull, cX7_isOverfull, 2, (some .int), 7, 0, 0)
def M_7_spreadOf : MT := (yX7_spreadOf, cX7_spreadOf, 4, (some .int), 7, 0, 0)
def M_7_rowOf : MT := (yX7_rowOf, cX7_rowOf, 4, (some .int), 7, 0, 0)
def M_7_shown : MT := (yX7_shown, cX7_shown, 5, (some .int), 7, 0, 0)
def M_7_cost : MT := (yX7_cost, cX7_cost, 1, (some .int), 7, 0, 0)
def M_7_bestCost : MT := (yX7_bestCost, cX7_bestCost, 1, (some .int), 6, 0, 0)
def M_7_bestBreak : MT := (yX7_bestBreak, cX7_bestBreak, 2, (some .int), 6, 0, 0)
def M_7_leastHeight : MT := (yX7_leastHeight, cX7_leastHeight, 3, (some .int), 7, 0, 0)
def M_7_changePair : MT := (yX7_changePair, cX7_changePair, 5, (some .int), 6, 0, 0)
def M_7_beginChange : MT := (yX7_beginChange, cX7_beginChange, 1, none, 5, 0, 0)
def M_7_forgetResults : MT := (yX7_forgetResults, cX7_forgetResults, 1, none, 1, 0, 0)
def M_7_isIn : MT := (yX7_isIn, cX7_isIn, 3, (some .boolean), 1, 0, 0)
def M_7_isSide : MT := (yX7_isSide, cX7_isSide, 1, (some .boolean), 2, 0, 0)
def M_7_openPlace : MT := (yX7_openPlace, cX7_openPlace, 3, none, 2, 0, 0)
def M_7_closePlace : MT := (yX7_closePlace, cX7_closePlace, 3, none, 2, 0, 0)
def M_7_copyTable : MT := (yX7_copyTable, cX7_copyTable, 3, none, 1, 0, 0)
theorem mok_0_isAllowed : MOK M_0_isAllowed := ⟨by decide, wc_0_isAllowed, wn_0, ⟨by decide, by decide⟩, by decide⟩
theorem pn_0_isAllowed : (parseMethodDescriptor (m_y M_0_isAllowed).desc).map (fun d => d.parameters.length) = some 0 := by decide +kernel
theorem mok_0_search : MOK M_0_search := ⟨by decide, wc_0_search, wn_0, ⟨by decide, by decide⟩, by decide⟩
theorem pn_0_search : (parseMethodDescriptor (m_y M_0_search).desc).map (fun d => d.parameters.length) = some 1 := by decide +kernel
theorem mok_0_searchFrom : MOK M_0_searchFrom := ⟨by decide, wc_0_searchFrom, wn_0, ⟨by decide, by decide⟩, by decide⟩
theorem pn_0_searchFrom : (parseMethodDescriptor (m_y M_0_searchFrom).desc).map (fun d => d.parameters.length) = some 2 := by decide +kernel
theorem mok_0_considerGroup : MOK M_0_considerGroup := ⟨by decide, wc_0_considerGroup, wn_0, ⟨by decide, by decide⟩, by decide⟩
theorem pn_0_considerGroup : (parseMethodDescriptor (m_y M_0_considerGroup).desc).map (fun d => d.parameters.length) = some 3 := by decide +kernel
theorem mok_0_blankSquares : MOK M_0_blankSquares := ⟨by decide, wc_0_blankSquares, wn_0, ⟨by decide, by decide⟩, by decide⟩
theorem pn_0_blankSquares : (parseMethodDescriptor (m_y M_0_blankSquares).desc).map (fun d => d.parameters.length) = some 1 := by decide +kernel
theorem mok_1_notes : MOK M_1_notes := ⟨by decide, wc_1_notes, wn_1, ⟨by decide, by decide⟩, by decide⟩
theorem pn_1_notes : (parseMethodDescriptor (m_y M_1_notes).desc).map (fun d => d.parameters.length) = some 1 := by decide +kernel
theorem mok_1_hasPair : MOK M_1_hasPair := ⟨by decide, wc_1_hasPair, wn_1, ⟨by decide, by decide⟩, by decide⟩
theorem pn_1_hasPair : (parseMethodDescriptor (m_y M_1_hasPair).desc).map (fun d => d.parameters.length) = some 1 := by decide +kernel
theorem mok_1_hasLine : MOK M_1_hasLine := ⟨by decide, wc_1_hasLine, wn_1, ⟨by decide, by decide⟩, by decide⟩
theorem pn_1_hasLine : (parseMethodDescriptor (m_y M_1_hasLine).desc).map (fun d => d.parameters.length) = some 3 := by decide +kernel
theorem mok_1_placePair : MOK M_1_placePair := ⟨by decide, wc_1_placePair, wn_1, ⟨by decide, by decide⟩, by decide⟩
theorem pn_1_placePair : (parseMethodDescriptor (m_y M_1_placePair).desc).map (fun d => d.parameters.length) = some 3 := by decide +kernel
theorem mok_1_copyFrom : MOK M_1_copyFrom := ⟨by decide, wc_1_copyFrom, wn_1, ⟨by decide, by decide⟩, by decide⟩
theorem pn_1_copyFrom : (parseMethodDescriptor (m_y M_1_copyFrom).desc).map (fun d => d.parameters.length) = some 1 := by decide +kernel
theorem mok_2_turn : MOK M_2_turn := ⟨by decide, wc_2_turn, wn_2, ⟨by decide, by decide⟩, by decide⟩
theorem pn_2_turn : (parseMethodDescriptor (m_y M_2_turn).desc).map (fun d => d.parameters.length) = some 3 := by decide +kernel
theorem mok_2_copyFrom : MOK M_2_copyFrom := ⟨by decide, wc_2_copyFrom, wn_2, ⟨by decide, by decide⟩, by decide⟩
theorem pn_2_copyFrom : (parseMethodDescriptor (m_y M_2_copyFrom).desc).map (fun d => d.parameters.length) = some 1 := by decide +kernel
theorem mok_2_put : MOK M_2_put := ⟨by decide, wc_2_put, wn_2, ⟨by decide, by decide⟩, by decide⟩
theorem pn_2_put : (parseMethodDescriptor (m_y M_2_put).desc).map (fun d => d.parameters.length) = some 2 := by decide +kernel
theorem mok_2_noteRows : MOK M_2_noteRows := ⟨by decide, wc_2_noteRows, wn_2, ⟨by decide, by decide⟩, by decide⟩
theorem pn_2_noteRows : (parseMethodDescriptor (m_y M_2_noteRows).desc).map (fun d => d.parameters.length) = some 3 := by decide +kernel
theorem mok_2_mostCarried : MOK M_2_mostCarried := ⟨by decide, wc_2_mostCarried, wn_2, ⟨by decide, by decide⟩, by decide⟩
theorem pn_2_mostCarried : (parseMethodDescriptor (m_y M_2_mostCarried).desc).map (fun d => d.parameters.length) = some 2 := by decide +kernel
theorem mok_2_fits : MOK M_2_fits := ⟨by decide, wc_2_fits, wn_2, ⟨by decide, by decide⟩, by decide⟩
theorem pn_2_fits : (parseMethodDescriptor (m_y M_2_fits).desc).map (fun d => d.parameters.length) = some 3 := by decide +kernel
theorem mok_2_carriedFrom : MOK M_2_carriedFrom := ⟨by decide, wc_2_carriedFrom, wn_2, ⟨by decide, by decide⟩, by decide⟩
theorem pn_2_carriedFrom : (parseMethodDescriptor (m_y M_2_carriedFrom).desc).map (fun d => d.parameters.length) = some 3 := by decide +kernel
theorem mok_3_record : MOK M_3_record := ⟨by decide, wc_3_record, wn_3, ⟨by decide, by decide⟩, by decide⟩
theorem pn_3_record : (parseMethodDescriptor (m_y M_3_record).desc).map (fun d => d.parameters.length) = some 1 := by decide +kernel
theorem mok_3_restore : MOK M_3_restore := ⟨by decide, wc_3_restore, wn_3, ⟨by decide, by decide⟩, by decide⟩
theorem pn_3_restore : (parseMethodDescriptor (m_y M_3_restore).desc).map (fun d => d.parameters.length) = some 1 := by decide +kernel
theorem mok_4_before : MOK M_4_before := ⟨by decide, wc_4_before, wn_4, ⟨by decide, by decide⟩, by decide⟩
theorem pn_4_before : (parseMethodDescriptor (m_y M_4_before).desc).map (fun d => d.parameters.length) = some 2 := by decide +kernel
theorem mok_4_endBefore : MOK M_4_endBefore := ⟨by decide, wc_4_endBefore, wn_4, ⟨by decide, by decide⟩, by decide⟩
theorem pn_4_endBefore : (parseMethodDescriptor (m_y M_4_endBefore).desc).map (fun d => d.parameters.length) = some 3 := by decide +kernel
theorem mok_4_place : MOK M_4_place := ⟨by decide, wc_4_place, wn_4, ⟨by decide, by decide⟩, by decide⟩
theorem pn_4_place : (parseMethodDescriptor (m_y M_4_place).desc).map (fun d => d.parameters.length) = some 3 := by decide +kernel
theorem mok_4_drop : MOK M_4_drop := ⟨by decide, wc_4_drop, wn_4, ⟨by decide, by decide⟩, by decide⟩
theorem pn_4_drop : (parseMethodDescriptor (m_y M_4_drop).desc).map (fun d => d.parameters.length) = some 1 := by decide +kernel
theorem mok_4_movePairs : MOK M_4_movePairs := ⟨by decide, wc_4_movePairs, wn_4, ⟨by decide, by decide⟩, by decide⟩
theorem pn_4_movePairs : (parseMethodDescriptor (m_y M_4_movePairs).desc).map (fun d => d.parameters.length) = some 2 := by decide +kernel
theorem mok_4_copyFrom : MOK M_4_copyFrom := ⟨by decide, wc_4_copyFrom, wn_4, ⟨by decide, by decide⟩, by decide⟩
theorem pn_4_copyFrom : (parseMethodDescriptor (m_y M_4_copyFrom).desc).map (fun d => d.parameters.length) = some 1 := by decide +kernel
theorem mok_5_takePair : MOK M_5_takePair := ⟨by decide, wc_5_takePair, wn_5, ⟨by decide, by decide⟩, by decide⟩
theorem pn_5_takePair : (parseMethodDescriptor (m_y M_5_takePair).desc).map (fun d => d.parameters.length) = some 2 := by decide +kernel
theorem mok_5_takeStart : MOK M_5_takeStart := ⟨by decide, wc_5_takeStart, wn_5, ⟨by decide, by decide⟩, by decide⟩
theorem pn_5_takeStart : (parseMethodDescriptor (m_y M_5_takeStart).desc).map (fun d => d.parameters.length) = some 3 := by decide +kernel
theorem mok_5_dropStart : MOK M_5_dropStart := ⟨by decide, wc_5_dropStart, wn_5, ⟨by decide, by decide⟩, by decide⟩
theorem pn_5_dropStart : (parseMethodDescriptor (m_y M_5_dropStart).desc).map (fun d => d.parameters.length) = some 1 := by decide +kernel
theorem mok_5_isBegun : MOK M_5_isBegun := ⟨by decide, wc_5_isBegun, wn_5, ⟨by decide, by decide⟩, by decide⟩
theorem pn_5_isBegun : (parseMethodDescriptor (m_y M_5_isBegun).desc).map (fun d => d.parameters.length) = some 0 := by decide +kernel
theorem mok_6_arrange : MOK M_6_arrange := ⟨by decide, wc_6_arrange, wn_6, ⟨by decide, by decide⟩, by decide⟩
theorem pn_6_arrange : (parseMethodDescriptor (m_y M_6_arrange).desc).map (fun d => d.parameters.length) = some 2 := by decide +kernel
theorem mok_6_isCarried : MOK M_6_isCarried := ⟨by decide, wc_6_isCarried, wn_6, ⟨by decide, by decide⟩, by decide⟩
theorem pn_6_isCarried : (parseMethodDescriptor (m_y M_6_isCarried).desc).map (fun d => d.parameters.length) = some 0 := by decide +kernel
theorem mok_6_putNext : MOK M_6_putNext := ⟨by decide, wc_6_putNext, wn_6, ⟨by decide, by decide⟩, by decide⟩
theorem pn_6_putNext : (parseMethodDescriptor (m_y M_6_putNext).desc).map (fun d => d.parameters.length) = some 1 := by decide +kernel
theorem mok_6_putRest : MOK M_6_putRest := ⟨by decide, wc_6_putRest, wn_6, ⟨by decide, by decide⟩, by decide⟩
theorem pn_6_putRest : (parseMethodDescriptor (m_y M_6_putRest).desc).map (fun d => d.parameters.length) = some 1 := by decide +kernel
theorem mok_6_fits : MOK M_6_fits := ⟨by decide, wc_6_fits, wn_6, ⟨by decide, by decide⟩, by decide⟩
theorem pn_6_fits : (parseMethodDescriptor (m_y M_6_fits).desc).map (fun d => d.parameters.length) = some 2 := by decide +kernel
theorem mok_6_findStart : MOK M_6_findStart := ⟨by decide, wc_6_findStart, wn_6, ⟨by decide, by decide⟩, by decide⟩
theorem pn_6_findStart : (parseMethodDescriptor (m_y M_6_findStart).desc).map (fun d => d.parameters.length) = some 1 := by decide +kernel
theorem mok_6_addSegment : MOK M_6_addSegment := ⟨by decide, wc_6_addSegment, wn_6, ⟨by decide, by decide⟩, by decide⟩
theorem pn_6_addSegment : (parseMethodDescriptor (m_y M_6_addSegment).desc).map (fun d => d.parameters.length) = some 3 := by decide +kernel
theorem mok_6_endSpread : MOK M_6_endSpread := ⟨by decide, wc_6_endSpread, wn_6, ⟨by decide, by decide⟩, by decide⟩
theorem pn_6_endSpread : (parseMethodDescriptor (m_y M_6_endSpread).desc).map (fun d => d.parameters.length) = some 1 := by decide +kernel
theorem mok_6_has : MOK M_6_has := ⟨by decide, wc_6_has, wn_6, ⟨by decide, by decide⟩, by decide⟩
theorem pn_6_has : (parseMethodDescriptor (m_y M_6_has).desc).map (fun d => d.parameters.length) = some 1 := by decide +kernel
theorem mok_6_segmentsOf : MOK M_6_segmentsOf := ⟨by decide, wc_6_segmentsOf, wn_6, ⟨by decide, by decide⟩, by decide⟩
theorem pn_6_segmentsOf : (parseMethodDescriptor (m_y M_6_segmentsOf).desc).map (fun d => d.parameters.length) = some 1 := by decide +kernel
theorem mok_6_segmentWith : MOK M_6_segmentWith := ⟨by decide, wc_6_segmentWith, wn_6, ⟨by decide, by decide⟩, by decide⟩
theorem pn_6_segmentWith : (parseMethodDescriptor (m_y M_6_segmentWith).desc).map (fun d => d.parameters.length) = some 3 := by decide +kernel
theorem mok_6_contains : MOK M_6_contains := ⟨by decide, wc_6_contains, wn_6, ⟨by decide, by decide⟩, by decide⟩
theorem pn_6_contains : (parseMethodDescriptor (m_y M_6_contains).desc).map (fun d => d.parameters.length) = some 4 := by decide +kernel
theorem mok_6_spreadWith : MOK M_6_spreadWith := ⟨by decide, wc_6_spreadWith, wn_6, ⟨by decide, by decide⟩, by decide⟩
theorem pn_6_spreadWith : (parseMethodDescriptor (m_y M_6_spreadWith).desc).map (fun d => d.parameters.length) = some 1 := by decide +kernel
theorem mok_6_rowIn : MOK M_6_rowIn := ⟨by decide, wc_6_rowIn, wn_6, ⟨by decide, by decide⟩, by decide⟩
theorem pn_6_rowIn : (parseMethodDescriptor (m_y M_6_rowIn).desc).map (fun d => d.parameters.length) = some 3 := by decide +kernel
theorem mok_6_textAt : MOK M_6_textAt := ⟨by decide, wc_6_textAt, wn_6, ⟨by decide, by decide⟩, by decide⟩
theorem pn_6_textAt : (parseMethodDescriptor (m_y M_6_textAt).desc).map (fun d => d.parameters.length) = some 3 := by decide +kernel
theorem mok_6_noteAt : MOK M_6_noteAt := ⟨by decide, wc_6_noteAt, wn_6, ⟨by decide, by decide⟩, by decide⟩
theorem pn_6_noteAt : (parseMethodDescriptor (m_y M_6_noteAt).desc).map (fun d => d.parameters.length) = some 4 := by decide +kernel
theorem mok_6_noteLine : MOK M_6_noteLine := ⟨by decide, wc_6_noteLine, wn_6, ⟨by decide, by decide⟩, by decide⟩
theorem pn_6_noteLine : (parseMethodDescriptor (m_y M_6_noteLine).desc).map (fun d => d.parameters.length) = some 3 := by decide +kernel
theorem mok_6_blankSquares : MOK M_6_blankSquares := ⟨by decide, wc_6_blankSquares, wn_6, ⟨by decide, by decide⟩, by decide⟩
theorem pn_6_blankSquares : (parseMethodDescriptor (m_y M_6_blankSquares).desc).map (fun d => d.parameters.length) = some 0 := by decide +kernel
theorem mok_7_insert : MOK M_7_insert := ⟨by decide, wc_7_insert, wn_7, ⟨by decide, by decide⟩, by decide⟩
theorem pn_7_insert : (parseMethodDescriptor (m_y M_7_insert).desc).map (fun d => d.parameters.length) = some 3 := by decide +kernel
theorem mok_7_setFlag : MOK M_7_setFlag := ⟨by decide, wc_7_setFlag, wn_7, ⟨by decide, by decide⟩, by decide⟩
theorem pn_7_setFlag : (parseMethodDescriptor (m_y M_7_setFlag).desc).map (fun d => d.parameters.length) = some 3 := by decide +kernel
theorem mok_7_addNote : MOK M_7_addNote := ⟨by decide, wc_7_addNote, wn_7, ⟨by decide, by decide⟩, by decide⟩
theorem pn_7_addNote : (parseMethodDescriptor (m_y M_7_addNote).desc).map (fun d => d.parameters.length) = some 4 := by decide +kernel
theorem mok_7_removeNote : MOK M_7_removeNote := ⟨by decide, wc_7_removeNote, wn_7, ⟨by decide, by decide⟩, by decide⟩
theorem pn_7_removeNote : (parseMethodDescriptor (m_y M_7_removeNote).desc).map (fun d => d.parameters.length) = some 2 := by decide +kernel
theorem mok_7_set : MOK M_7_set := ⟨by decide, wc_7_set, wn_7, ⟨by decide, by decide⟩, by decide⟩
theorem pn_7_set : (parseMethodDescriptor (m_y M_7_set).desc).map (fun d => d.parameters.length) = some 2 := by decide +kernel
theorem mok_7_undo : MOK M_7_undo := ⟨by decide, wc_7_undo, wn_7, ⟨by decide, by decide⟩, by decide⟩
theorem pn_7_undo : (parseMethodDescriptor (m_y M_7_undo).desc).map (fun d => d.parameters.length) = some 0 := by decide +kernel
theorem mok_7_pairCount : MOK M_7_pairCount := ⟨by decide, wc_7_pairCount, wn_7, ⟨by decide, by decide⟩, by decide⟩
theorem pn_7_pairCount : (parseMethodDescriptor (m_y M_7_pairCount).desc).map (fun d => d.parameters.length) = some 0 := by decide +kernel
theorem mok_7_pairInfo : MOK M_7_pairInfo := ⟨by decide, wc_7_pairInfo, wn_7, ⟨by decide, by decide⟩, by decide⟩
theorem pn_7_pairInfo : (parseMethodDescriptor (m_y M_7_pairInfo).desc).map (fun d => d.parameters.length) = some 2 := by decide +kernel
theorem mok_7_noteCount : MOK M_7_noteCount := ⟨by decide, wc_7_noteCount, wn_7, ⟨by decide, by decide⟩, by decide⟩
theorem pn_7_noteCount : (parseMethodDescriptor (m_y M_7_noteCount).desc).map (fun d => d.parameters.length) = some 1 := by decide +kernel
theorem mok_7_noteInfo : MOK M_7_noteInfo := ⟨by decide, wc_7_noteInfo, wn_7, ⟨by decide, by decide⟩, by decide⟩
theorem pn_7_noteInfo : (parseMethodDescriptor (m_y M_7_noteInfo).desc).map (fun d => d.parameters.length) = some 3 := by decide +kernel
theorem mok_7_spreadCount : MOK M_7_spreadCount := ⟨by decide, wc_7_spreadCount, wn_7, ⟨by decide, by decide⟩, by decide⟩
theorem pn_7_spreadCount : (parseMethodDescriptor (m_y M_7_spreadCount).desc).map (fun d => d.parameters.length) = some 0 := by decide +kernel
theorem mok_7_segmentCount : MOK M_7_segmentCount := ⟨by decide, wc_7_segmentCount, wn_7, ⟨by decide, by decide⟩, by decide⟩
theorem pn_7_segmentCount : (parseMethodDescriptor (m_y M_7_segmentCount).desc).map (fun d => d.parameters.length) = some 1 := by decide +kernel
theorem mok_7_pageInfo : MOK M_7_pageInfo := ⟨by decide, wc_7_pageInfo, wn_7, ⟨by decide, by decide⟩, by decide⟩
theorem pn_7_pageInfo : (parseMethodDescriptor (m_y M_7_pageInfo).desc).map (fun d => d.parameters.length) = some 3 := by decide +kernel
theorem mok_7_isOverfull : MOK M_7_isOverfull := ⟨by decide, wc_7_isOverfull, wn_7, ⟨by decide, by decide⟩, by decide⟩
theorem pn_7_isOverfull : (parseMethodDescriptor (m_y M_7_isOverfull).desc).map (fun d => d.parameters.length) = some 1 := by decide +kernel
theorem mok_7_spreadOf : MOK M_7_spreadOf := ⟨by decide, wc_7_spreadOf, wn_7, ⟨by decide, by decide⟩, by decide⟩
theorem pn_7_spreadOf : (parseMethodDescriptor (m_y M_7_spreadOf).desc).map (fun d => d.parameters.length) = some 3 := by decide +kernel
theorem mok_7_rowOf : MOK M_7_rowOf := ⟨by decide, wc_7_rowOf, wn_7, ⟨by decide, by decide⟩, by decide⟩
theorem pn_7_rowOf : (parseMethodDescriptor (m_y M_7_rowOf).desc).map (fun d => d.parameters.length) = some 3 := by decide +kernel
theorem mok_7_shown : MOK M_7_shown := ⟨by decide, wc_7_shown, wn_7, ⟨by decide, by decide⟩, by decide⟩
theorem pn_7_shown : (parseMethodDescriptor (m_y M_7_shown).desc).map (fun d => d.parameters.length) = some 3 := by decide +kernel
theorem mok_7_cost : MOK M_7_cost := ⟨by decide, wc_7_cost, wn_7, ⟨by decide, by decide⟩, by decide⟩
theorem pn_7_cost : (parseMethodDescriptor (m_y M_7_cost).desc).map (fun d => d.parameters.length) = some 0 := by decide +kernel
theorem mok_7_bestCost : MOK M_7_bestCost := ⟨by decide, wc_7_bestCost, wn_7, ⟨by decide, by decide⟩, by decide⟩
theorem pn_7_bestCost : (parseMethodDescriptor (m_y M_7_bestCost).desc).map (fun d => d.parameters.length) = some 0 := by decide +kernel
theorem mok_7_bestBreak : MOK M_7_bestBreak := ⟨by decide, wc_7_bestBreak, wn_7, ⟨by decide, by decide⟩, by decide⟩
theorem pn_7_bestBreak : (parseMethodDescriptor (m_y M_7_bestBreak).desc).map (fun d => d.parameters.length) = some 1 := by decide +kernel
theorem mok_7_leastHeight : MOK M_7_leastHeight := ⟨by decide, wc_7_leastHeight, wn_7, ⟨by decide, by decide⟩, by decide⟩
theorem pn_7_leastHeight : (parseMethodDescriptor (m_y M_7_leastHeight).desc).map (fun d => d.parameters.length) = some 1 := by decide +kernel
theorem mok_7_changePair : MOK M_7_changePair := ⟨by decide, wc_7_changePair, wn_7, ⟨by decide, by decide⟩, by decide⟩
theorem pn_7_changePair : (parseMethodDescriptor (m_y M_7_changePair).desc).map (fun d => d.parameters.length) = some 3 := by decide +kernel
theorem mok_7_beginChange : MOK M_7_beginChange := ⟨by decide, wc_7_beginChange, wn_7, ⟨by decide, by decide⟩, by decide⟩
theorem pn_7_beginChange : (parseMethodDescriptor (m_y M_7_beginChange).desc).map (fun d => d.parameters.length) = some 0 := by decide +kernel
theorem mok_7_forgetResults : MOK M_7_forgetResults := ⟨by decide, wc_7_forgetResults, wn_7, ⟨by decide, by decide⟩, by decide⟩
theorem pn_7_forgetResults : (parseMethodDescriptor (m_y M_7_forgetResults).desc).map (fun d => d.parameters.length) = some 0 := by decide +kernel
theorem mok_7_isIn : MOK M_7_isIn := ⟨by decide, wc_7_isIn, wn_7, ⟨by decide, by decide⟩, by decide⟩
theorem pn_7_isIn : (parseMethodDescriptor (m_y M_7_isIn).desc).map (fun d => d.parameters.length) = some 3 := by decide +kernel
theorem mok_7_isSide : MOK M_7_isSide := ⟨by decide, wc_7_isSide, wn_7, ⟨by decide, by decide⟩, by decide⟩
theorem pn_7_isSide : (parseMethodDescriptor (m_y M_7_isSide).desc).map (fun d => d.parameters.length) = some 1 := by decide +kernel
theorem mok_7_openPlace : MOK M_7_openPlace := ⟨by decide, wc_7_openPlace, wn_7, ⟨by decide, by decide⟩, by decide⟩
theorem pn_7_openPlace : (parseMethodDescriptor (m_y M_7_openPlace).desc).map (fun d => d.parameters.length) = some 3 := by decide +kernel
theorem mok_7_closePlace : MOK M_7_closePlace := ⟨by decide, wc_7_closePlace, wn_7, ⟨by decide, by decide⟩, by decide⟩
theorem pn_7_closePlace : (parseMethodDescriptor (m_y M_7_closePlace).desc).map (fun d => d.parameters.length) = some 3 := by decide +kernel
theorem mok_7_copyTable : MOK M_7_copyTable := ⟨by decide, wc_7_copyTable, wn_7, ⟨by decide, by decide⟩, by decide⟩
theorem pn_7_copyTable : (parseMethodDescriptor (m_y M_7_copyTable).desc).map (fun d => d.parameters.length) = some 2 := by decide +kernel
