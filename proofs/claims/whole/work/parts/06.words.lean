/-! ===== words by their places in the tables ===== -/
theorem in_t1 {i : Nat} {w : Cond} (h : tables_1_1[i]? = some w) (hg : goodWord w = true) : w ∈ W0 := W0_in (List.mem_append_right _ (List.mem_append_left _ (List.mem_of_getElem? h))) hg
theorem in_t2 {i : Nat} {w : Cond} (h : tables_1_2[i]? = some w) (hg : goodWord w = true) : w ∈ W0 := W0_in (List.mem_append_right _ (List.mem_append_right _ (List.mem_append_left _ (List.mem_of_getElem? h)))) hg
theorem in_t3 {i : Nat} {w : Cond} (h : tables_1_3[i]? = some w) (hg : goodWord w = true) : w ∈ W0 := W0_in (List.mem_append_right _ (List.mem_append_right _ (List.mem_append_right _ (List.mem_append_left _ (List.mem_of_getElem? h))))) hg
theorem in_t4 {i : Nat} {w : Cond} (h : tables_1_4[i]? = some w) (hg : goodWord w = true) : w ∈ W0 := W0_in (List.mem_append_right _ (List.mem_append_right _ (List.mem_append_right _ (List.mem_append_right _ (List.mem_of_getElem? h))))) hg
theorem in_s {i : Nat} {w : Cond} (h : (k2_sels lw_privs)[i]? = some w) (hg : goodWord w = true) : w ∈ W0 := W0_in (List.mem_append_left _ (List.mem_of_getElem? h)) hg
theorem inr_d {v : Int} (h : decide (-2147483648 ≤ v ∧ v ≤ 2147483647) = true) : InR v := of_decide_eq_true (p := -2147483648 ≤ v ∧ v ≤ 2147483647) h
theorem tok_nil {X : XT} {M : MT} : TabOK X M [] := fun _ h => by cases h
theorem tok_cons {X : XT} {M : MT} {k : Nat} {b : Bool} {a : Act} {t : Tab} (h : Snd X M k a) (ht : TabOK X M t) : TabOK X M ((k, b, a) :: t) := fun q hq => (List.mem_cons.mp hq).elim (fun e => e ▸ h) (ht q)
theorem wc_0_isAllowed : Cond.code yX0_isAllowed cX0_isAllowed 1 (some .boolean) ∈ W0 := in_t3 (i := 140) rfl rfl
theorem wn_0 : Cond.initialized RX0 ∈ W0 := in_t1 (i := 8) rfl rfl
theorem wc_0_search : Cond.code yX0_search cX0_search 3 none ∈ W0 := in_t3 (i := 118) rfl rfl
theorem wc_0_searchFrom : Cond.code yX0_searchFrom cX0_searchFrom 4 none ∈ W0 := in_t3 (i := 122) rfl rfl
theorem wc_0_considerGroup : Cond.code yX0_considerGroup cX0_considerGroup 5 none ∈ W0 := in_t3 (i := 131) rfl rfl
theorem wc_0_blankSquares : Cond.code yX0_blankSquares cX0_blankSquares 5 (some .int) ∈ W0 := in_t3 (i := 135) rfl rfl
theorem wc_1_notes : Cond.code yX1_notes cX1_notes 2 (some (.object "BilingualSetter$Notes")) ∈ W0 := in_t2 (i := 113) rfl rfl
theorem wn_1 : Cond.initialized RX1 ∈ W0 := in_t1 (i := 2) rfl rfl
theorem wc_1_hasPair : Cond.code yX1_hasPair cX1_hasPair 2 (some .boolean) ∈ W0 := in_t2 (i := 84) rfl rfl
theorem wc_1_hasLine : Cond.code yX1_hasLine cX1_hasLine 4 (some .boolean) ∈ W0 := in_t2 (i := 133) rfl rfl
theorem wc_1_placePair : Cond.code yX1_placePair cX1_placePair 5 none ∈ W0 := in_t2 (i := 61) rfl rfl
theorem wc_1_dropPair : Cond.code yX1_dropPair cX1_dropPair 3 none ∈ W0 := in_t2 (i := 89) rfl rfl
theorem wc_1_copyFrom : Cond.code yX1_copyFrom cX1_copyFrom 2 none ∈ W0 := in_t2 (i := 37) rfl rfl
theorem wc_2_turn : Cond.code yX2_turn cX2_turn 4 none ∈ W0 := in_t2 (i := 194) rfl rfl
theorem wn_2 : Cond.initialized RX2 ∈ W0 := in_t1 (i := 6) rfl rfl
theorem wc_2_copyFrom : Cond.code yX2_copyFrom cX2_copyFrom 2 none ∈ W0 := in_t2 (i := 215) rfl rfl
theorem wc_2_put : Cond.code yX2_put cX2_put 8 none ∈ W0 := in_t2 (i := 220) rfl rfl
theorem wc_2_noteRows : Cond.code yX2_noteRows cX2_noteRows 5 (some .int) ∈ W0 := in_t2 (i := 238) rfl rfl
theorem wc_2_mostCarried : Cond.code yX2_mostCarried cX2_mostCarried 3 (some .int) ∈ W0 := in_t2 (i := 233) rfl rfl
theorem wc_2_fits : Cond.code yX2_fits cX2_fits 5 (some .boolean) ∈ W0 := in_t2 (i := 229) rfl rfl
theorem wc_2_carriedFrom : Cond.code yX2_carriedFrom cX2_carriedFrom 6 (some .int) ∈ W0 := in_t3 (i := 34) rfl rfl
theorem wc_3_record : Cond.code yX3_record cX3_record 3 none ∈ W0 := in_t2 (i := 33) rfl rfl
theorem wn_3 : Cond.initialized RX3 ∈ W0 := in_t1 (i := 4) rfl rfl
theorem wc_3_restore : Cond.code yX3_restore cX3_restore 3 none ∈ W0 := in_t2 (i := 161) rfl rfl
theorem wc_4_before : Cond.code yX4_before cX4_before 3 (some .int) ∈ W0 := in_t2 (i := 72) rfl rfl
theorem wn_4 : Cond.initialized RX4 ∈ W0 := in_t1 (i := 3) rfl rfl
theorem wc_4_endBefore : Cond.code yX4_endBefore cX4_endBefore 6 (some .int) ∈ W0 := in_t2 (i := 76) rfl rfl
theorem wc_4_standFrom : Cond.code yX4_standFrom cX4_standFrom 3 (some .boolean) ∈ W0 := in_t2 (i := 117) rfl rfl
theorem wc_4_place : Cond.code yX4_place cX4_place 6 (some .int) ∈ W0 := in_t2 (i := 139) rfl rfl
theorem wc_4_drop : Cond.code yX4_drop cX4_drop 3 none ∈ W0 := in_t2 (i := 100) rfl rfl
theorem wc_4_dropPair : Cond.code yX4_dropPair cX4_dropPair 4 none ∈ W0 := in_t2 (i := 96) rfl rfl
theorem wc_4_movePairs : Cond.code yX4_movePairs cX4_movePairs 4 none ∈ W0 := in_t2 (i := 68) rfl rfl
theorem wc_4_copyFrom : Cond.code yX4_copyFrom cX4_copyFrom 2 none ∈ W0 := in_t2 (i := 50) rfl rfl
theorem wc_5_takePair : Cond.code yX5_takePair cX5_takePair 4 none ∈ W0 := in_t2 (i := 189) rfl rfl
theorem wn_5 : Cond.initialized RX5 ∈ W0 := in_t1 (i := 7) rfl rfl
theorem wc_5_takeStart : Cond.code yX5_takeStart cX5_takeStart 4 none ∈ W0 := in_t3 (i := 21) rfl rfl
theorem wc_5_dropStart : Cond.code yX5_dropStart cX5_dropStart 3 none ∈ W0 := in_t3 (i := 26) rfl rfl
theorem wc_5_isBegun : Cond.code yX5_isBegun cX5_isBegun 1 (some .boolean) ∈ W0 := in_t2 (i := 207) rfl rfl
theorem wc_6_arrange : Cond.code yX6_arrange cX6_arrange 6 none ∈ W0 := in_t2 (i := 185) rfl rfl
theorem wn_6 : Cond.initialized RX6 ∈ W0 := in_t1 (i := 5) rfl rfl
theorem wc_6_isCarried : Cond.code yX6_isCarried cX6_isCarried 1 (some .boolean) ∈ W0 := in_t2 (i := 199) rfl rfl
theorem wc_6_putNext : Cond.code yX6_putNext cX6_putNext 3 (some .boolean) ∈ W0 := in_t2 (i := 203) rfl rfl
theorem wc_6_putRest : Cond.code yX6_putRest cX6_putRest 2 none ∈ W0 := in_t3 (i := 2) rfl rfl
theorem wc_6_fits : Cond.code yX6_fits cX6_fits 3 (some .boolean) ∈ W0 := in_t2 (i := 211) rfl rfl
theorem wc_6_findStart : Cond.code yX6_findStart cX6_findStart 8 (some .boolean) ∈ W0 := in_t3 (i := 16) rfl rfl
theorem wc_6_addSegment : Cond.code yX6_addSegment cX6_addSegment 5 none ∈ W0 := in_t3 (i := 6) rfl rfl
theorem wc_6_endSpread : Cond.code yX6_endSpread cX6_endSpread 6 none ∈ W0 := in_t3 (i := 30) rfl rfl
theorem wc_6_has : Cond.code yX6_has cX6_has 2 (some .boolean) ∈ W0 := in_t3 (i := 44) rfl rfl
theorem wc_6_segmentsOf : Cond.code yX6_segmentsOf cX6_segmentsOf 2 (some .int) ∈ W0 := in_t3 (i := 49) rfl rfl
theorem wc_6_segmentWith : Cond.code yX6_segmentWith cX6_segmentWith 5 (some .int) ∈ W0 := in_t3 (i := 69) rfl rfl
theorem wc_6_contains : Cond.code yX6_contains cX6_contains 6 (some .boolean) ∈ W0 := in_t3 (i := 73) rfl rfl
theorem wc_6_spreadWith : Cond.code yX6_spreadWith cX6_spreadWith 3 (some .int) ∈ W0 := in_t3 (i := 77) rfl rfl
theorem wc_6_rowIn : Cond.code yX6_rowIn cX6_rowIn 4 (some .int) ∈ W0 := in_t3 (i := 85) rfl rfl
theorem wc_6_textAt : Cond.code yX6_textAt cX6_textAt 7 (some .int) ∈ W0 := in_t3 (i := 93) rfl rfl
theorem wc_6_noteAt : Cond.code yX6_noteAt cX6_noteAt 9 (some .int) ∈ W0 := in_t3 (i := 97) rfl rfl
theorem wc_6_noteLine : Cond.code yX6_noteLine cX6_noteLine 9 (some .int) ∈ W0 := in_t3 (i := 102) rfl rfl
theorem wc_6_blankSquares : Cond.code yX6_blankSquares cX6_blankSquares 3 (some .int) ∈ W0 := in_t3 (i := 110) rfl rfl
theorem wc_6_overfullSpreads : Cond.code yX6_overfullSpreads cX6_overfullSpreads 3 (some .int) ∈ W0 := in_t3 (i := 157) rfl rfl
theorem wc_6_splitSegments : Cond.code yX6_splitSegments cX6_splitSegments 3 (some .int) ∈ W0 := in_t3 (i := 165) rfl rfl
theorem wc_7_insert : Cond.code yX7_insert cX7_insert 4 (some .int) ∈ W0 := in_t2 (i := 22) rfl rfl
theorem wn_7 : Cond.initialized RX7 ∈ W0 := in_t1 (i := 1) rfl rfl
theorem wc_7_remove : Cond.code yX7_remove cX7_remove 2 (some .int) ∈ W0 := in_t2 (i := 80) rfl rfl
theorem wc_7_setLines : Cond.code yX7_setLines cX7_setLines 4 (some .int) ∈ W0 := in_t2 (i := 106) rfl rfl
theorem wc_7_setFlag : Cond.code yX7_setFlag cX7_setFlag 4 (some .int) ∈ W0 := in_t2 (i := 125) rfl rfl
theorem wc_7_addNote : Cond.code yX7_addNote cX7_addNote 5 (some .int) ∈ W0 := in_t2 (i := 129) rfl rfl
theorem wc_7_removeNote : Cond.code yX7_removeNote cX7_removeNote 4 (some .int) ∈ W0 := in_t2 (i := 144) rfl rfl
theorem wc_7_set : Cond.code yX7_set cX7_set 4 (some .int) ∈ W0 := in_t2 (i := 149) rfl rfl
theorem wc_7_undo : Cond.code yX7_undo cX7_undo 1 (some .int) ∈ W0 := in_t2 (i := 157) rfl rfl
theorem wc_7_pairCount : Cond.code yX7_pairCount cX7_pairCount 1 (some .int) ∈ W0 := in_t2 (i := 165) rfl rfl
theorem wc_7_pairInfo : Cond.code yX7_pairInfo cX7_pairInfo 3 (some .int) ∈ W0 := in_t2 (i := 169) rfl rfl
theorem wc_7_noteCount : Cond.code yX7_noteCount cX7_noteCount 2 (some .int) ∈ W0 := in_t2 (i := 173) rfl rfl
theorem wc_7_noteInfo : Cond.code yX7_noteInfo cX7_noteInfo 5 (some .int) ∈ W0 := in_t2 (i := 177) rfl rfl
theorem wc_7_spreadCount : Cond.code yX7_spreadCount cX7_spreadCount 1 (some .int) ∈ W0 := in_t2 (i := 181) rfl rfl
theorem wc_7_segmentCount : Cond.code yX7_segmentCount cX7_segmentCount 2 (some .int) ∈ W0 := in_t3 (i := 40) rfl rfl
theorem wc_7_segmentInfo : Cond.code yX7_segmentInfo cX7_segmentInfo 4 (some .int) ∈ W0 := in_t3 (i := 53) rfl rfl
theorem wc_7_pageInfo : Cond.code yX7_pageInfo cX7_pageInfo 4 (some .int) ∈ W0 := in_t3 (i := 57) rfl rfl
theorem wc_7_isOverfull : Cond.code yX7_isOverfull cX7_isOverfull 2 (some .int) ∈ W0 := in_t3 (i := 61) rfl rfl
theorem wc_7_spreadOf : Cond.code yX7_spreadOf cX7_spreadOf 4 (some .int) ∈ W0 := in_t3 (i := 65) rfl rfl
theorem wc_7_rowOf : Cond.code yX7_rowOf cX7_rowOf 4 (some .int) ∈ W0 := in_t3 (i := 81) rfl rfl
theorem wc_7_shown : Cond.code yX7_shown cX7_shown 5 (some .int) ∈ W0 := in_t3 (i := 89) rfl rfl
theorem wc_7_cost : Cond.code yX7_cost cX7_cost 1 (some .int) ∈ W0 := in_t3 (i := 106) rfl rfl
theorem wc_7_bestCost : Cond.code yX7_bestCost cX7_bestCost 1 (some .int) ∈ W0 := in_t3 (i := 114) rfl rfl
theorem wc_7_bestBreak : Cond.code yX7_bestBreak cX7_bestBreak 2 (some .int) ∈ W0 := in_t3 (i := 145) rfl rfl
theorem wc_7_leastHeight : Cond.code yX7_leastHeight cX7_leastHeight 3 (some .int) ∈ W0 := in_t3 (i := 149) rfl rfl
theorem wc_7_overfullWith : Cond.code yX7_overfullWith cX7_overfullWith 2 (some .int) ∈ W0 := in_t3 (i := 153) rfl rfl
theorem wc_7_splitPairs : Cond.code yX7_splitPairs cX7_splitPairs 1 (some .int) ∈ W0 := in_t3 (i := 161) rfl rfl
theorem wc_7_changePair : Cond.code yX7_changePair cX7_changePair 5 (some .int) ∈ W0 := in_t2 (i := 121) rfl rfl
theorem wc_7_beginChange : Cond.code yX7_beginChange cX7_beginChange 1 none ∈ W0 := in_t2 (i := 29) rfl rfl
theorem wc_7_forgetResults : Cond.code yX7_forgetResults cX7_forgetResults 1 none ∈ W0 := in_t2 (i := 57) rfl rfl
theorem wc_7_isIn : Cond.code yX7_isIn cX7_isIn 3 (some .boolean) ∈ W0 := in_t2 (i := 25) rfl rfl
theorem wc_7_isSide : Cond.code yX7_isSide cX7_isSide 1 (some .boolean) ∈ W0 := in_t2 (i := 109) rfl rfl
theorem wc_7_openPlace : Cond.code yX7_openPlace cX7_openPlace 3 none ∈ W0 := in_t2 (i := 64) rfl rfl
theorem wc_7_closePlace : Cond.code yX7_closePlace cX7_closePlace 3 none ∈ W0 := in_t2 (i := 92) rfl rfl
theorem wc_7_copyTable : Cond.code yX7_copyTable cX7_copyTable 3 none ∈ W0 := in_t2 (i := 40) rfl rfl
theorem wc_8_in : Cond.code yX8_in cX8_in 3 (some .boolean) ∈ W0 := in_t4 (i := 3) rfl rfl
theorem wn_8 : Cond.initialized RX8 ∈ W0 := in_t1 (i := 9) rfl rfl
theorem wc_8_isPair : Cond.code yX8_isPair cX8_isPair 2 (some .boolean) ∈ W0 := in_t4 (i := 15) rfl rfl
theorem wc_8_isSide : Cond.code yX8_isSide cX8_isSide 1 (some .boolean) ∈ W0 := in_t4 (i := 26) rfl rfl
theorem wc_8_lines : Cond.code yX8_lines cX8_lines 3 (some .int) ∈ W0 := in_t4 (i := 30) rfl rfl
theorem wc_8_isLine : Cond.code yX8_isLine cX8_isLine 4 (some .boolean) ∈ W0 := in_t4 (i := 42) rfl rfl
theorem wc_8_noteLong : Cond.code yX8_noteLong cX8_noteLong 3 (some .int) ∈ W0 := in_t4 (i := 110) rfl rfl
theorem wc_8_records : Cond.code yX8_records cX8_records 2 none ∈ W0 := in_t4 (i := 7) rfl rfl
theorem wc_8_insert : Cond.code yX8_insert cX8_insert 6 (some .int) ∈ W0 := in_t4 (i := 0) rfl rfl
theorem wc_8_dropsNote : Cond.code yX8_dropsNote cX8_dropsNote 4 none ∈ W0 := in_t4 (i := 19) rfl rfl
theorem wc_8_remove : Cond.code yX8_remove cX8_remove 4 (some .int) ∈ W0 := in_t4 (i := 11) rfl rfl
theorem wc_8_setLines : Cond.code yX8_setLines cX8_setLines 5 (some .int) ∈ W0 := in_t4 (i := 23) rfl rfl
theorem wc_8_setFlag : Cond.code yX8_setFlag cX8_setFlag 5 (some .int) ∈ W0 := in_t4 (i := 34) rfl rfl
theorem wc_8_notesAhead : Cond.code yX8_notesAhead cX8_notesAhead 7 (some .int) ∈ W0 := in_t4 (i := 46) rfl rfl
theorem wc_8_addNote : Cond.code yX8_addNote cX8_addNote 7 (some .int) ∈ W0 := in_t4 (i := 38) rfl rfl
theorem wc_8_removeNote : Cond.code yX8_removeNote cX8_removeNote 3 (some .int) ∈ W0 := in_t4 (i := 50) rfl rfl
theorem wc_8_set : Cond.code yX8_set cX8_set 4 (some .int) ∈ W0 := in_t4 (i := 54) rfl rfl
theorem wc_8_undo : Cond.code yX8_undo cX8_undo 2 (some .int) ∈ W0 := in_t4 (i := 58) rfl rfl
theorem wc_8_pairCount : Cond.code yX8_pairCount cX8_pairCount 1 (some .int) ∈ W0 := in_t4 (i := 62) rfl rfl
theorem wc_8_pairInfo : Cond.code yX8_pairInfo cX8_pairInfo 3 (some .int) ∈ W0 := in_t4 (i := 66) rfl rfl
theorem wc_8_noteCount : Cond.code yX8_noteCount cX8_noteCount 2 (some .int) ∈ W0 := in_t4 (i := 70) rfl rfl
theorem wc_8_noteInfo : Cond.code yX8_noteInfo cX8_noteInfo 4 (some .int) ∈ W0 := in_t4 (i := 74) rfl rfl
theorem wc_8_segmentsOfLast : Cond.code yX8_segmentsOfLast cX8_segmentsOfLast 1 (some .int) ∈ W0 := in_t4 (i := 90) rfl rfl
theorem wc_8_rowsOf : Cond.code yX8_rowsOf cX8_rowsOf 2 (some .int) ∈ W0 := in_t4 (i := 122) rfl rfl
theorem wc_8_beginning : Cond.code yX8_beginning cX8_beginning 6 (some .int) ∈ W0 := in_t4 (i := 118) rfl rfl
theorem wc_8_carriedTo : Cond.code yX8_carriedTo cX8_carriedTo 3 (some .int) ∈ W0 := in_t4 (i := 106) rfl rfl
theorem wc_8_notedLines : Cond.code yX8_notedLines cX8_notedLines 5 (some .int) ∈ W0 := in_t4 (i := 102) rfl rfl
theorem wc_8_mostCarried : Cond.code yX8_mostCarried cX8_mostCarried 4 (some .int) ∈ W0 := in_t4 (i := 114) rfl rfl
theorem wc_8_fitsOn : Cond.code yX8_fitsOn cX8_fitsOn 5 (some .boolean) ∈ W0 := in_t4 (i := 98) rfl rfl
theorem wc_8_fits : Cond.code yX8_fits cX8_fits 3 (some .boolean) ∈ W0 := in_t4 (i := 94) rfl rfl
theorem wc_8_puts : Cond.code yX8_puts cX8_puts 6 none ∈ W0 := in_t4 (i := 126) rfl rfl
theorem wc_8_splits : Cond.code yX8_splits cX8_splits 5 (some .boolean) ∈ W0 := in_t4 (i := 130) rfl rfl
theorem wc_8_goesOn : Cond.code yX8_goesOn cX8_goesOn 5 (some .boolean) ∈ W0 := in_t4 (i := 86) rfl rfl
theorem wc_8_closes : Cond.code yX8_closes cX8_closes 8 none ∈ W0 := in_t4 (i := 134) rfl rfl
theorem wc_8_sets : Cond.code yX8_sets cX8_sets 3 none ∈ W0 := in_t4 (i := 82) rfl rfl
theorem wc_8_isSpread : Cond.code yX8_isSpread cX8_isSpread 2 (some .boolean) ∈ W0 := in_t4 (i := 142) rfl rfl
theorem wc_8_spreadCount : Cond.code yX8_spreadCount cX8_spreadCount 1 (some .int) ∈ W0 := in_t4 (i := 78) rfl rfl
theorem wc_8_segmentCount : Cond.code yX8_segmentCount cX8_segmentCount 2 (some .int) ∈ W0 := in_t4 (i := 138) rfl rfl
theorem wc_8_segmentInfo : Cond.code yX8_segmentInfo cX8_segmentInfo 5 (some .int) ∈ W0 := in_t4 (i := 146) rfl rfl
theorem wc_8_blank : Cond.code yX8_blank cX8_blank 3 (some .int) ∈ W0 := in_t4 (i := 154) rfl rfl
theorem wc_8_pageInfo : Cond.code yX8_pageInfo cX8_pageInfo 5 (some .int) ∈ W0 := in_t4 (i := 150) rfl rfl
theorem wc_8_isOverfull : Cond.code yX8_isOverfull cX8_isOverfull 2 (some .int) ∈ W0 := in_t4 (i := 158) rfl rfl
theorem wc_8_segmentOf : Cond.code yX8_segmentOf cX8_segmentOf 5 (some .int) ∈ W0 := in_t4 (i := 166) rfl rfl
theorem wc_8_spreadOf : Cond.code yX8_spreadOf cX8_spreadOf 6 (some .int) ∈ W0 := in_t4 (i := 162) rfl rfl
theorem wc_8_rowOf : Cond.code yX8_rowOf cX8_rowOf 5 (some .int) ∈ W0 := in_t4 (i := 170) rfl rfl
theorem wc_8_noteAt : Cond.code yX8_noteAt cX8_noteAt 7 (some .int) ∈ W0 := in_t4 (i := 178) rfl rfl
theorem wc_8_shown : Cond.code yX8_shown cX8_shown 7 (some .int) ∈ W0 := in_t4 (i := 174) rfl rfl
theorem wc_8_cost : Cond.code yX8_cost cX8_cost 3 (some .int) ∈ W0 := in_t4 (i := 182) rfl rfl
theorem wc_8_rowsOfGroup : Cond.code yX8_rowsOfGroup cX8_rowsOfGroup 8 (some .int) ∈ W0 := in_t4 (i := 198) rfl rfl
theorem wc_8_isGroup : Cond.code yX8_isGroup cX8_isGroup 5 (some .boolean) ∈ W0 := in_t4 (i := 194) rfl rfl
theorem wc_8_divides : Cond.code yX8_divides cX8_divides 7 none ∈ W0 := in_t4 (i := 190) rfl rfl
theorem wc_8_bestCost : Cond.code yX8_bestCost cX8_bestCost 1 (some .int) ∈ W0 := in_t4 (i := 186) rfl rfl
theorem wc_8_bestBreak : Cond.code yX8_bestBreak cX8_bestBreak 4 (some .int) ∈ W0 := in_t4 (i := 202) rfl rfl
theorem wc_8_leastHeight : Cond.code yX8_leastHeight cX8_leastHeight 5 (some .int) ∈ W0 := in_t4 (i := 206) rfl rfl
theorem wc_8_overfullWith : Cond.code yX8_overfullWith cX8_overfullWith 5 (some .int) ∈ W0 := in_t4 (i := 210) rfl rfl
theorem wc_8_splitPairs : Cond.code yX8_splitPairs cX8_splitPairs 4 (some .int) ∈ W0 := in_t4 (i := 214) rfl rfl
theorem wf0_15 : Cond.fieldLink RX0 15 "BilingualSetter$Division" "costs" "[I" ∈ W0 := in_t1 (i := 226) rfl rfl
theorem wf1_23 : Cond.fieldLink RX1 23 "BilingualSetter$Edition" "right" "LBilingualSetter$Notes;" ∈ W0 := in_t1 (i := 68) rfl rfl
theorem wf1_19 : Cond.fieldLink RX1 19 "BilingualSetter$Edition" "left" "LBilingualSetter$Notes;" ∈ W0 := in_t1 (i := 65) rfl rfl
theorem wf2_9 : Cond.fieldLink RX2 9 "BilingualSetter$Facing" "text" "[I" ∈ W0 := in_t1 (i := 120) rfl rfl
theorem wf2_15 : Cond.fieldLink RX2 15 "BilingualSetter$Facing" "next" "[I" ∈ W0 := in_t1 (i := 123) rfl rfl
theorem wf2_18 : Cond.fieldLink RX2 18 "BilingualSetter$Facing" "carriedTo" "[I" ∈ W0 := in_t1 (i := 125) rfl rfl
theorem wf2_21 : Cond.fieldLink RX2 21 "BilingualSetter$Facing" "firstNote" "[I" ∈ W0 := in_t1 (i := 127) rfl rfl
theorem wf2_24 : Cond.fieldLink RX2 24 "BilingualSetter$Facing" "notes" "[I" ∈ W0 := in_t1 (i := 129) rfl rfl
theorem wf2_27 : Cond.fieldLink RX2 27 "BilingualSetter$Facing" "noteLines" "[I" ∈ W0 := in_t1 (i := 131) rfl rfl
theorem wf2_30 : Cond.fieldLink RX2 30 "BilingualSetter$Facing" "lastLength" "[I" ∈ W0 := in_t1 (i := 132) rfl rfl
theorem wm2_33 : Cond.methodLink RX2 33 arraycopyName ∈ W0 := in_t2 (i := 216) rfl rfl
theorem wnat : Cond.native arraycopyName ∈ W0 := in_t2 (i := 46) rfl rfl
theorem ws_acopy : Cond.static arraycopyName ∈ W0 := in_t2 (i := 45) rfl rfl
theorem wn_Sys : Cond.initialized "java/lang/System" ∈ W0 := in_t1 (i := 11) rfl rfl
theorem wm2_75 : Cond.methodLink RX2 75 Lib.Math.min.name ∈ W0 := in_t2 (i := 234) rfl rfl
theorem ws_min : Cond.static Lib.Math.min.name ∈ W0 := in_t2 (i := 42) rfl rfl
theorem wn_Math : Cond.initialized "java/lang/Math" ∈ W0 := in_t1 (i := 10) rfl rfl
theorem wc_min : Cond.code Lib.Math.min.name Lib.Math.min.code 2 (some .int) ∈ W0 := in_t2 (i := 43) rfl rfl
theorem wm2_69 : Cond.methodLink RX2 69 Lib.Math.max.name ∈ W0 := in_t2 (i := 223) rfl rfl
theorem ws_max : Cond.static Lib.Math.max.name ∈ W0 := in_t2 (i := 224) rfl rfl
theorem wc_max : Cond.code Lib.Math.max.name Lib.Math.max.code 2 (some .int) ∈ W0 := in_t2 (i := 225) rfl rfl
theorem wf4_11 : Cond.fieldLink RX4 11 "BilingualSetter$Notes" "table" "[[I" ∈ W0 := in_t1 (i := 38) rfl rfl
theorem wf4_20 : Cond.fieldLink RX4 20 "BilingualSetter$Notes" "count" "I" ∈ W0 := in_t1 (i := 35) rfl rfl
theorem wf5_18 : Cond.fieldLink RX5 18 "BilingualSetter$Part" "pair" "I" ∈ W0 := in_t1 (i := 154) rfl rfl
theorem wf5_9 : Cond.fieldLink RX5 9 "BilingualSetter$Part" "first" "[I" ∈ W0 := in_t1 (i := 157) rfl rfl
theorem wm5_32 : Cond.methodLink RX5 32 arraycopyName ∈ W0 := in_t3 (i := 22) rfl rfl
theorem wf5_15 : Cond.fieldLink RX5 15 "BilingualSetter$Part" "lines" "[I" ∈ W0 := in_t1 (i := 160) rfl rfl
theorem wf6_33 : Cond.fieldLink RX6 33 "BilingualSetter$Spreads" "now" "LBilingualSetter$Facing;" ∈ W0 := in_t1 (i := 183) rfl rfl
theorem wf6_85 : Cond.fieldLink RX6 85 "BilingualSetter$Facing" "carriedTo" "[I" ∈ W0 := in_t1 (i := 126) rfl rfl
theorem wf6_15 : Cond.fieldLink RX6 15 "BilingualSetter$Spreads" "firstSegment" "[I" ∈ W0 := in_t1 (i := 174) rfl rfl
theorem wf6_50 : Cond.fieldLink RX6 50 "BilingualSetter$Spreads" "count" "I" ∈ W0 := in_t1 (i := 172) rfl rfl
theorem wf6_24 : Cond.fieldLink RX6 24 "BilingualSetter$Spreads" "segments" "[[I" ∈ W0 := in_t1 (i := 178) rfl rfl
theorem wf6_27 : Cond.fieldLink RX6 27 "BilingualSetter$Spreads" "pages" "[[I" ∈ W0 := in_t1 (i := 180) rfl rfl
theorem wf6_193 : Cond.fieldLink RX6 193 "BilingualSetter$Notes" "count" "I" ∈ W0 := in_t1 (i := 37) rfl rfl
theorem wf6_188 : Cond.fieldLink RX6 188 "BilingualSetter$Notes" "table" "[[I" ∈ W0 := in_t1 (i := 41) rfl rfl
theorem wf6_19 : Cond.fieldLink RX6 19 "BilingualSetter$Spreads" "overfull" "[I" ∈ W0 := in_t1 (i := 176) rfl rfl
theorem wf6_53 : Cond.fieldLink RX6 53 "BilingualSetter$Spreads" "segmentsMade" "I" ∈ W0 := in_t1 (i := 182) rfl rfl
theorem wf7_10 : Cond.fieldLink RX7 10 "BilingualSetter" "edition" "LBilingualSetter$Edition;" ∈ W0 := in_t2 (i := 6) rfl rfl
theorem wf7_37 : Cond.fieldLink RX7 37 "BilingualSetter$Edition" "count" "I" ∈ W0 := in_t1 (i := 57) rfl rfl
theorem wf7_26 : Cond.fieldLink RX7 26 "BilingualSetter" "spreads" "LBilingualSetter$Spreads;" ∈ W0 := in_t2 (i := 8) rfl rfl
theorem wf7_188 : Cond.fieldLink RX7 188 "BilingualSetter$Spreads" "height" "I" ∈ W0 := in_t1 (i := 171) rfl rfl
theorem wf7_33 : Cond.fieldLink RX7 33 "BilingualSetter" "division" "LBilingualSetter$Division;" ∈ W0 := in_t2 (i := 9) rfl rfl
theorem wf7_191 : Cond.fieldLink RX7 191 "BilingualSetter$Division" "isSearched" "Z" ∈ W0 := in_t1 (i := 221) rfl rfl
theorem wm7_201 : Cond.methodLink RX7 201 Lib.Math.min.name ∈ W0 := in_t2 (i := 41) rfl rfl
theorem wm7_195 : Cond.methodLink RX7 195 arraycopyName ∈ W0 := in_t2 (i := 44) rfl rfl
theorem wf8_7 : Cond.fieldLink RX8 7 "BilingualSetterModel" "d" "[I" ∈ W0 := in_t3 (i := 172) rfl rfl
theorem wf8_77 : Cond.fieldLink RX8 77 "BilingualSetterModel" "many" "I" ∈ W0 := in_t3 (i := 174) rfl rfl
theorem wf8_13 : Cond.fieldLink RX8 13 "BilingualSetterModel" "was" "[I" ∈ W0 := in_t3 (i := 173) rfl rfl
theorem wf8_95 : Cond.fieldLink RX8 95 "BilingualSetterModel" "segments" "I" ∈ W0 := in_t3 (i := 177) rfl rfl
theorem wf8_34 : Cond.fieldLink RX8 34 "BilingualSetterModel" "first" "[I" ∈ W0 := in_t3 (i := 183) rfl rfl
theorem wf8_98 : Cond.fieldLink RX8 98 "BilingualSetterModel" "spreads" "I" ∈ W0 := in_t3 (i := 182) rfl rfl
theorem wf8_47 : Cond.fieldLink RX8 47 "BilingualSetterModel" "carried" "[I" ∈ W0 := in_t3 (i := 187) rfl rfl
theorem wf8_22 : Cond.fieldLink RX8 22 "BilingualSetterModel" "segPair" "[I" ∈ W0 := in_t3 (i := 178) rfl rfl
theorem wf8_25 : Cond.fieldLink RX8 25 "BilingualSetterModel" "segFirst" "[I" ∈ W0 := in_t3 (i := 179) rfl rfl
theorem wf8_28 : Cond.fieldLink RX8 28 "BilingualSetterModel" "segLines" "[I" ∈ W0 := in_t3 (i := 180) rfl rfl
theorem wf0_84 : Cond.fieldLink RX0 84 "BilingualSetter$Edition" "settings" "[I" ∈ W0 := in_t1 (i := 72) rfl rfl
theorem wf0_24 : Cond.fieldLink RX0 24 "BilingualSetter$Division" "group" "LBilingualSetter$Facing;" ∈ W0 := in_t1 (i := 229) rfl rfl
theorem wf0_99 : Cond.fieldLink RX0 99 "BilingualSetter$Facing" "text" "[I" ∈ W0 := in_t1 (i := 121) rfl rfl
theorem wm0_102 : Cond.methodLink RX0 102 yX2_noteRows ∈ W0 := in_t3 (i := 136) rfl rfl
theorem wi_2_noteRows : Cond.instanceMethod yX2_noteRows ∈ W0 := in_t2 (i := 236) rfl rfl
theorem wl_2_noteRows : Cond.selects RX2 yX2_noteRows yX2_noteRows ∈ W0 := in_t2 (i := 237) rfl rfl
theorem wf1_38 : Cond.fieldLink RX1 38 "BilingualSetter$Edition" "count" "I" ∈ W0 := in_t1 (i := 58) rfl rfl
theorem ws_7_isIn : Cond.static yX7_isIn ∈ W0 := in_t2 (i := 24) rfl rfl
theorem wf2_66 : Cond.fieldLink RX2 66 "BilingualSetter$Edition" "settings" "[I" ∈ W0 := in_t1 (i := 73) rfl rfl
theorem wf2_39 : Cond.fieldLink RX2 39 "BilingualSetter$Part" "lines" "[I" ∈ W0 := in_t1 (i := 161) rfl rfl
theorem wm2_44 : Cond.methodLink RX2 44 yX1_notes ∈ W0 := in_t2 (i := 221) rfl rfl
theorem wi_1_notes : Cond.instanceMethod yX1_notes ∈ W0 := in_t2 (i := 111) rfl rfl
theorem wl_1_notes : Cond.selects RX1 yX1_notes yX1_notes ∈ W0 := in_t2 (i := 112) rfl rfl
theorem wf2_49 : Cond.fieldLink RX2 49 "BilingualSetter$Part" "pair" "I" ∈ W0 := in_t1 (i := 156) rfl rfl
theorem wf2_53 : Cond.fieldLink RX2 53 "BilingualSetter$Part" "first" "[I" ∈ W0 := in_t1 (i := 158) rfl rfl
theorem wm2_56 : Cond.methodLink RX2 56 yX4_endBefore ∈ W0 := in_t2 (i := 222) rfl rfl
theorem wi_4_endBefore : Cond.instanceMethod yX4_endBefore ∈ W0 := in_t2 (i := 74) rfl rfl
theorem wl_4_endBefore : Cond.selects RX4 yX4_endBefore yX4_endBefore ∈ W0 := in_t2 (i := 75) rfl rfl
theorem wf2_62 : Cond.fieldLink RX2 62 "BilingualSetter$Notes" "table" "[[I" ∈ W0 := in_t1 (i := 39) rfl rfl
theorem wm2_78 : Cond.methodLink RX2 78 yX2_mostCarried ∈ W0 := in_t2 (i := 230) rfl rfl
theorem wi_2_mostCarried : Cond.instanceMethod yX2_mostCarried ∈ W0 := in_t2 (i := 231) rfl rfl
theorem wl_2_mostCarried : Cond.selects RX2 yX2_mostCarried yX2_mostCarried ∈ W0 := in_t2 (i := 232) rfl rfl
theorem wm2_81 : Cond.methodLink RX2 81 yX2_noteRows ∈ W0 := in_t2 (i := 235) rfl rfl
theorem wm4_16 : Cond.methodLink RX4 16 yX4_endBefore ∈ W0 := in_t2 (i := 73) rfl rfl
theorem ws_7_copyTable : Cond.static yX7_copyTable ∈ W0 := in_t2 (i := 39) rfl rfl
theorem wf6_11 : Cond.fieldLink RX6 11 "BilingualSetter$Spreads" "height" "I" ∈ W0 := in_t1 (i := 170) rfl rfl
theorem wm6_165 : Cond.methodLink RX6 165 Lib.Math.max.name ∈ W0 := in_t3 (i := 36) rfl rfl
theorem wf6_120 : Cond.fieldLink RX6 120 "BilingualSetter$Edition" "settings" "[I" ∈ W0 := in_t1 (i := 74) rfl rfl
theorem wm6_181 : Cond.methodLink RX6 181 yX1_notes ∈ W0 := in_t3 (i := 98) rfl rfl
theorem wm6_184 : Cond.methodLink RX6 184 yX6_noteLine ∈ W0 := in_t3 (i := 99) rfl rfl
theorem wi_6_noteLine : Cond.instanceMethod yX6_noteLine ∈ W0 := in_t3 (i := 101) rfl rfl
theorem wl_6_noteLine : Cond.selects RX6 yX6_noteLine yX6_noteLine ∈ W0 := in_s (i := 11) rfl rfl
theorem wm7_41 : Cond.methodLink RX7 41 yX7_isIn ∈ W0 := in_t2 (i := 23) rfl rfl
theorem ws_8_in : Cond.static yX8_in ∈ W0 := in_t4 (i := 2) rfl rfl
theorem wm8_62 : Cond.methodLink RX8 62 yX8_in ∈ W0 := in_t4 (i := 1) rfl rfl
theorem wm8_81 : Cond.methodLink RX8 81 yX8_records ∈ W0 := in_t4 (i := 4) rfl rfl
theorem wi_8_records : Cond.instanceMethod yX8_records ∈ W0 := in_t4 (i := 6) rfl rfl
theorem wl_8_records : Cond.selects RX8 yX8_records yX8_records ∈ W0 := in_s (i := 15) rfl rfl
theorem wf8_16 : Cond.fieldLink RX8 16 "BilingualSetterModel" "least" "[I" ∈ W0 := in_t3 (i := 175) rfl rfl
theorem wf8_19 : Cond.fieldLink RX8 19 "BilingualSetterModel" "most" "[I" ∈ W0 := in_t3 (i := 176) rfl rfl
theorem wm8_101 : Cond.methodLink RX8 101 yX8_segmentsOfLast ∈ W0 := in_t4 (i := 87) rfl rfl
theorem wi_8_segmentsOfLast : Cond.instanceMethod yX8_segmentsOfLast ∈ W0 := in_t4 (i := 89) rfl rfl
theorem wl_8_segmentsOfLast : Cond.selects RX8 yX8_segmentsOfLast yX8_segmentsOfLast ∈ W0 := in_s (i := 23) rfl rfl
theorem wf8_31 : Cond.fieldLink RX8 31 "BilingualSetterModel" "segRow" "[I" ∈ W0 := in_t3 (i := 181) rfl rfl
theorem wm8_105 : Cond.methodLink RX8 105 yX8_carriedTo ∈ W0 := in_t4 (i := 103) rfl rfl
theorem wi_8_carriedTo : Cond.instanceMethod yX8_carriedTo ∈ W0 := in_t4 (i := 105) rfl rfl
theorem wl_8_carriedTo : Cond.selects RX8 yX8_carriedTo yX8_carriedTo ∈ W0 := in_s (i := 27) rfl rfl
theorem wf8_50 : Cond.fieldLink RX8 50 "BilingualSetterModel" "firstNote" "[I" ∈ W0 := in_t3 (i := 188) rfl rfl
theorem wm8_108 : Cond.methodLink RX8 108 yX8_noteLong ∈ W0 := in_t4 (i := 107) rfl rfl
theorem wi_8_noteLong : Cond.instanceMethod yX8_noteLong ∈ W0 := in_t4 (i := 109) rfl rfl
theorem wl_8_noteLong : Cond.selects RX8 yX8_noteLong yX8_noteLong ∈ W0 := in_s (i := 28) rfl rfl
theorem wf8_41 : Cond.fieldLink RX8 41 "BilingualSetterModel" "textRows" "[I" ∈ W0 := in_t3 (i := 185) rfl rfl
theorem wf8_44 : Cond.fieldLink RX8 44 "BilingualSetterModel" "noteLines" "[I" ∈ W0 := in_t3 (i := 186) rfl rfl
theorem wm8_124 : Cond.methodLink RX8 124 yX8_rowsOf ∈ W0 := in_t4 (i := 119) rfl rfl
theorem wi_8_rowsOf : Cond.instanceMethod yX8_rowsOf ∈ W0 := in_t4 (i := 121) rfl rfl
theorem wl_8_rowsOf : Cond.selects RX8 yX8_rowsOf yX8_rowsOf ∈ W0 := in_s (i := 31) rfl rfl
theorem wm8_73 : Cond.methodLink RX8 73 yX8_lines ∈ W0 := in_t4 (i := 27) rfl rfl
theorem wi_8_lines : Cond.instanceMethod yX8_lines ∈ W0 := in_t4 (i := 29) rfl rfl
theorem wl_8_lines : Cond.selects RX8 yX8_lines yX8_lines ∈ W0 := in_s (i := 18) rfl rfl
theorem wf0_39 : Cond.fieldLink RX0 39 "BilingualSetter$Edition" "count" "I" ∈ W0 := in_t1 (i := 59) rfl rfl
theorem wf0_18 : Cond.fieldLink RX0 18 "BilingualSetter$Division" "sizes" "[I" ∈ W0 := in_t1 (i := 228) rfl rfl
theorem wm0_95 : Cond.methodLink RX0 95 yX0_blankSquares ∈ W0 := in_t3 (i := 132) rfl rfl
theorem wi_0_blankSquares : Cond.instanceMethod yX0_blankSquares ∈ W0 := in_t3 (i := 134) rfl rfl
theorem wl_0_blankSquares : Cond.selects RX0 yX0_blankSquares yX0_blankSquares ∈ W0 := in_s (i := 14) rfl rfl
theorem wm1_46 : Cond.methodLink RX1 46 yX1_hasPair ∈ W0 := in_t2 (i := 134) rfl rfl
theorem wi_1_hasPair : Cond.instanceMethod yX1_hasPair ∈ W0 := in_t2 (i := 82) rfl rfl
theorem wl_1_hasPair : Cond.selects RX1 yX1_hasPair yX1_hasPair ∈ W0 := in_t2 (i := 83) rfl rfl
theorem ws_7_isSide : Cond.static yX7_isSide ∈ W0 := in_t2 (i := 108) rfl rfl
theorem wf1_11 : Cond.fieldLink RX1 11 "BilingualSetter$Edition" "pairs" "[[I" ∈ W0 := in_t1 (i := 60) rfl rfl
theorem wm1_72 : Cond.methodLink RX1 72 yX4_copyFrom ∈ W0 := in_t2 (i := 47) rfl rfl
theorem wi_4_copyFrom : Cond.instanceMethod yX4_copyFrom ∈ W0 := in_t2 (i := 48) rfl rfl
theorem wl_4_copyFrom : Cond.selects RX4 yX4_copyFrom yX4_copyFrom ∈ W0 := in_t2 (i := 49) rfl rfl
theorem wf1_35 : Cond.fieldLink RX1 35 "BilingualSetter$Edition" "settings" "[I" ∈ W0 := in_t1 (i := 71) rfl rfl
theorem wm1_76 : Cond.methodLink RX1 76 arraycopyName ∈ W0 := in_t2 (i := 52) rfl rfl
theorem wm4_24 : Cond.methodLink RX4 24 yX4_before ∈ W0 := in_t2 (i := 69) rfl rfl
theorem wi_4_before : Cond.instanceMethod yX4_before ∈ W0 := in_t2 (i := 70) rfl rfl
theorem wl_4_before : Cond.selects RX4 yX4_before yX4_before ∈ W0 := in_t2 (i := 71) rfl rfl
theorem ws_7_openPlace : Cond.static yX7_openPlace ∈ W0 := in_t2 (i := 63) rfl rfl
theorem ws_7_closePlace : Cond.static yX7_closePlace ∈ W0 := in_t2 (i := 91) rfl rfl
theorem wm5_22 : Cond.methodLink RX5 22 yX1_hasPair ∈ W0 := in_t2 (i := 190) rfl rfl
theorem wf5_28 : Cond.fieldLink RX5 28 "BilingualSetter$Edition" "pairs" "[[I" ∈ W0 := in_t1 (i := 61) rfl rfl
theorem wf6_37 : Cond.fieldLink RX6 37 "BilingualSetter$Spreads" "trial" "LBilingualSetter$Facing;" ∈ W0 := in_t1 (i := 184) rfl rfl
theorem wm6_112 : Cond.methodLink RX6 112 yX2_copyFrom ∈ W0 := in_t2 (i := 212) rfl rfl
theorem wi_2_copyFrom : Cond.instanceMethod yX2_copyFrom ∈ W0 := in_t2 (i := 213) rfl rfl
theorem wl_2_copyFrom : Cond.selects RX2 yX2_copyFrom yX2_copyFrom ∈ W0 := in_t2 (i := 214) rfl rfl
theorem wm6_116 : Cond.methodLink RX6 116 yX2_put ∈ W0 := in_t2 (i := 217) rfl rfl
theorem wi_2_put : Cond.instanceMethod yX2_put ∈ W0 := in_t2 (i := 218) rfl rfl
theorem wl_2_put : Cond.selects RX2 yX2_put yX2_put ∈ W0 := in_t2 (i := 219) rfl rfl
theorem wm6_123 : Cond.methodLink RX6 123 yX2_fits ∈ W0 := in_t2 (i := 226) rfl rfl
theorem wi_2_fits : Cond.instanceMethod yX2_fits ∈ W0 := in_t2 (i := 227) rfl rfl
theorem wl_2_fits : Cond.selects RX2 yX2_fits yX2_fits ∈ W0 := in_t2 (i := 228) rfl rfl
theorem wf6_64 : Cond.fieldLink RX6 64 "BilingualSetter$Part" "pair" "I" ∈ W0 := in_t1 (i := 155) rfl rfl
theorem wf6_145 : Cond.fieldLink RX6 145 "BilingualSetter$Part" "first" "[I" ∈ W0 := in_t1 (i := 159) rfl rfl
theorem wf6_126 : Cond.fieldLink RX6 126 "BilingualSetter$Part" "lines" "[I" ∈ W0 := in_t1 (i := 162) rfl rfl
theorem wf6_129 : Cond.fieldLink RX6 129 "BilingualSetter$Facing" "next" "[I" ∈ W0 := in_t1 (i := 124) rfl rfl
theorem wm6_154 : Cond.methodLink RX6 154 yX2_carriedFrom ∈ W0 := in_t3 (i := 31) rfl rfl
theorem wi_2_carriedFrom : Cond.instanceMethod yX2_carriedFrom ∈ W0 := in_t3 (i := 32) rfl rfl
theorem wl_2_carriedFrom : Cond.selects RX2 yX2_carriedFrom yX2_carriedFrom ∈ W0 := in_t3 (i := 33) rfl rfl
theorem wm6_158 : Cond.methodLink RX6 158 yX2_noteRows ∈ W0 := in_t3 (i := 35) rfl rfl
theorem wf6_162 : Cond.fieldLink RX6 162 "BilingualSetter$Facing" "text" "[I" ∈ W0 := in_t1 (i := 122) rfl rfl
theorem wf6_168 : Cond.fieldLink RX6 168 "BilingualSetter$Facing" "notes" "[I" ∈ W0 := in_t1 (i := 130) rfl rfl
theorem wf6_171 : Cond.fieldLink RX6 171 "BilingualSetter$Facing" "firstNote" "[I" ∈ W0 := in_t1 (i := 128) rfl rfl
theorem wm6_60 : Cond.methodLink RX6 60 yX2_turn ∈ W0 := in_t2 (i := 191) rfl rfl
theorem wi_2_turn : Cond.instanceMethod yX2_turn ∈ W0 := in_t2 (i := 192) rfl rfl
theorem wl_2_turn : Cond.selects RX2 yX2_turn yX2_turn ∈ W0 := in_t2 (i := 193) rfl rfl
theorem wm6_177 : Cond.methodLink RX6 177 yX6_contains ∈ W0 := in_t3 (i := 70) rfl rfl
theorem wi_6_contains : Cond.instanceMethod yX6_contains ∈ W0 := in_t3 (i := 72) rfl rfl
theorem wl_6_contains : Cond.selects RX6 yX6_contains yX6_contains ∈ W0 := in_s (i := 10) rfl rfl
theorem wm7_52 : Cond.methodLink RX7 52 yX1_hasPair ∈ W0 := in_t2 (i := 81) rfl rfl
theorem wf7_112 : Cond.fieldLink RX7 112 "BilingualSetter$Edition" "pairs" "[[I" ∈ W0 := in_t1 (i := 64) rfl rfl
theorem wm7_60 : Cond.methodLink RX7 60 yX7_isSide ∈ W0 := in_t2 (i := 107) rfl rfl
theorem wm7_63 : Cond.methodLink RX7 63 yX1_notes ∈ W0 := in_t2 (i := 110) rfl rfl
theorem wf7_84 : Cond.fieldLink RX7 84 "BilingualSetter$Notes" "count" "I" ∈ W0 := in_t1 (i := 36) rfl rfl
theorem wf7_116 : Cond.fieldLink RX7 116 "BilingualSetter$Notes" "table" "[[I" ∈ W0 := in_t1 (i := 40) rfl rfl
theorem wm8_66 : Cond.methodLink RX8 66 yX8_isPair ∈ W0 := in_t4 (i := 12) rfl rfl
theorem wi_8_isPair : Cond.instanceMethod yX8_isPair ∈ W0 := in_t4 (i := 14) rfl rfl
theorem wl_8_isPair : Cond.selects RX8 yX8_isPair yX8_isPair ∈ W0 := in_s (i := 16) rfl rfl
theorem ws_8_isSide : Cond.static yX8_isSide ∈ W0 := in_t4 (i := 25) rfl rfl
theorem wm8_70 : Cond.methodLink RX8 70 yX8_isSide ∈ W0 := in_t4 (i := 24) rfl rfl
theorem wm8_84 : Cond.methodLink RX8 84 yX8_dropsNote ∈ W0 := in_t4 (i := 16) rfl rfl
theorem wi_8_dropsNote : Cond.instanceMethod yX8_dropsNote ∈ W0 := in_t4 (i := 18) rfl rfl
theorem wl_8_dropsNote : Cond.selects RX8 yX8_dropsNote yX8_dropsNote ∈ W0 := in_s (i := 17) rfl rfl
theorem wf8_111 : Cond.fieldLink RX8 111 "BilingualSetterModel" "pair" "I" ∈ W0 := in_t3 (i := 189) rfl rfl
theorem wf8_53 : Cond.fieldLink RX8 53 "BilingualSetterModel" "done" "[I" ∈ W0 := in_t3 (i := 190) rfl rfl
theorem wm8_91 : Cond.methodLink RX8 91 yX8_notesAhead ∈ W0 := in_t4 (i := 43) rfl rfl
theorem wi_8_notesAhead : Cond.instanceMethod yX8_notesAhead ∈ W0 := in_t4 (i := 45) rfl rfl
theorem wl_8_notesAhead : Cond.selects RX8 yX8_notesAhead yX8_notesAhead ∈ W0 := in_s (i := 20) rfl rfl
theorem wm8_114 : Cond.methodLink RX8 114 yX8_notedLines ∈ W0 := in_t4 (i := 99) rfl rfl
theorem wi_8_notedLines : Cond.instanceMethod yX8_notedLines ∈ W0 := in_t4 (i := 101) rfl rfl
theorem wl_8_notedLines : Cond.selects RX8 yX8_notedLines yX8_notedLines ∈ W0 := in_s (i := 26) rfl rfl
theorem wm8_117 : Cond.methodLink RX8 117 yX8_mostCarried ∈ W0 := in_t4 (i := 111) rfl rfl
theorem wi_8_mostCarried : Cond.instanceMethod yX8_mostCarried ∈ W0 := in_t4 (i := 113) rfl rfl
theorem wl_8_mostCarried : Cond.selects RX8 yX8_mostCarried yX8_mostCarried ∈ W0 := in_s (i := 29) rfl rfl
theorem wm8_120 : Cond.methodLink RX8 120 yX8_beginning ∈ W0 := in_t4 (i := 115) rfl rfl
theorem wi_8_beginning : Cond.instanceMethod yX8_beginning ∈ W0 := in_t4 (i := 117) rfl rfl
theorem wl_8_beginning : Cond.selects RX8 yX8_beginning yX8_beginning ∈ W0 := in_s (i := 30) rfl rfl
theorem wm8_163 : Cond.methodLink RX8 163 yX8_rowsOfGroup ∈ W0 := in_t4 (i := 195) rfl rfl
theorem wi_8_rowsOfGroup : Cond.instanceMethod yX8_rowsOfGroup ∈ W0 := in_t4 (i := 197) rfl rfl
theorem wl_8_rowsOfGroup : Cond.selects RX8 yX8_rowsOfGroup yX8_rowsOfGroup ∈ W0 := in_s (i := 41) rfl rfl
theorem wf0_56 : Cond.fieldLink RX0 56 "BilingualSetter$Edition" "left" "LBilingualSetter$Notes;" ∈ W0 := in_t1 (i := 66) rfl rfl
theorem wm0_60 : Cond.methodLink RX0 60 yX4_before ∈ W0 := in_t3 (i := 123) rfl rfl
theorem wm0_66 : Cond.methodLink RX0 66 yX2_turn ∈ W0 := in_t3 (i := 124) rfl rfl
theorem wf0_70 : Cond.fieldLink RX0 70 "BilingualSetter$Edition" "right" "LBilingualSetter$Notes;" ∈ W0 := in_t1 (i := 69) rfl rfl
theorem wf0_31 : Cond.fieldLink RX0 31 "BilingualSetter$Division" "whole" "LBilingualSetter$Part;" ∈ W0 := in_t1 (i := 230) rfl rfl
theorem wm0_77 : Cond.methodLink RX0 77 yX5_takePair ∈ W0 := in_t3 (i := 125) rfl rfl
theorem wi_5_takePair : Cond.instanceMethod yX5_takePair ∈ W0 := in_t2 (i := 187) rfl rfl
theorem wl_5_takePair : Cond.selects RX5 yX5_takePair yX5_takePair ∈ W0 := in_t2 (i := 188) rfl rfl
theorem wm0_80 : Cond.methodLink RX0 80 yX2_put ∈ W0 := in_t3 (i := 126) rfl rfl
theorem wm0_87 : Cond.methodLink RX0 87 yX2_fits ∈ W0 := in_t3 (i := 127) rfl rfl
theorem wm0_91 : Cond.methodLink RX0 91 yX0_considerGroup ∈ W0 := in_t3 (i := 128) rfl rfl
theorem wi_0_considerGroup : Cond.instanceMethod yX0_considerGroup ∈ W0 := in_t3 (i := 130) rfl rfl
theorem wl_0_considerGroup : Cond.selects RX0 yX0_considerGroup yX0_considerGroup ∈ W0 := in_s (i := 13) rfl rfl
theorem wf0_73 : Cond.fieldLink RX0 73 "BilingualSetter$Edition" "pairs" "[[I" ∈ W0 := in_t1 (i := 63) rfl rfl
theorem wm1_57 : Cond.methodLink RX1 57 yX4_movePairs ∈ W0 := in_t2 (i := 65) rfl rfl
theorem wi_4_movePairs : Cond.instanceMethod yX4_movePairs ∈ W0 := in_t2 (i := 66) rfl rfl
theorem wl_4_movePairs : Cond.selects RX4 yX4_movePairs yX4_movePairs ∈ W0 := in_t2 (i := 67) rfl rfl
theorem wf3_11 : Cond.fieldLink RX3 11 "BilingualSetter$History" "ring" "[LBilingualSetter$Edition;" ∈ W0 := in_t1 (i := 99) rfl rfl
theorem wf3_18 : Cond.fieldLink RX3 18 "BilingualSetter$History" "next" "I" ∈ W0 := in_t1 (i := 98) rfl rfl
theorem wm3_22 : Cond.methodLink RX3 22 yX1_copyFrom ∈ W0 := in_t2 (i := 34) rfl rfl
theorem wi_1_copyFrom : Cond.instanceMethod yX1_copyFrom ∈ W0 := in_t2 (i := 35) rfl rfl
theorem wl_1_copyFrom : Cond.selects RX1 yX1_copyFrom yX1_copyFrom ∈ W0 := in_t2 (i := 36) rfl rfl
theorem wf3_26 : Cond.fieldLink RX3 26 "BilingualSetter$History" "count" "I" ∈ W0 := in_t1 (i := 96) rfl rfl
theorem wm3_29 : Cond.methodLink RX3 29 Lib.Math.min.name ∈ W0 := in_t2 (i := 53) rfl rfl
theorem wm4_39 : Cond.methodLink RX4 39 yX4_movePairs ∈ W0 := in_t2 (i := 102) rfl rfl
theorem wm4_35 : Cond.methodLink RX4 35 yX4_drop ∈ W0 := in_t2 (i := 97) rfl rfl
theorem wi_4_drop : Cond.instanceMethod yX4_drop ∈ W0 := in_t2 (i := 98) rfl rfl
theorem wl_4_drop : Cond.selects RX4 yX4_drop yX4_drop ∈ W0 := in_t2 (i := 99) rfl rfl
theorem wf6_43 : Cond.fieldLink RX6 43 "BilingualSetter$Spreads" "rest" "LBilingualSetter$Part;" ∈ W0 := in_t1 (i := 185) rfl rfl
theorem wm6_104 : Cond.methodLink RX6 104 yX6_addSegment ∈ W0 := in_t3 (i := 3) rfl rfl
theorem wi_6_addSegment : Cond.instanceMethod yX6_addSegment ∈ W0 := in_t3 (i := 5) rfl rfl
theorem wl_6_addSegment : Cond.selects RX6 yX6_addSegment yX6_addSegment ∈ W0 := in_s (i := 7) rfl rfl
theorem wm6_56 : Cond.methodLink RX6 56 yX5_takePair ∈ W0 := in_t2 (i := 186) rfl rfl
theorem wm6_132 : Cond.methodLink RX6 132 Lib.Math.min.name ∈ W0 := in_t3 (i := 17) rfl rfl
theorem wf6_47 : Cond.fieldLink RX6 47 "BilingualSetter$Spreads" "start" "LBilingualSetter$Part;" ∈ W0 := in_t1 (i := 186) rfl rfl
theorem wm6_138 : Cond.methodLink RX6 138 yX5_takeStart ∈ W0 := in_t3 (i := 18) rfl rfl
theorem wi_5_takeStart : Cond.instanceMethod yX5_takeStart ∈ W0 := in_t3 (i := 19) rfl rfl
theorem wl_5_takeStart : Cond.selects RX5 yX5_takeStart yX5_takeStart ∈ W0 := in_t3 (i := 20) rfl rfl
theorem wm6_94 : Cond.methodLink RX6 94 yX6_fits ∈ W0 := in_t2 (i := 208) rfl rfl
theorem wi_6_fits : Cond.instanceMethod yX6_fits ∈ W0 := in_t2 (i := 210) rfl rfl
theorem wl_6_fits : Cond.selects RX6 yX6_fits yX6_fits ∈ W0 := in_s (i := 5) rfl rfl
theorem wm8_88 : Cond.methodLink RX8 88 yX8_isLine ∈ W0 := in_t4 (i := 39) rfl rfl
theorem wi_8_isLine : Cond.instanceMethod yX8_isLine ∈ W0 := in_t4 (i := 41) rfl rfl
theorem wl_8_isLine : Cond.selects RX8 yX8_isLine yX8_isLine ∈ W0 := in_s (i := 19) rfl rfl
theorem wm8_127 : Cond.methodLink RX8 127 yX8_fitsOn ∈ W0 := in_t4 (i := 95) rfl rfl
theorem wi_8_fitsOn : Cond.instanceMethod yX8_fitsOn ∈ W0 := in_t4 (i := 97) rfl rfl
theorem wl_8_fitsOn : Cond.selects RX8 yX8_fitsOn yX8_fitsOn ∈ W0 := in_s (i := 25) rfl rfl
theorem wf8_56 : Cond.fieldLink RX8 56 "BilingualSetterModel" "best" "[I" ∈ W0 := in_t3 (i := 191) rfl rfl
theorem wf8_59 : Cond.fieldLink RX8 59 "BilingualSetterModel" "next" "[I" ∈ W0 := in_t3 (i := 192) rfl rfl
theorem wm8_166 : Cond.methodLink RX8 166 yX8_isGroup ∈ W0 := in_t4 (i := 191) rfl rfl
theorem wi_8_isGroup : Cond.instanceMethod yX8_isGroup ∈ W0 := in_t4 (i := 193) rfl rfl
theorem wl_8_isGroup : Cond.selects RX8 yX8_isGroup yX8_isGroup ∈ W0 := in_s (i := 40) rfl rfl
theorem wf0_35 : Cond.fieldLink RX0 35 "BilingualSetter$Division" "isSearched" "Z" ∈ W0 := in_t1 (i := 220) rfl rfl
theorem wf0_49 : Cond.fieldLink RX0 49 "BilingualSetter$Division" "groups" "I" ∈ W0 := in_t1 (i := 222) rfl rfl
theorem wm0_52 : Cond.methodLink RX0 52 yX0_isAllowed ∈ W0 := in_t3 (i := 137) rfl rfl
theorem wi_0_isAllowed : Cond.instanceMethod yX0_isAllowed ∈ W0 := in_t3 (i := 138) rfl rfl
theorem wl_0_isAllowed : Cond.selects RX0 yX0_isAllowed yX0_isAllowed ∈ W0 := in_t3 (i := 139) rfl rfl
theorem wf0_9 : Cond.fieldLink RX0 9 "BilingualSetter$Division" "firstPairs" "[I" ∈ W0 := in_t1 (i := 224) rfl rfl
theorem wm0_45 : Cond.methodLink RX0 45 yX0_searchFrom ∈ W0 := in_t3 (i := 119) rfl rfl
theorem wi_0_searchFrom : Cond.instanceMethod yX0_searchFrom ∈ W0 := in_t3 (i := 121) rfl rfl
theorem wl_0_searchFrom : Cond.selects RX0 yX0_searchFrom yX0_searchFrom ∈ W0 := in_s (i := 12) rfl rfl
theorem wm1_64 : Cond.methodLink RX1 64 yX4_dropPair ∈ W0 := in_t2 (i := 93) rfl rfl
theorem wi_4_dropPair : Cond.instanceMethod yX4_dropPair ∈ W0 := in_t2 (i := 94) rfl rfl
theorem wl_4_dropPair : Cond.selects RX4 yX4_dropPair yX4_dropPair ∈ W0 := in_t2 (i := 95) rfl rfl
theorem wm6_67 : Cond.methodLink RX6 67 yX1_hasPair ∈ W0 := in_t2 (i := 195) rfl rfl
theorem wf6_91 : Cond.fieldLink RX6 91 "BilingualSetter$Edition" "pairs" "[[I" ∈ W0 := in_t1 (i := 62) rfl rfl
theorem wm6_98 : Cond.methodLink RX6 98 yX6_putRest ∈ W0 := in_t2 (i := 239) rfl rfl
theorem wi_6_putRest : Cond.instanceMethod yX6_putRest ∈ W0 := in_t3 (i := 1) rfl rfl
theorem wl_6_putRest : Cond.selects RX6 yX6_putRest yX6_putRest ∈ W0 := in_s (i := 6) rfl rfl
theorem wm6_101 : Cond.methodLink RX6 101 yX6_findStart ∈ W0 := in_t3 (i := 13) rfl rfl
theorem wi_6_findStart : Cond.instanceMethod yX6_findStart ∈ W0 := in_t3 (i := 15) rfl rfl
theorem wl_6_findStart : Cond.selects RX6 yX6_findStart yX6_findStart ∈ W0 := in_s (i := 8) rfl rfl
theorem wm6_108 : Cond.methodLink RX6 108 yX5_dropStart ∈ W0 := in_t3 (i := 23) rfl rfl
theorem wi_5_dropStart : Cond.instanceMethod yX5_dropStart ∈ W0 := in_t3 (i := 24) rfl rfl
theorem wl_5_dropStart : Cond.selects RX5 yX5_dropStart yX5_dropStart ∈ W0 := in_t3 (i := 25) rfl rfl
theorem wm6_88 : Cond.methodLink RX6 88 yX5_isBegun ∈ W0 := in_t2 (i := 204) rfl rfl
theorem wi_5_isBegun : Cond.instanceMethod yX5_isBegun ∈ W0 := in_t2 (i := 205) rfl rfl
theorem wl_5_isBegun : Cond.selects RX5 yX5_isBegun yX5_isBegun ∈ W0 := in_t2 (i := 206) rfl rfl
theorem wf7_19 : Cond.fieldLink RX7 19 "BilingualSetter" "history" "LBilingualSetter$History;" ∈ W0 := in_t2 (i := 7) rfl rfl
theorem wf7_104 : Cond.fieldLink RX7 104 "BilingualSetter$History" "count" "I" ∈ W0 := in_t1 (i := 97) rfl rfl
theorem wm7_105 : Cond.methodLink RX7 105 yX3_restore ∈ W0 := in_t2 (i := 158) rfl rfl
theorem wi_3_restore : Cond.instanceMethod yX3_restore ∈ W0 := in_t2 (i := 159) rfl rfl
theorem wl_3_restore : Cond.selects RX3 yX3_restore yX3_restore ∈ W0 := in_t2 (i := 160) rfl rfl
theorem wm7_109 : Cond.methodLink RX7 109 yX7_forgetResults ∈ W0 := in_t2 (i := 54) rfl rfl
theorem wi_7_forgetResults : Cond.instanceMethod yX7_forgetResults ∈ W0 := in_t2 (i := 56) rfl rfl
theorem wl_7_forgetResults : Cond.selects RX7 yX7_forgetResults yX7_forgetResults ∈ W0 := in_s (i := 1) rfl rfl
theorem wm7_185 : Cond.methodLink RX7 185 yX3_record ∈ W0 := in_t2 (i := 30) rfl rfl
theorem wi_3_record : Cond.instanceMethod yX3_record ∈ W0 := in_t2 (i := 31) rfl rfl
theorem wl_3_record : Cond.selects RX3 yX3_record yX3_record ∈ W0 := in_t2 (i := 32) rfl rfl
theorem wm8_131 : Cond.methodLink RX8 131 yX8_fits ∈ W0 := in_t4 (i := 91) rfl rfl
theorem wi_8_fits : Cond.instanceMethod yX8_fits ∈ W0 := in_t4 (i := 93) rfl rfl
theorem wl_8_fits : Cond.selects RX8 yX8_fits yX8_fits ∈ W0 := in_s (i := 24) rfl rfl
theorem wm8_134 : Cond.methodLink RX8 134 yX8_puts ∈ W0 := in_t4 (i := 123) rfl rfl
theorem wi_8_puts : Cond.instanceMethod yX8_puts ∈ W0 := in_t4 (i := 125) rfl rfl
theorem wl_8_puts : Cond.selects RX8 yX8_puts yX8_puts ∈ W0 := in_s (i := 32) rfl rfl
theorem wm8_169 : Cond.methodLink RX8 169 yX8_divides ∈ W0 := in_t4 (i := 187) rfl rfl
theorem wi_8_divides : Cond.instanceMethod yX8_divides ∈ W0 := in_t4 (i := 189) rfl rfl
theorem wl_8_divides : Cond.selects RX8 yX8_divides yX8_divides ∈ W0 := in_s (i := 39) rfl rfl
theorem wm6_81 : Cond.methodLink RX6 81 yX6_endSpread ∈ W0 := in_t3 (i := 27) rfl rfl
theorem wi_6_endSpread : Cond.instanceMethod yX6_endSpread ∈ W0 := in_t3 (i := 29) rfl rfl
theorem wl_6_endSpread : Cond.selects RX6 yX6_endSpread yX6_endSpread ∈ W0 := in_s (i := 9) rfl rfl
theorem wm6_77 : Cond.methodLink RX6 77 yX6_putNext ∈ W0 := in_t2 (i := 200) rfl rfl
theorem wi_6_putNext : Cond.instanceMethod yX6_putNext ∈ W0 := in_t2 (i := 202) rfl rfl
theorem wl_6_putNext : Cond.selects RX6 yX6_putNext yX6_putNext ∈ W0 := in_s (i := 4) rfl rfl
theorem wm6_73 : Cond.methodLink RX6 73 yX6_isCarried ∈ W0 := in_t2 (i := 196) rfl rfl
theorem wi_6_isCarried : Cond.instanceMethod yX6_isCarried ∈ W0 := in_t2 (i := 198) rfl rfl
theorem wl_6_isCarried : Cond.selects RX6 yX6_isCarried yX6_isCarried ∈ W0 := in_s (i := 3) rfl rfl
theorem wm7_45 : Cond.methodLink RX7 45 yX7_beginChange ∈ W0 := in_t2 (i := 26) rfl rfl
theorem wi_7_beginChange : Cond.instanceMethod yX7_beginChange ∈ W0 := in_t2 (i := 28) rfl rfl
theorem wl_7_beginChange : Cond.selects RX7 yX7_beginChange yX7_beginChange ∈ W0 := in_s (i := 0) rfl rfl
theorem wm7_48 : Cond.methodLink RX7 48 yX1_placePair ∈ W0 := in_t2 (i := 58) rfl rfl
theorem wi_1_placePair : Cond.instanceMethod yX1_placePair ∈ W0 := in_t2 (i := 59) rfl rfl
theorem wl_1_placePair : Cond.selects RX1 yX1_placePair yX1_placePair ∈ W0 := in_t2 (i := 60) rfl rfl
theorem wm7_56 : Cond.methodLink RX7 56 yX1_dropPair ∈ W0 := in_t2 (i := 86) rfl rfl
theorem wi_1_dropPair : Cond.instanceMethod yX1_dropPair ∈ W0 := in_t2 (i := 87) rfl rfl
theorem wl_1_dropPair : Cond.selects RX1 yX1_dropPair yX1_dropPair ∈ W0 := in_t2 (i := 88) rfl rfl
theorem wm7_77 : Cond.methodLink RX7 77 yX1_hasLine ∈ W0 := in_t2 (i := 130) rfl rfl
theorem wi_1_hasLine : Cond.instanceMethod yX1_hasLine ∈ W0 := in_t2 (i := 131) rfl rfl
theorem wl_1_hasLine : Cond.selects RX1 yX1_hasLine yX1_hasLine ∈ W0 := in_t2 (i := 132) rfl rfl
theorem wf7_80 : Cond.fieldLink RX7 80 "BilingualSetter$Edition" "left" "LBilingualSetter$Notes;" ∈ W0 := in_t1 (i := 67) rfl rfl
theorem wf7_85 : Cond.fieldLink RX7 85 "BilingualSetter$Edition" "right" "LBilingualSetter$Notes;" ∈ W0 := in_t1 (i := 70) rfl rfl
theorem wm7_88 : Cond.methodLink RX7 88 yX4_place ∈ W0 := in_t2 (i := 136) rfl rfl
theorem wi_4_place : Cond.instanceMethod yX4_place ∈ W0 := in_t2 (i := 137) rfl rfl
theorem wl_4_place : Cond.selects RX4 yX4_place yX4_place ∈ W0 := in_t2 (i := 138) rfl rfl
theorem wm7_91 : Cond.methodLink RX7 91 yX4_drop ∈ W0 := in_t2 (i := 145) rfl rfl
theorem wf7_94 : Cond.fieldLink RX7 94 "BilingualSetter" "LOWEST" "[I" ∈ W0 := in_t2 (i := 150) rfl rfl
theorem wf7_98 : Cond.fieldLink RX7 98 "BilingualSetter" "HIGHEST" "[I" ∈ W0 := in_t2 (i := 152) rfl rfl
theorem wf7_101 : Cond.fieldLink RX7 101 "BilingualSetter$Edition" "settings" "[I" ∈ W0 := in_t1 (i := 75) rfl rfl
theorem wm7_163 : Cond.methodLink RX7 163 yX0_search ∈ W0 := in_t3 (i := 115) rfl rfl
theorem wi_0_search : Cond.instanceMethod yX0_search ∈ W0 := in_t3 (i := 116) rfl rfl
theorem wl_0_search : Cond.selects RX0 yX0_search yX0_search ∈ W0 := in_t3 (i := 117) rfl rfl
theorem wm7_166 : Cond.methodLink RX7 166 yX0_isAllowed ∈ W0 := in_t3 (i := 141) rfl rfl
theorem wf7_170 : Cond.fieldLink RX7 170 "BilingualSetter$Division" "costs" "[I" ∈ W0 := in_t1 (i := 227) rfl rfl
theorem wf7_173 : Cond.fieldLink RX7 173 "BilingualSetter$Division" "groups" "I" ∈ W0 := in_t1 (i := 223) rfl rfl
theorem wf7_176 : Cond.fieldLink RX7 176 "BilingualSetter$Division" "firstPairs" "[I" ∈ W0 := in_t1 (i := 225) rfl rfl
theorem wf8_37 : Cond.fieldLink RX8 37 "BilingualSetterModel" "isOver" "[Z" ∈ W0 := in_t3 (i := 184) rfl rfl
theorem wm8_137 : Cond.methodLink RX8 137 yX8_splits ∈ W0 := in_t4 (i := 127) rfl rfl
theorem wi_8_splits : Cond.instanceMethod yX8_splits ∈ W0 := in_t4 (i := 129) rfl rfl
theorem wl_8_splits : Cond.selects RX8 yX8_splits yX8_splits ∈ W0 := in_s (i := 33) rfl rfl
theorem wm7_67 : Cond.methodLink RX7 67 yX4_standFrom ∈ W0 := in_t2 (i := 114) rfl rfl
theorem wi_4_standFrom : Cond.instanceMethod yX4_standFrom ∈ W0 := in_t2 (i := 115) rfl rfl
theorem wl_4_standFrom : Cond.selects RX4 yX4_standFrom yX4_standFrom ∈ W0 := in_t2 (i := 116) rfl rfl
theorem wm7_73 : Cond.methodLink RX7 73 yX7_changePair ∈ W0 := in_t2 (i := 118) rfl rfl
theorem wi_7_changePair : Cond.instanceMethod yX7_changePair ∈ W0 := in_t2 (i := 120) rfl rfl
theorem wl_7_changePair : Cond.selects RX7 yX7_changePair yX7_changePair ∈ W0 := in_s (i := 2) rfl rfl
theorem wm7_119 : Cond.methodLink RX7 119 yX6_arrange ∈ W0 := in_t2 (i := 182) rfl rfl
theorem wi_6_arrange : Cond.instanceMethod yX6_arrange ∈ W0 := in_t2 (i := 183) rfl rfl
theorem wl_6_arrange : Cond.selects RX6 yX6_arrange yX6_arrange ∈ W0 := in_t2 (i := 184) rfl rfl
theorem wf7_123 : Cond.fieldLink RX7 123 "BilingualSetter$Spreads" "count" "I" ∈ W0 := in_t1 (i := 173) rfl rfl
theorem wm7_124 : Cond.methodLink RX7 124 yX6_has ∈ W0 := in_t3 (i := 41) rfl rfl
theorem wi_6_has : Cond.instanceMethod yX6_has ∈ W0 := in_t3 (i := 42) rfl rfl
theorem wl_6_has : Cond.selects RX6 yX6_has yX6_has ∈ W0 := in_t3 (i := 43) rfl rfl
theorem wm7_127 : Cond.methodLink RX7 127 yX6_segmentsOf ∈ W0 := in_t3 (i := 46) rfl rfl
theorem wi_6_segmentsOf : Cond.instanceMethod yX6_segmentsOf ∈ W0 := in_t3 (i := 47) rfl rfl
theorem wl_6_segmentsOf : Cond.selects RX6 yX6_segmentsOf yX6_segmentsOf ∈ W0 := in_t3 (i := 48) rfl rfl
theorem wf7_131 : Cond.fieldLink RX7 131 "BilingualSetter$Spreads" "segments" "[[I" ∈ W0 := in_t1 (i := 179) rfl rfl
theorem wf7_134 : Cond.fieldLink RX7 134 "BilingualSetter$Spreads" "firstSegment" "[I" ∈ W0 := in_t1 (i := 175) rfl rfl
theorem wf7_137 : Cond.fieldLink RX7 137 "BilingualSetter$Spreads" "pages" "[[I" ∈ W0 := in_t1 (i := 181) rfl rfl
theorem wf7_140 : Cond.fieldLink RX7 140 "BilingualSetter$Spreads" "overfull" "[I" ∈ W0 := in_t1 (i := 177) rfl rfl
theorem wm7_143 : Cond.methodLink RX7 143 yX6_segmentWith ∈ W0 := in_t3 (i := 66) rfl rfl
theorem wi_6_segmentWith : Cond.instanceMethod yX6_segmentWith ∈ W0 := in_t3 (i := 67) rfl rfl
theorem wl_6_segmentWith : Cond.selects RX6 yX6_segmentWith yX6_segmentWith ∈ W0 := in_t3 (i := 68) rfl rfl
theorem wm7_146 : Cond.methodLink RX7 146 yX6_spreadWith ∈ W0 := in_t3 (i := 74) rfl rfl
theorem wi_6_spreadWith : Cond.instanceMethod yX6_spreadWith ∈ W0 := in_t3 (i := 75) rfl rfl
theorem wl_6_spreadWith : Cond.selects RX6 yX6_spreadWith yX6_spreadWith ∈ W0 := in_t3 (i := 76) rfl rfl
theorem wm7_149 : Cond.methodLink RX7 149 yX6_rowIn ∈ W0 := in_t3 (i := 82) rfl rfl
theorem wi_6_rowIn : Cond.instanceMethod yX6_rowIn ∈ W0 := in_t3 (i := 83) rfl rfl
theorem wl_6_rowIn : Cond.selects RX6 yX6_rowIn yX6_rowIn ∈ W0 := in_t3 (i := 84) rfl rfl
theorem wm7_152 : Cond.methodLink RX7 152 yX6_textAt ∈ W0 := in_t3 (i := 90) rfl rfl
theorem wi_6_textAt : Cond.instanceMethod yX6_textAt ∈ W0 := in_t3 (i := 91) rfl rfl
theorem wl_6_textAt : Cond.selects RX6 yX6_textAt yX6_textAt ∈ W0 := in_t3 (i := 92) rfl rfl
theorem wm7_155 : Cond.methodLink RX7 155 yX6_noteAt ∈ W0 := in_t3 (i := 94) rfl rfl
theorem wi_6_noteAt : Cond.instanceMethod yX6_noteAt ∈ W0 := in_t3 (i := 95) rfl rfl
theorem wl_6_noteAt : Cond.selects RX6 yX6_noteAt yX6_noteAt ∈ W0 := in_t3 (i := 96) rfl rfl
theorem wm7_159 : Cond.methodLink RX7 159 yX6_blankSquares ∈ W0 := in_t3 (i := 107) rfl rfl
theorem wi_6_blankSquares : Cond.instanceMethod yX6_blankSquares ∈ W0 := in_t3 (i := 108) rfl rfl
theorem wl_6_blankSquares : Cond.selects RX6 yX6_blankSquares yX6_blankSquares ∈ W0 := in_t3 (i := 109) rfl rfl
theorem wm7_179 : Cond.methodLink RX7 179 yX6_overfullSpreads ∈ W0 := in_t3 (i := 154) rfl rfl
theorem wi_6_overfullSpreads : Cond.instanceMethod yX6_overfullSpreads ∈ W0 := in_t3 (i := 155) rfl rfl
theorem wl_6_overfullSpreads : Cond.selects RX6 yX6_overfullSpreads yX6_overfullSpreads ∈ W0 := in_t3 (i := 156) rfl rfl
theorem wm7_182 : Cond.methodLink RX7 182 yX6_splitSegments ∈ W0 := in_t3 (i := 162) rfl rfl
theorem wi_6_splitSegments : Cond.instanceMethod yX6_splitSegments ∈ W0 := in_t3 (i := 163) rfl rfl
theorem wl_6_splitSegments : Cond.selects RX6 yX6_splitSegments yX6_splitSegments ∈ W0 := in_t3 (i := 164) rfl rfl
theorem wm8_144 : Cond.methodLink RX8 144 yX8_closes ∈ W0 := in_t4 (i := 131) rfl rfl
theorem wi_8_closes : Cond.instanceMethod yX8_closes ∈ W0 := in_t4 (i := 133) rfl rfl
theorem wl_8_closes : Cond.selects RX8 yX8_closes yX8_closes ∈ W0 := in_s (i := 34) rfl rfl
theorem wm8_141 : Cond.methodLink RX8 141 yX8_goesOn ∈ W0 := in_t4 (i := 83) rfl rfl
theorem wi_8_goesOn : Cond.instanceMethod yX8_goesOn ∈ W0 := in_t4 (i := 85) rfl rfl
theorem wl_8_goesOn : Cond.selects RX8 yX8_goesOn yX8_goesOn ∈ W0 := in_s (i := 22) rfl rfl
theorem wm8_148 : Cond.methodLink RX8 148 yX8_sets ∈ W0 := in_t4 (i := 79) rfl rfl
theorem wi_8_sets : Cond.instanceMethod yX8_sets ∈ W0 := in_t4 (i := 81) rfl rfl
theorem wl_8_sets : Cond.selects RX8 yX8_sets yX8_sets ∈ W0 := in_s (i := 21) rfl rfl
theorem wm8_157 : Cond.methodLink RX8 157 yX8_segmentOf ∈ W0 := in_t4 (i := 163) rfl rfl
theorem wi_8_segmentOf : Cond.instanceMethod yX8_segmentOf ∈ W0 := in_t4 (i := 165) rfl rfl
theorem wl_8_segmentOf : Cond.selects RX8 yX8_segmentOf yX8_segmentOf ∈ W0 := in_s (i := 37) rfl rfl
theorem wm8_154 : Cond.methodLink RX8 154 yX8_blank ∈ W0 := in_t4 (i := 151) rfl rfl
theorem wi_8_blank : Cond.instanceMethod yX8_blank ∈ W0 := in_t4 (i := 153) rfl rfl
theorem wl_8_blank : Cond.selects RX8 yX8_blank yX8_blank ∈ W0 := in_s (i := 36) rfl rfl
theorem wm8_151 : Cond.methodLink RX8 151 yX8_isSpread ∈ W0 := in_t4 (i := 139) rfl rfl
theorem wi_8_isSpread : Cond.instanceMethod yX8_isSpread ∈ W0 := in_t4 (i := 141) rfl rfl
theorem wl_8_isSpread : Cond.selects RX8 yX8_isSpread yX8_isSpread ∈ W0 := in_s (i := 35) rfl rfl
theorem wm8_160 : Cond.methodLink RX8 160 yX8_noteAt ∈ W0 := in_t4 (i := 175) rfl rfl
theorem wi_8_noteAt : Cond.instanceMethod yX8_noteAt ∈ W0 := in_t4 (i := 177) rfl rfl
theorem wl_8_noteAt : Cond.selects RX8 yX8_noteAt yX8_noteAt ∈ W0 := in_s (i := 38) rfl rfl
theorem inX0 : ∀ w ∈ u_ws RX0 TX0 7, w ∈ W0 := by
  intro w hw
  obtain ⟨k, hk, rfl⟩ := List.mem_map.mp hw
  have hk := List.mem_range.mp hk
  match k, hk with
  | 0, _ => exact in_t1 (i := 231) rfl rfl
  | 1, _ => exact in_t1 (i := 233) rfl rfl
  | 2, _ => exact in_t1 (i := 235) rfl rfl
  | 3, _ => exact in_t1 (i := 237) rfl rfl
  | 4, _ => exact in_t1 (i := 239) rfl rfl
  | 5, _ => exact in_t2 (i := 1) rfl rfl
  | 6, _ => exact in_t2 (i := 3) rfl rfl
  | k + 7, hk => exact absurd hk (by omega)
theorem inX1 : ∀ w ∈ u_ws RX1 TX1 5, w ∈ W0 := by
  intro w hw
  obtain ⟨k, hk, rfl⟩ := List.mem_map.mp hw
  have hk := List.mem_range.mp hk
  match k, hk with
  | 0, _ => exact in_t1 (i := 76) rfl rfl
  | 1, _ => exact in_t1 (i := 78) rfl rfl
  | 2, _ => exact in_t1 (i := 80) rfl rfl
  | 3, _ => exact in_t1 (i := 82) rfl rfl
  | 4, _ => exact in_t1 (i := 84) rfl rfl
  | k + 5, hk => exact absurd hk (by omega)
theorem inX2 : ∀ w ∈ u_ws RX2 TX2 7, w ∈ W0 := by
  intro w hw
  obtain ⟨k, hk, rfl⟩ := List.mem_map.mp hw
  have hk := List.mem_range.mp hk
  match k, hk with
  | 0, _ => exact in_t1 (i := 133) rfl rfl
  | 1, _ => exact in_t1 (i := 135) rfl rfl
  | 2, _ => exact in_t1 (i := 137) rfl rfl
  | 3, _ => exact in_t1 (i := 139) rfl rfl
  | 4, _ => exact in_t1 (i := 141) rfl rfl
  | 5, _ => exact in_t1 (i := 143) rfl rfl
  | 6, _ => exact in_t1 (i := 145) rfl rfl
  | k + 7, hk => exact absurd hk (by omega)
theorem inX3 : ∀ w ∈ u_ws RX3 TX3 3, w ∈ W0 := by
  intro w hw
  obtain ⟨k, hk, rfl⟩ := List.mem_map.mp hw
  have hk := List.mem_range.mp hk
  match k, hk with
  | 0, _ => exact in_t1 (i := 100) rfl rfl
  | 1, _ => exact in_t1 (i := 102) rfl rfl
  | 2, _ => exact in_t1 (i := 104) rfl rfl
  | k + 3, hk => exact absurd hk (by omega)
theorem inX4 : ∀ w ∈ u_ws RX4 TX4 2, w ∈ W0 := by
  intro w hw
  obtain ⟨k, hk, rfl⟩ := List.mem_map.mp hw
  have hk := List.mem_range.mp hk
  match k, hk with
  | 0, _ => exact in_t1 (i := 42) rfl rfl
  | 1, _ => exact in_t1 (i := 44) rfl rfl
  | k + 2, hk => exact absurd hk (by omega)
theorem inX5 : ∀ w ∈ u_ws RX5 TX5 3, w ∈ W0 := by
  intro w hw
  obtain ⟨k, hk, rfl⟩ := List.mem_map.mp hw
  have hk := List.mem_range.mp hk
  match k, hk with
  | 0, _ => exact in_t1 (i := 163) rfl rfl
  | 1, _ => exact in_t1 (i := 165) rfl rfl
  | 2, _ => exact in_t1 (i := 167) rfl rfl
  | k + 3, hk => exact absurd hk (by omega)
theorem inX6 : ∀ w ∈ u_ws RX6 TX6 11, w ∈ W0 := by
  intro w hw
  obtain ⟨k, hk, rfl⟩ := List.mem_map.mp hw
  have hk := List.mem_range.mp hk
  match k, hk with
  | 0, _ => exact in_t1 (i := 187) rfl rfl
  | 1, _ => exact in_t1 (i := 189) rfl rfl
  | 2, _ => exact in_t1 (i := 191) rfl rfl
  | 3, _ => exact in_t1 (i := 193) rfl rfl
  | 4, _ => exact in_t1 (i := 195) rfl rfl
  | 5, _ => exact in_t1 (i := 197) rfl rfl
  | 6, _ => exact in_t1 (i := 199) rfl rfl
  | 7, _ => exact in_t1 (i := 201) rfl rfl
  | 8, _ => exact in_t1 (i := 203) rfl rfl
  | 9, _ => exact in_t1 (i := 205) rfl rfl
  | 10, _ => exact in_t1 (i := 207) rfl rfl
  | k + 11, hk => exact absurd hk (by omega)
theorem inX7 : ∀ w ∈ u_ws RX7 TX7 4, w ∈ W0 := by
  intro w hw
  obtain ⟨k, hk, rfl⟩ := List.mem_map.mp hw
  have hk := List.mem_range.mp hk
  match k, hk with
  | 0, _ => exact in_t2 (i := 10) rfl rfl
  | 1, _ => exact in_t2 (i := 12) rfl rfl
  | 2, _ => exact in_t2 (i := 14) rfl rfl
  | 3, _ => exact in_t2 (i := 16) rfl rfl
  | k + 4, hk => exact absurd hk (by omega)
theorem inX8 : ∀ w ∈ u_ws RX8 TX8 21, w ∈ W0 := by
  intro w hw
  obtain ⟨k, hk, rfl⟩ := List.mem_map.mp hw
  have hk := List.mem_range.mp hk
  match k, hk with
  | 0, _ => exact in_t3 (i := 193) rfl rfl
  | 1, _ => exact in_t3 (i := 195) rfl rfl
  | 2, _ => exact in_t3 (i := 197) rfl rfl
  | 3, _ => exact in_t3 (i := 199) rfl rfl
  | 4, _ => exact in_t3 (i := 201) rfl rfl
  | 5, _ => exact in_t3 (i := 203) rfl rfl
  | 6, _ => exact in_t3 (i := 205) rfl rfl
  | 7, _ => exact in_t3 (i := 207) rfl rfl
  | 8, _ => exact in_t3 (i := 209) rfl rfl
  | 9, _ => exact in_t3 (i := 211) rfl rfl
  | 10, _ => exact in_t3 (i := 213) rfl rfl
  | 11, _ => exact in_t3 (i := 215) rfl rfl
  | 12, _ => exact in_t3 (i := 217) rfl rfl
  | 13, _ => exact in_t3 (i := 219) rfl rfl
  | 14, _ => exact in_t3 (i := 221) rfl rfl
  | 15, _ => exact in_t3 (i := 223) rfl rfl
  | 16, _ => exact in_t3 (i := 225) rfl rfl
  | 17, _ => exact in_t3 (i := 227) rfl rfl
  | 18, _ => exact in_t3 (i := 229) rfl rfl
  | 19, _ => exact in_t3 (i := 231) rfl rfl
  | 20, _ => exact in_t3 (i := 233) rfl rfl
  | k + 21, hk => exact absurd hk (by omega)
def M_0_isAllowed : MT := (yX0_isAllowed, cX0_isAllowed, 1, (some .boolean), 1, 0, 0)
def M_0_search : MT := (yX0_search, cX0_search, 3, none, 5, 0, 0)
def M_0_searchFrom : MT := (yX0_searchFrom, cX0_searchFrom, 4, none, 4, 0, 0)
def M_0_considerGroup : MT := (yX0_considerGroup, cX0_considerGroup, 5, none, 3, 0, 0)
def M_0_blankSquares : MT := (yX0_blankSquares, cX0_blankSquares, 5, (some .int), 2, 0, 0)
def M_1_notes : MT := (yX1_notes, cX1_notes, 2, (some (.object "BilingualSetter$Notes")), 1, 0, 0)
def M_1_hasPair : MT := (yX1_hasPair, cX1_hasPair, 2, (some .boolean), 2, 0, 0)
def M_1_hasLine : MT := (yX1_hasLine, cX1_hasLine, 4, (some .boolean), 3, 0, 0)
def M_1_placePair : MT := (yX1_placePair, cX1_placePair, 5, none, 4, 0, 0)
def M_1_dropPair : MT := (yX1_dropPair, cX1_dropPair, 3, none, 5, 0, 0)
def M_1_copyFrom : MT := (yX1_copyFrom, cX1_copyFrom, 2, none, 3, 0, 0)
def M_2_turn : MT := (yX2_turn, cX2_turn, 4, none, 1, 0, 0)
def M_2_copyFrom : MT := (yX2_copyFrom, cX2_copyFrom, 2, none, 1, 0, 0)
def M_2_put : MT := (yX2_put, cX2_put, 8, none, 2, 0, 0)
def M_2_noteRows : MT := (yX2_noteRows, cX2_noteRows, 5, (some .int), 1, 0, 0)
def M_2_mostCarried : MT := (yX2_mostCarried, cX2_mostCarried, 3, (some .int), 1, 0, 0)
def M_2_fits : MT := (yX2_fits, cX2_fits, 5, (some .boolean), 2, 0, 0)
def M_2_carriedFrom : MT := (yX2_carriedFrom, cX2_carriedFrom, 6, (some .int), 2, 0, 0)
def M_3_record : MT := (yX3_record, cX3_record, 3, none, 4, 0, 0)
def M_3_restore : MT := (yX3_restore, cX3_restore, 3, none, 4, 0, 0)
def M_4_before : MT := (yX4_before, cX4_before, 3, (some .int), 2, 0, 0)
def M_4_endBefore : MT := (yX4_endBefore, cX4_endBefore, 6, (some .int), 1, 0, 0)
def M_4_standFrom : MT := (yX4_standFrom, cX4_standFrom, 3, (some .boolean), 3, 0, 0)
def M_4_place : MT := (yX4_place, cX4_place, 6, (some .int), 3, 0, 0)
def M_4_drop : MT := (yX4_drop, cX4_drop, 3, none, 3, 0, 0)
def M_4_dropPair : MT := (yX4_dropPair, cX4_dropPair, 4, none, 4, 0, 0)
def M_4_movePairs : MT := (yX4_movePairs, cX4_movePairs, 4, none, 3, 0, 0)
def M_4_copyFrom : MT := (yX4_copyFrom, cX4_copyFrom, 2, none, 2, 0, 0)
def M_5_takePair : MT := (yX5_takePair, cX5_takePair, 4, none, 3, 0, 0)
def M_5_takeStart : MT := (yX5_takeStart, cX5_takeStart, 4, none, 1, 0, 0)
def M_5_dropStart : MT := (yX5_dropStart, cX5_dropStart, 3, none, 1, 0, 0)
def M_5_isBegun : MT := (yX5_isBegun, cX5_isBegun, 1, (some .boolean), 1, 0, 0)
def M_6_arrange : MT := (yX6_arrange, cX6_arrange, 6, none, 6, 0, 0)
def M_6_isCarried : MT := (yX6_isCarried, cX6_isCarried, 1, (some .boolean), 1, 0, 0)
def M_6_putNext : MT := (yX6_putNext, cX6_putNext, 3, (some .boolean), 5, 0, 0)
def M_6_putRest : MT := (yX6_putRest, cX6_putRest, 2, none, 4, 0, 0)
def M_6_fits : MT := (yX6_fits, cX6_fits, 3, (some .boolean), 3, 0, 0)
def M_6_findStart : MT := (yX6_findStart, cX6_findStart, 8, (some .boolean), 4, 0, 0)
def M_6_addSegment : MT := (yX6_addSegment, cX6_addSegment, 5, none, 3, 0, 0)
def M_6_endSpread : MT := (yX6_endSpread, cX6_endSpread, 6, none, 3, 0, 0)
def M_6_has : MT := (yX6_has, cX6_has, 2, (some .boolean), 2, 0, 0)
def M_6_segmentsOf : MT := (yX6_segmentsOf, cX6_segmentsOf, 2, (some .int), 1, 0, 0)
def M_6_segmentWith : MT := (yX6_segmentWith, cX6_segmentWith, 5, (some .int), 3, 0, 0)
def M_6_contains : MT := (yX6_contains, cX6_contains, 6, (some .boolean), 2, 0, 0)
def M_6_spreadWith : MT := (yX6_spreadWith, cX6_spreadWith, 3, (some .int), 1, 0, 0)
def M_6_rowIn : MT := (yX6_rowIn, cX6_rowIn, 4, (some .int), 1, 0, 0)
def M_6_textAt : MT := (yX6_textAt, cX6_textAt, 7, (some .int), 2, 0, 0)
def M_6_noteAt : MT := (yX6_noteAt, cX6_noteAt, 9, (some .int), 2, 0, 0)
def M_6_noteLine : MT := (yX6_noteLine, cX6_noteLine, 9, (some .int), 1, 0, 0)
def M_6_blankSquares : MT := (yX6_blankSquares, cX6_blankSquares, 3, (some .int), 1, 0, 0)
def M_6_overfullSpreads : MT := (yX6_overfullSpreads, cX6_overfullSpreads, 3, (some .int), 1, 0, 0)
def M_6_splitSegments : MT := (yX6_splitSegments, cX6_splitSegments, 3, (some .int), 1, 0, 0)
def M_7_insert : MT := (yX7_insert, cX7_insert, 4, (some .int), 6, 0, 0)
def M_7_remove : MT := (yX7_remove, cX7_remove, 2, (some .int), 6, 0, 0)
def M_7_setLines : MT := (yX7_setLines, cX7_setLines, 4, (some .int), 7, 0, 0)
def M_7_setFlag : MT := (yX7_setFlag, cX7_setFlag, 4, (some .int), 7, 0, 0)
def M_7_addNote : MT := (yX7_addNote, cX7_addNote, 5, (some .int), 6, 0, 0)
def M_7_removeNote : MT := (yX7_removeNote, cX7_removeNote, 4, (some .int), 6, 0, 0)
def M_7_set : MT := (yX7_set, cX7_set, 4, (some .int), 6, 0, 0)
def M_7_undo : MT := (yX7_undo, cX7_undo, 1, (some .int), 5, 0, 0)
def M_7_pairCount : MT := (yX7_pairCount, cX7_pairCount, 1, (some .int), 1, 0, 0)
def M_7_pairInfo : MT := (yX7_pairInfo, cX7_pairInfo, 3, (some .int), 3, 0, 0)
def M_7_noteCount : MT := (yX7_noteCount, cX7_noteCount, 2, (some .int), 3, 0, 0)
def M_7_noteInfo : MT := (yX7_noteInfo, cX7_noteInfo, 5, (some .int), 3, 0, 0)
def M_7_spreadCount : MT := (yX7_spreadCount, cX7_spreadCount, 1, (some .int), 7, 0, 0)
def M_7_segmentCount : MT := (yX7_segmentCount, cX7_segmentCount, 2, (some .int), 7, 0, 0)
def M_7_segmentInfo : MT := (yX7_segmentInfo, cX7_segmentInfo, 4, (some .int), 7, 0, 0)
def M_7_pageInfo : MT := (yX7_pageInfo, cX7_pageInfo, 4, (some .int), 7, 0, 0)
def M_7_isOverfull : MT := (yX7_isOverfull, cX7_isOverfull, 2, (some .int), 7, 0, 0)
def M_7_spreadOf : MT := (yX7_spreadOf, cX7_spreadOf, 4, (some .int), 7, 0, 0)
def M_7_rowOf : MT := (yX7_rowOf, cX7_rowOf, 4, (some .int), 7, 0, 0)
def M_7_shown : MT := (yX7_shown, cX7_shown, 5, (some .int), 7, 0, 0)
def M_7_cost : MT := (yX7_cost, cX7_cost, 1, (some .int), 7, 0, 0)
def M_7_bestCost : MT := (yX7_bestCost, cX7_bestCost, 1, (some .int), 6, 0, 0)
def M_7_bestBreak : MT := (yX7_bestBreak, cX7_bestBreak, 2, (some .int), 6, 0, 0)
def M_7_leastHeight : MT := (yX7_leastHeight, cX7_leastHeight, 3, (some .int), 7, 0, 0)
def M_7_overfullWith : MT := (yX7_overfullWith, cX7_overfullWith, 2, (some .int), 7, 0, 0)
def M_7_splitPairs : MT := (yX7_splitPairs, cX7_splitPairs, 1, (some .int), 7, 0, 0)
def M_7_changePair : MT := (yX7_changePair, cX7_changePair, 5, (some .int), 6, 0, 0)
def M_7_beginChange : MT := (yX7_beginChange, cX7_beginChange, 1, none, 5, 0, 0)
def M_7_forgetResults : MT := (yX7_forgetResults, cX7_forgetResults, 1, none, 1, 0, 0)
def M_7_isIn : MT := (yX7_isIn, cX7_isIn, 3, (some .boolean), 1, 0, 0)
def M_7_isSide : MT := (yX7_isSide, cX7_isSide, 1, (some .boolean), 2, 0, 0)
def M_7_openPlace : MT := (yX7_openPlace, cX7_openPlace, 3, none, 2, 0, 0)
def M_7_closePlace : MT := (yX7_closePlace, cX7_closePlace, 3, none, 2, 0, 0)
def M_7_copyTable : MT := (yX7_copyTable, cX7_copyTable, 3, none, 1, 0, 0)
def M_8_in : MT := (yX8_in, cX8_in, 3, (some .boolean), 1, 0, 0)
def M_8_isPair : MT := (yX8_isPair, cX8_isPair, 2, (some .boolean), 2, 0, 0)
def M_8_isSide : MT := (yX8_isSide, cX8_isSide, 1, (some .boolean), 2, 0, 0)
def M_8_lines : MT := (yX8_lines, cX8_lines, 3, (some .int), 1, 0, 0)
def M_8_isLine : MT := (yX8_isLine, cX8_isLine, 4, (some .boolean), 3, 0, 0)
def M_8_noteLong : MT := (yX8_noteLong, cX8_noteLong, 3, (some .int), 1, 0, 0)
def M_8_records : MT := (yX8_records, cX8_records, 2, none, 1, 0, 0)
def M_8_insert : MT := (yX8_insert, cX8_insert, 6, (some .int), 2, 0, 0)
def M_8_dropsNote : MT := (yX8_dropsNote, cX8_dropsNote, 4, none, 1, 0, 0)
def M_8_remove : MT := (yX8_remove, cX8_remove, 4, (some .int), 3, 0, 0)
def M_8_setLines : MT := (yX8_setLines, cX8_setLines, 5, (some .int), 3, 0, 0)
def M_8_setFlag : MT := (yX8_setFlag, cX8_setFlag, 5, (some .int), 3, 0, 0)
def M_8_notesAhead : MT := (yX8_notesAhead, cX8_notesAhead, 7, (some .int), 1, 0, 0)
def M_8_addNote : MT := (yX8_addNote, cX8_addNote, 7, (some .int), 4, 0, 0)
def M_8_removeNote : MT := (yX8_removeNote, cX8_removeNote, 3, (some .int), 3, 0, 0)
def M_8_set : MT := (yX8_set, cX8_set, 4, (some .int), 2, 0, 0)
def M_8_undo : MT := (yX8_undo, cX8_undo, 2, (some .int), 1, 0, 0)
def M_8_pairCount : MT := (yX8_pairCount, cX8_pairCount, 1, (some .int), 1, 0, 0)
def M_8_pairInfo : MT := (yX8_pairInfo, cX8_pairInfo, 3, (some .int), 3, 0, 0)
def M_8_noteCount : MT := (yX8_noteCount, cX8_noteCount, 2, (some .int), 3, 0, 0)
def M_8_noteInfo : MT := (yX8_noteInfo, cX8_noteInfo, 4, (some .int), 3, 0, 0)
def M_8_segmentsOfLast : MT := (yX8_segmentsOfLast, cX8_segmentsOfLast, 1, (some .int), 1, 0, 0)
def M_8_rowsOf : MT := (yX8_rowsOf, cX8_rowsOf, 2, (some .int), 1, 0, 0)
def M_8_beginning : MT := (yX8_beginning, cX8_beginning, 6, (some .int), 2, 0, 0)
def M_8_carriedTo : MT := (yX8_carriedTo, cX8_carriedTo, 3, (some .int), 1, 0, 0)
def M_8_notedLines : MT := (yX8_notedLines, cX8_notedLines, 5, (some .int), 2, 0, 0)
def M_8_mostCarried : MT := (yX8_mostCarried, cX8_mostCarried, 4, (some .int), 2, 0, 0)
def M_8_fitsOn : MT := (yX8_fitsOn, cX8_fitsOn, 5, (some .boolean), 3, 0, 0)
def M_8_fits : MT := (yX8_fits, cX8_fits, 3, (some .boolean), 4, 0, 0)
def M_8_puts : MT := (yX8_puts, cX8_puts, 6, none, 3, 0, 0)
def M_8_splits : MT := (yX8_splits, cX8_splits, 5, (some .boolean), 5, 0, 0)
def M_8_goesOn : MT := (yX8_goesOn, cX8_goesOn, 5, (some .boolean), 6, 0, 0)
def M_8_closes : MT := (yX8_closes, cX8_closes, 8, none, 3, 0, 0)
def M_8_sets : MT := (yX8_sets, cX8_sets, 3, none, 7, 0, 0)
def M_8_isSpread : MT := (yX8_isSpread, cX8_isSpread, 2, (some .boolean), 8, 0, 0)
def M_8_spreadCount : MT := (yX8_spreadCount, cX8_spreadCount, 1, (some .int), 8, 0, 0)
def M_8_segmentCount : MT := (yX8_segmentCount, cX8_segmentCount, 2, (some .int), 9, 0, 0)
def M_8_segmentInfo : MT := (yX8_segmentInfo, cX8_segmentInfo, 5, (some .int), 9, 0, 0)
def M_8_blank : MT := (yX8_blank, cX8_blank, 3, (some .int), 2, 0, 0)
def M_8_pageInfo : MT := (yX8_pageInfo, cX8_pageInfo, 5, (some .int), 9, 0, 0)
def M_8_isOverfull : MT := (yX8_isOverfull, cX8_isOverfull, 2, (some .int), 9, 0, 0)
def M_8_segmentOf : MT := (yX8_segmentOf, cX8_segmentOf, 5, (some .int), 1, 0, 0)
def M_8_spreadOf : MT := (yX8_spreadOf, cX8_spreadOf, 6, (some .int), 8, 0, 0)
def M_8_rowOf : MT := (yX8_rowOf, cX8_rowOf, 5, (some .int), 8, 0, 0)
def M_8_noteAt : MT := (yX8_noteAt, cX8_noteAt, 7, (some .int), 2, 0, 0)
def M_8_shown : MT := (yX8_shown, cX8_shown, 7, (some .int), 9, 0, 0)
def M_8_cost : MT := (yX8_cost, cX8_cost, 3, (some .int), 8, 0, 0)
def M_8_rowsOfGroup : MT := (yX8_rowsOfGroup, cX8_rowsOfGroup, 8, (some .int), 2, 0, 0)
def M_8_isGroup : MT := (yX8_isGroup, cX8_isGroup, 5, (some .boolean), 3, 0, 0)
def M_8_divides : MT := (yX8_divides, cX8_divides, 7, none, 4, 0, 0)
def M_8_bestCost : MT := (yX8_bestCost, cX8_bestCost, 1, (some .int), 5, 0, 0)
def M_8_bestBreak : MT := (yX8_bestBreak, cX8_bestBreak, 4, (some .int), 5, 0, 0)
def M_8_leastHeight : MT := (yX8_leastHeight, cX8_leastHeight, 5, (some .int), 8, 0, 0)
def M_8_overfullWith : MT := (yX8_overfullWith, cX8_overfullWith, 5, (some .int), 8, 0, 0)
def M_8_splitPairs : MT := (yX8_splitPairs, cX8_splitPairs, 4, (some .int), 8, 0, 0)
theorem mok_0_isAllowed : MOK M_0_isAllowed := ⟨by decide, wc_0_isAllowed, wn_0, ⟨by decide, by decide⟩, by decide⟩
theorem pn_0_isAllowed : (parseMethodDescriptor (m_y M_0_isAllowed).desc).map (fun d => d.parameters.length) = some 0 := by decide +kernel
theorem mok_0_search : MOK M_0_search := ⟨by decide, wc_0_search, wn_0, ⟨by decide, by decide⟩, by decide⟩
theorem pn_0_search : (parseMethodDescriptor (m_y M_0_search).desc).map (fun d => d.parameters.length) = some 1 := by decide +kernel
theorem mok_0_searchFrom : MOK M_0_searchFrom := ⟨by decide, wc_0_searchFrom, wn_0, ⟨by decide, by decide⟩, by decide⟩
theorem pn_0_searchFrom : (parseMethodDescriptor (m_y M_0_searchFrom).desc).map (fun d => d.parameters.length) = some 2 := by decide +kernel
theorem mok_0_considerGroup : MOK M_0_considerGroup := ⟨by decide, wc_0_considerGroup, wn_0, ⟨by decide, by decide⟩, by decide⟩
theorem pn_0_considerGroup : (parseMethodDescriptor (m_y M_0_considerGroup).desc).map (fun d => d.parameters.length) = some 3 := by decide +kernel
theorem mok_0_blankSquares : MOK M_0_blankSquares := ⟨by decide, wc_0_blankSquares, wn_0, ⟨by decide, by decide⟩, by decide⟩
theorem pn_0_blankSquares : (parseMethodDescriptor (m_y M_0_blankSquares).desc).map (fun d => d.parameters.length) = some 1 := by decide +kernel
theorem mok_1_notes : MOK M_1_notes := ⟨by decide, wc_1_notes, wn_1, ⟨by decide, by decide⟩, by decide⟩
theorem pn_1_notes : (parseMethodDescriptor (m_y M_1_notes).desc).map (fun d => d.parameters.length) = some 1 := by decide +kernel
theorem mok_1_hasPair : MOK M_1_hasPair := ⟨by decide, wc_1_hasPair, wn_1, ⟨by decide, by decide⟩, by decide⟩
theorem pn_1_hasPair : (parseMethodDescriptor (m_y M_1_hasPair).desc).map (fun d => d.parameters.length) = some 1 := by decide +kernel
theorem mok_1_hasLine : MOK M_1_hasLine := ⟨by decide, wc_1_hasLine, wn_1, ⟨by decide, by decide⟩, by decide⟩
theorem pn_1_hasLine : (parseMethodDescriptor (m_y M_1_hasLine).desc).map (fun d => d.parameters.length) = some 3 := by decide +kernel
theorem mok_1_placePair : MOK M_1_placePair := ⟨by decide, wc_1_placePair, wn_1, ⟨by decide, by decide⟩, by decide⟩
theorem pn_1_placePair : (parseMethodDescriptor (m_y M_1_placePair).desc).map (fun d => d.parameters.length) = some 3 := by decide +kernel
theorem mok_1_dropPair : MOK M_1_dropPair := ⟨by decide, wc_1_dropPair, wn_1, ⟨by decide, by decide⟩, by decide⟩
theorem pn_1_dropPair : (parseMethodDescriptor (m_y M_1_dropPair).desc).map (fun d => d.parameters.length) = some 1 := by decide +kernel
theorem mok_1_copyFrom : MOK M_1_copyFrom := ⟨by decide, wc_1_copyFrom, wn_1, ⟨by decide, by decide⟩, by decide⟩
theorem pn_1_copyFrom : (parseMethodDescriptor (m_y M_1_copyFrom).desc).map (fun d => d.parameters.length) = some 1 := by decide +kernel
theorem mok_2_turn : MOK M_2_turn := ⟨by decide, wc_2_turn, wn_2, ⟨by decide, by decide⟩, by decide⟩
theorem pn_2_turn : (parseMethodDescriptor (m_y M_2_turn).desc).map (fun d => d.parameters.length) = some 3 := by decide +kernel
theorem mok_2_copyFrom : MOK M_2_copyFrom := ⟨by decide, wc_2_copyFrom, wn_2, ⟨by decide, by decide⟩, by decide⟩
theorem pn_2_copyFrom : (parseMethodDescriptor (m_y M_2_copyFrom).desc).map (fun d => d.parameters.length) = some 1 := by decide +kernel
theorem mok_2_put : MOK M_2_put := ⟨by decide, wc_2_put, wn_2, ⟨by decide, by decide⟩, by decide⟩
theorem pn_2_put : (parseMethodDescriptor (m_y M_2_put).desc).map (fun d => d.parameters.length) = some 2 := by decide +kernel
theorem mok_2_noteRows : MOK M_2_noteRows := ⟨by decide, wc_2_noteRows, wn_2, ⟨by decide, by decide⟩, by decide⟩
theorem pn_2_noteRows : (parseMethodDescriptor (m_y M_2_noteRows).desc).map (fun d => d.parameters.length) = some 3 := by decide +kernel
theorem mok_2_mostCarried : MOK M_2_mostCarried := ⟨by decide, wc_2_mostCarried, wn_2, ⟨by decide, by decide⟩, by decide⟩
theorem pn_2_mostCarried : (parseMethodDescriptor (m_y M_2_mostCarried).desc).map (fun d => d.parameters.length) = some 2 := by decide +kernel
theorem mok_2_fits : MOK M_2_fits := ⟨by decide, wc_2_fits, wn_2, ⟨by decide, by decide⟩, by decide⟩
theorem pn_2_fits : (parseMethodDescriptor (m_y M_2_fits).desc).map (fun d => d.parameters.length) = some 3 := by decide +kernel
theorem mok_2_carriedFrom : MOK M_2_carriedFrom := ⟨by decide, wc_2_carriedFrom, wn_2, ⟨by decide, by decide⟩, by decide⟩
theorem pn_2_carriedFrom : (parseMethodDescriptor (m_y M_2_carriedFrom).desc).map (fun d => d.parameters.length) = some 3 := by decide +kernel
theorem mok_3_record : MOK M_3_record := ⟨by decide, wc_3_record, wn_3, ⟨by decide, by decide⟩, by decide⟩
theorem pn_3_record : (parseMethodDescriptor (m_y M_3_record).desc).map (fun d => d.parameters.length) = some 1 := by decide +kernel
theorem mok_3_restore : MOK M_3_restore := ⟨by decide, wc_3_restore, wn_3, ⟨by decide, by decide⟩, by decide⟩
theorem pn_3_restore : (parseMethodDescriptor (m_y M_3_restore).desc).map (fun d => d.parameters.length) = some 1 := by decide +kernel
theorem mok_4_before : MOK M_4_before := ⟨by decide, wc_4_before, wn_4, ⟨by decide, by decide⟩, by decide⟩
theorem pn_4_before : (parseMethodDescriptor (m_y M_4_before).desc).map (fun d => d.parameters.length) = some 2 := by decide +kernel
theorem mok_4_endBefore : MOK M_4_endBefore := ⟨by decide, wc_4_endBefore, wn_4, ⟨by decide, by decide⟩, by decide⟩
theorem pn_4_endBefore : (parseMethodDescriptor (m_y M_4_endBefore).desc).map (fun d => d.parameters.length) = some 3 := by decide +kernel
theorem mok_4_standFrom : MOK M_4_standFrom := ⟨by decide, wc_4_standFrom, wn_4, ⟨by decide, by decide⟩, by decide⟩
theorem pn_4_standFrom : (parseMethodDescriptor (m_y M_4_standFrom).desc).map (fun d => d.parameters.length) = some 2 := by decide +kernel
theorem mok_4_place : MOK M_4_place := ⟨by decide, wc_4_place, wn_4, ⟨by decide, by decide⟩, by decide⟩
theorem pn_4_place : (parseMethodDescriptor (m_y M_4_place).desc).map (fun d => d.parameters.length) = some 3 := by decide +kernel
theorem mok_4_drop : MOK M_4_drop := ⟨by decide, wc_4_drop, wn_4, ⟨by decide, by decide⟩, by decide⟩
theorem pn_4_drop : (parseMethodDescriptor (m_y M_4_drop).desc).map (fun d => d.parameters.length) = some 1 := by decide +kernel
theorem mok_4_dropPair : MOK M_4_dropPair := ⟨by decide, wc_4_dropPair, wn_4, ⟨by decide, by decide⟩, by decide⟩
theorem pn_4_dropPair : (parseMethodDescriptor (m_y M_4_dropPair).desc).map (fun d => d.parameters.length) = some 1 := by decide +kernel
theorem mok_4_movePairs : MOK M_4_movePairs := ⟨by decide, wc_4_movePairs, wn_4, ⟨by decide, by decide⟩, by decide⟩
theorem pn_4_movePairs : (parseMethodDescriptor (m_y M_4_movePairs).desc).map (fun d => d.parameters.length) = some 2 := by decide +kernel
theorem mok_4_copyFrom : MOK M_4_copyFrom := ⟨by decide, wc_4_copyFrom, wn_4, ⟨by decide, by decide⟩, by decide⟩
theorem pn_4_copyFrom : (parseMethodDescriptor (m_y M_4_copyFrom).desc).map (fun d => d.parameters.length) = some 1 := by decide +kernel
theorem mok_5_takePair : MOK M_5_takePair := ⟨by decide, wc_5_takePair, wn_5, ⟨by decide, by decide⟩, by decide⟩
theorem pn_5_takePair : (parseMethodDescriptor (m_y M_5_takePair).desc).map (fun d => d.parameters.length) = some 2 := by decide +kernel
theorem mok_5_takeStart : MOK M_5_takeStart := ⟨by decide, wc_5_takeStart, wn_5, ⟨by decide, by decide⟩, by decide⟩
theorem pn_5_takeStart : (parseMethodDescriptor (m_y M_5_takeStart).desc).map (fun d => d.parameters.length) = some 3 := by decide +kernel
theorem mok_5_dropStart : MOK M_5_dropStart := ⟨by decide, wc_5_dropStart, wn_5, ⟨by decide, by decide⟩, by decide⟩
theorem pn_5_dropStart : (parseMethodDescriptor (m_y M_5_dropStart).desc).map (fun d => d.parameters.length) = some 1 := by decide +kernel
theorem mok_5_isBegun : MOK M_5_isBegun := ⟨by decide, wc_5_isBegun, wn_5, ⟨by decide, by decide⟩, by decide⟩
theorem pn_5_isBegun : (parseMethodDescriptor (m_y M_5_isBegun).desc).map (fun d => d.parameters.length) = some 0 := by decide +kernel
theorem mok_6_arrange : MOK M_6_arrange := ⟨by decide, wc_6_arrange, wn_6, ⟨by decide, by decide⟩, by decide⟩
theorem pn_6_arrange : (parseMethodDescriptor (m_y M_6_arrange).desc).map (fun d => d.parameters.length) = some 2 := by decide +kernel
theorem mok_6_isCarried : MOK M_6_isCarried := ⟨by decide, wc_6_isCarried, wn_6, ⟨by decide, by decide⟩, by decide⟩
theorem pn_6_isCarried : (parseMethodDescriptor (m_y M_6_isCarried).desc).map (fun d => d.parameters.length) = some 0 := by decide +kernel
theorem mok_6_putNext : MOK M_6_putNext := ⟨by decide, wc_6_putNext, wn_6, ⟨by decide, by decide⟩, by decide⟩
theorem pn_6_putNext : (parseMethodDescriptor (m_y M_6_putNext).desc).map (fun d => d.parameters.length) = some 1 := by decide +kernel
theorem mok_6_putRest : MOK M_6_putRest := ⟨by decide, wc_6_putRest, wn_6, ⟨by decide, by decide⟩, by decide⟩
theorem pn_6_putRest : (parseMethodDescriptor (m_y M_6_putRest).desc).map (fun d => d.parameters.length) = some 1 := by decide +kernel
theorem mok_6_fits : MOK M_6_fits := ⟨by decide, wc_6_fits, wn_6, ⟨by decide, by decide⟩, by decide⟩
theorem pn_6_fits : (parseMethodDescriptor (m_y M_6_fits).desc).map (fun d => d.parameters.length) = some 2 := by decide +kernel
theorem mok_6_findStart : MOK M_6_findStart := ⟨by decide, wc_6_findStart, wn_6, ⟨by decide, by decide⟩, by decide⟩
theorem pn_6_findStart : (parseMethodDescriptor (m_y M_6_findStart).desc).map (fun d => d.parameters.length) = some 1 := by decide +kernel
theorem mok_6_addSegment : MOK M_6_addSegment := ⟨by decide, wc_6_addSegment, wn_6, ⟨by decide, by decide⟩, by decide⟩
theorem pn_6_addSegment : (parseMethodDescriptor (m_y M_6_addSegment).desc).map (fun d => d.parameters.length) = some 3 := by decide +kernel
theorem mok_6_endSpread : MOK M_6_endSpread := ⟨by decide, wc_6_endSpread, wn_6, ⟨by decide, by decide⟩, by decide⟩
theorem pn_6_endSpread : (parseMethodDescriptor (m_y M_6_endSpread).desc).map (fun d => d.parameters.length) = some 1 := by decide +kernel
theorem mok_6_has : MOK M_6_has := ⟨by decide, wc_6_has, wn_6, ⟨by decide, by decide⟩, by decide⟩
theorem pn_6_has : (parseMethodDescriptor (m_y M_6_has).desc).map (fun d => d.parameters.length) = some 1 := by decide +kernel
theorem mok_6_segmentsOf : MOK M_6_segmentsOf := ⟨by decide, wc_6_segmentsOf, wn_6, ⟨by decide, by decide⟩, by decide⟩
theorem pn_6_segmentsOf : (parseMethodDescriptor (m_y M_6_segmentsOf).desc).map (fun d => d.parameters.length) = some 1 := by decide +kernel
theorem mok_6_segmentWith : MOK M_6_segmentWith := ⟨by decide, wc_6_segmentWith, wn_6, ⟨by decide, by decide⟩, by decide⟩
theorem pn_6_segmentWith : (parseMethodDescriptor (m_y M_6_segmentWith).desc).map (fun d => d.parameters.length) = some 3 := by decide +kernel
theorem mok_6_contains : MOK M_6_contains := ⟨by decide, wc_6_contains, wn_6, ⟨by decide, by decide⟩, by decide⟩
theorem pn_6_contains : (parseMethodDescriptor (m_y M_6_contains).desc).map (fun d => d.parameters.length) = some 4 := by decide +kernel
theorem mok_6_spreadWith : MOK M_6_spreadWith := ⟨by decide, wc_6_spreadWith, wn_6, ⟨by decide, by decide⟩, by decide⟩
theorem pn_6_spreadWith : (parseMethodDescriptor (m_y M_6_spreadWith).desc).map (fun d => d.parameters.length) = some 1 := by decide +kernel
theorem mok_6_rowIn : MOK M_6_rowIn := ⟨by decide, wc_6_rowIn, wn_6, ⟨by decide, by decide⟩, by decide⟩
theorem pn_6_rowIn : (parseMethodDescriptor (m_y M_6_rowIn).desc).map (fun d => d.parameters.length) = some 3 := by decide +kernel
theorem mok_6_textAt : MOK M_6_textAt := ⟨by decide, wc_6_textAt, wn_6, ⟨by decide, by decide⟩, by decide⟩
theorem pn_6_textAt : (parseMethodDescriptor (m_y M_6_textAt).desc).map (fun d => d.parameters.length) = some 3 := by decide +kernel
theorem mok_6_noteAt : MOK M_6_noteAt := ⟨by decide, wc_6_noteAt, wn_6, ⟨by decide, by decide⟩, by decide⟩
theorem pn_6_noteAt : (parseMethodDescriptor (m_y M_6_noteAt).desc).map (fun d => d.parameters.length) = some 4 := by decide +kernel
theorem mok_6_noteLine : MOK M_6_noteLine := ⟨by decide, wc_6_noteLine, wn_6, ⟨by decide, by decide⟩, by decide⟩
theorem pn_6_noteLine : (parseMethodDescriptor (m_y M_6_noteLine).desc).map (fun d => d.parameters.length) = some 3 := by decide +kernel
theorem mok_6_blankSquares : MOK M_6_blankSquares := ⟨by decide, wc_6_blankSquares, wn_6, ⟨by decide, by decide⟩, by decide⟩
theorem pn_6_blankSquares : (parseMethodDescriptor (m_y M_6_blankSquares).desc).map (fun d => d.parameters.length) = some 0 := by decide +kernel
theorem mok_6_overfullSpreads : MOK M_6_overfullSpreads := ⟨by decide, wc_6_overfullSpreads, wn_6, ⟨by decide, by decide⟩, by decide⟩
theorem pn_6_overfullSpreads : (parseMethodDescriptor (m_y M_6_overfullSpreads).desc).map (fun d => d.parameters.length) = some 0 := by decide +kernel
theorem mok_6_splitSegments : MOK M_6_splitSegments := ⟨by decide, wc_6_splitSegments, wn_6, ⟨by decide, by decide⟩, by decide⟩
theorem pn_6_splitSegments : (parseMethodDescriptor (m_y M_6_splitSegments).desc).map (fun d => d.parameters.length) = some 0 := by decide +kernel
theorem mok_7_insert : MOK M_7_insert := ⟨by decide, wc_7_insert, wn_7, ⟨by decide, by decide⟩, by decide⟩
theorem pn_7_insert : (parseMethodDescriptor (m_y M_7_insert).desc).map (fun d => d.parameters.length) = some 3 := by decide +kernel
theorem mok_7_remove : MOK M_7_remove := ⟨by decide, wc_7_remove, wn_7, ⟨by decide, by decide⟩, by decide⟩
theorem pn_7_remove : (parseMethodDescriptor (m_y M_7_remove).desc).map (fun d => d.parameters.length) = some 1 := by decide +kernel
theorem mok_7_setLines : MOK M_7_setLines := ⟨by decide, wc_7_setLines, wn_7, ⟨by decide, by decide⟩, by decide⟩
theorem pn_7_setLines : (parseMethodDescriptor (m_y M_7_setLines).desc).map (fun d => d.parameters.length) = some 3 := by decide +kernel
theorem mok_7_setFlag : MOK M_7_setFlag := ⟨by decide, wc_7_setFlag, wn_7, ⟨by decide, by decide⟩, by decide⟩
theorem pn_7_setFlag : (parseMethodDescriptor (m_y M_7_setFlag).desc).map (fun d => d.parameters.length) = some 3 := by decide +kernel
theorem mok_7_addNote : MOK M_7_addNote := ⟨by decide, wc_7_addNote, wn_7, ⟨by decide, by decide⟩, by decide⟩
theorem pn_7_addNote : (parseMethodDescriptor (m_y M_7_addNote).desc).map (fun d => d.parameters.length) = some 4 := by decide +kernel
theorem mok_7_removeNote : MOK M_7_removeNote := ⟨by decide, wc_7_removeNote, wn_7, ⟨by decide, by decide⟩, by decide⟩
theorem pn_7_removeNote : (parseMethodDescriptor (m_y M_7_removeNote).desc).map (fun d => d.parameters.length) = some 2 := by decide +kernel
theorem mok_7_set : MOK M_7_set := ⟨by decide, wc_7_set, wn_7, ⟨by decide, by decide⟩, by decide⟩
theorem pn_7_set : (parseMethodDescriptor (m_y M_7_set).desc).map (fun d => d.parameters.length) = some 2 := by decide +kernel
theorem mok_7_undo : MOK M_7_undo := ⟨by decide, wc_7_undo, wn_7, ⟨by decide, by decide⟩, by decide⟩
theorem pn_7_undo : (parseMethodDescriptor (m_y M_7_undo).desc).map (fun d => d.parameters.length) = some 0 := by decide +kernel
theorem mok_7_pairCount : MOK M_7_pairCount := ⟨by decide, wc_7_pairCount, wn_7, ⟨by decide, by decide⟩, by decide⟩
theorem pn_7_pairCount : (parseMethodDescriptor (m_y M_7_pairCount).desc).map (fun d => d.parameters.length) = some 0 := by decide +kernel
theorem mok_7_pairInfo : MOK M_7_pairInfo := ⟨by decide, wc_7_pairInfo, wn_7, ⟨by decide, by decide⟩, by decide⟩
theorem pn_7_pairInfo : (parseMethodDescriptor (m_y M_7_pairInfo).desc).map (fun d => d.parameters.length) = some 2 := by decide +kernel
theorem mok_7_noteCount : MOK M_7_noteCount := ⟨by decide, wc_7_noteCount, wn_7, ⟨by decide, by decide⟩, by decide⟩
theorem pn_7_noteCount : (parseMethodDescriptor (m_y M_7_noteCount).desc).map (fun d => d.parameters.length) = some 1 := by decide +kernel
theorem mok_7_noteInfo : MOK M_7_noteInfo := ⟨by decide, wc_7_noteInfo, wn_7, ⟨by decide, by decide⟩, by decide⟩
theorem pn_7_noteInfo : (parseMethodDescriptor (m_y M_7_noteInfo).desc).map (fun d => d.parameters.length) = some 3 := by decide +kernel
theorem mok_7_spreadCount : MOK M_7_spreadCount := ⟨by decide, wc_7_spreadCount, wn_7, ⟨by decide, by decide⟩, by decide⟩
theorem pn_7_spreadCount : (parseMethodDescriptor (m_y M_7_spreadCount).desc).map (fun d => d.parameters.length) = some 0 := by decide +kernel
theorem mok_7_segmentCount : MOK M_7_segmentCount := ⟨by decide, wc_7_segmentCount, wn_7, ⟨by decide, by decide⟩, by decide⟩
theorem pn_7_segmentCount : (parseMethodDescriptor (m_y M_7_segmentCount).desc).map (fun d => d.parameters.length) = some 1 := by decide +kernel
theorem mok_7_segmentInfo : MOK M_7_segmentInfo := ⟨by decide, wc_7_segmentInfo, wn_7, ⟨by decide, by decide⟩, by decide⟩
theorem pn_7_segmentInfo : (parseMethodDescriptor (m_y M_7_segmentInfo).desc).map (fun d => d.parameters.length) = some 3 := by decide +kernel
theorem mok_7_pageInfo : MOK M_7_pageInfo := ⟨by decide, wc_7_pageInfo, wn_7, ⟨by decide, by decide⟩, by decide⟩
theorem pn_7_pageInfo : (parseMethodDescriptor (m_y M_7_pageInfo).desc).map (fun d => d.parameters.length) = some 3 := by decide +kernel
theorem mok_7_isOverfull : MOK M_7_isOverfull := ⟨by decide, wc_7_isOverfull, wn_7, ⟨by decide, by decide⟩, by decide⟩
theorem pn_7_isOverfull : (parseMethodDescriptor (m_y M_7_isOverfull).desc).map (fun d => d.parameters.length) = some 1 := by decide +kernel
theorem mok_7_spreadOf : MOK M_7_spreadOf := ⟨by decide, wc_7_spreadOf, wn_7, ⟨by decide, by decide⟩, by decide⟩
theorem pn_7_spreadOf : (parseMethodDescriptor (m_y M_7_spreadOf).desc).map (fun d => d.parameters.length) = some 3 := by decide +kernel
theorem mok_7_rowOf : MOK M_7_rowOf := ⟨by decide, wc_7_rowOf, wn_7, ⟨by decide, by decide⟩, by decide⟩
theorem pn_7_rowOf : (parseMethodDescriptor (m_y M_7_rowOf).desc).map (fun d => d.parameters.length) = some 3 := by decide +kernel
theorem mok_7_shown : MOK M_7_shown := ⟨by decide, wc_7_shown, wn_7, ⟨by decide, by decide⟩, by decide⟩
theorem pn_7_shown : (parseMethodDescriptor (m_y M_7_shown).desc).map (fun d => d.parameters.length) = some 3 := by decide +kernel
theorem mok_7_cost : MOK M_7_cost := ⟨by decide, wc_7_cost, wn_7, ⟨by decide, by decide⟩, by decide⟩
theorem pn_7_cost : (parseMethodDescriptor (m_y M_7_cost).desc).map (fun d => d.parameters.length) = some 0 := by decide +kernel
theorem mok_7_bestCost : MOK M_7_bestCost := ⟨by decide, wc_7_bestCost, wn_7, ⟨by decide, by decide⟩, by decide⟩
theorem pn_7_bestCost : (parseMethodDescriptor (m_y M_7_bestCost).desc).map (fun d => d.parameters.length) = some 0 := by decide +kernel
theorem mok_7_bestBreak : MOK M_7_bestBreak := ⟨by decide, wc_7_bestBreak, wn_7, ⟨by decide, by decide⟩, by decide⟩
theorem pn_7_bestBreak : (parseMethodDescriptor (m_y M_7_bestBreak).desc).map (fun d => d.parameters.length) = some 1 := by decide +kernel
theorem mok_7_leastHeight : MOK M_7_leastHeight := ⟨by decide, wc_7_leastHeight, wn_7, ⟨by decide, by decide⟩, by decide⟩
theorem pn_7_leastHeight : (parseMethodDescriptor (m_y M_7_leastHeight).desc).map (fun d => d.parameters.length) = some 1 := by decide +kernel
theorem mok_7_overfullWith : MOK M_7_overfullWith := ⟨by decide, wc_7_overfullWith, wn_7, ⟨by decide, by decide⟩, by decide⟩
theorem pn_7_overfullWith : (parseMethodDescriptor (m_y M_7_overfullWith).desc).map (fun d => d.parameters.length) = some 1 := by decide +kernel
theorem mok_7_splitPairs : MOK M_7_splitPairs := ⟨by decide, wc_7_splitPairs, wn_7, ⟨by decide, by decide⟩, by decide⟩
theorem pn_7_splitPairs : (parseMethodDescriptor (m_y M_7_splitPairs).desc).map (fun d => d.parameters.length) = some 0 := by decide +kernel
theorem mok_7_changePair : MOK M_7_changePair := ⟨by decide, wc_7_changePair, wn_7, ⟨by decide, by decide⟩, by decide⟩
theorem pn_7_changePair : (parseMethodDescriptor (m_y M_7_changePair).desc).map (fun d => d.parameters.length) = some 3 := by decide +kernel
theorem mok_7_beginChange : MOK M_7_beginChange := ⟨by decide, wc_7_beginChange, wn_7, ⟨by decide, by decide⟩, by decide⟩
theorem pn_7_beginChange : (parseMethodDescriptor (m_y M_7_beginChange).desc).map (fun d => d.parameters.length) = some 0 := by decide +kernel
theorem mok_7_forgetResults : MOK M_7_forgetResults := ⟨by decide, wc_7_forgetResults, wn_7, ⟨by decide, by decide⟩, by decide⟩
theorem pn_7_forgetResults : (parseMethodDescriptor (m_y M_7_forgetResults).desc).map (fun d => d.parameters.length) = some 0 := by decide +kernel
theorem mok_7_isIn : MOK M_7_isIn := ⟨by decide, wc_7_isIn, wn_7, ⟨by decide, by decide⟩, by decide⟩
theorem pn_7_isIn : (parseMethodDescriptor (m_y M_7_isIn).desc).map (fun d => d.parameters.length) = some 3 := by decide +kernel
theorem mok_7_isSide : MOK M_7_isSide := ⟨by decide, wc_7_isSide, wn_7, ⟨by decide, by decide⟩, by decide⟩
theorem pn_7_isSide : (parseMethodDescriptor (m_y M_7_isSide).desc).map (fun d => d.parameters.length) = some 1 := by decide +kernel
theorem mok_7_openPlace : MOK M_7_openPlace := ⟨by decide, wc_7_openPlace, wn_7, ⟨by decide, by decide⟩, by decide⟩
theorem pn_7_openPlace : (parseMethodDescriptor (m_y M_7_openPlace).desc).map (fun d => d.parameters.length) = some 3 := by decide +kernel
theorem mok_7_closePlace : MOK M_7_closePlace := ⟨by decide, wc_7_closePlace, wn_7, ⟨by decide, by decide⟩, by decide⟩
theorem pn_7_closePlace : (parseMethodDescriptor (m_y M_7_closePlace).desc).map (fun d => d.parameters.length) = some 3 := by decide +kernel
theorem mok_7_copyTable : MOK M_7_copyTable := ⟨by decide, wc_7_copyTable, wn_7, ⟨by decide, by decide⟩, by decide⟩
theorem pn_7_copyTable : (parseMethodDescriptor (m_y M_7_copyTable).desc).map (fun d => d.parameters.length) = some 2 := by decide +kernel
theorem mok_8_in : MOK M_8_in := ⟨by decide, wc_8_in, wn_8, ⟨by decide, by decide⟩, by decide⟩
theorem pn_8_in : (parseMethodDescriptor (m_y M_8_in).desc).map (fun d => d.parameters.length) = some 3 := by decide +kernel
theorem mok_8_isPair : MOK M_8_isPair := ⟨by decide, wc_8_isPair, wn_8, ⟨by decide, by decide⟩, by decide⟩
theorem pn_8_isPair : (parseMethodDescriptor (m_y M_8_isPair).desc).map (fun d => d.parameters.length) = some 1 := by decide +kernel
theorem mok_8_isSide : MOK M_8_isSide := ⟨by decide, wc_8_isSide, wn_8, ⟨by decide, by decide⟩, by decide⟩
theorem pn_8_isSide : (parseMethodDescriptor (m_y M_8_isSide).desc).map (fun d => d.parameters.length) = some 1 := by decide +kernel
theorem mok_8_lines : MOK M_8_lines := ⟨by decide, wc_8_lines, wn_8, ⟨by decide, by decide⟩, by decide⟩
theorem pn_8_lines : (parseMethodDescriptor (m_y M_8_lines).desc).map (fun d => d.parameters.length) = some 2 := by decide +kernel
theorem mok_8_isLine : MOK M_8_isLine := ⟨by decide, wc_8_isLine, wn_8, ⟨by decide, by decide⟩, by decide⟩
theorem pn_8_isLine : (parseMethodDescriptor (m_y M_8_isLine).desc).map (fun d => d.parameters.length) = some 3 := by decide +kernel
theorem mok_8_noteLong : MOK M_8_noteLong := ⟨by decide, wc_8_noteLong, wn_8, ⟨by decide, by decide⟩, by decide⟩
theorem pn_8_noteLong : (parseMethodDescriptor (m_y M_8_noteLong).desc).map (fun d => d.parameters.length) = some 2 := by decide +kernel
theorem mok_8_records : MOK M_8_records := ⟨by decide, wc_8_records, wn_8, ⟨by decide, by decide⟩, by decide⟩
theorem pn_8_records : (parseMethodDescriptor (m_y M_8_records).desc).map (fun d => d.parameters.length) = some 0 := by decide +kernel
theorem mok_8_insert : MOK M_8_insert := ⟨by decide, wc_8_insert, wn_8, ⟨by decide, by decide⟩, by decide⟩
theorem pn_8_insert : (parseMethodDescriptor (m_y M_8_insert).desc).map (fun d => d.parameters.length) = some 3 := by decide +kernel
theorem mok_8_dropsNote : MOK M_8_dropsNote := ⟨by decide, wc_8_dropsNote, wn_8, ⟨by decide, by decide⟩, by decide⟩
theorem pn_8_dropsNote : (parseMethodDescriptor (m_y M_8_dropsNote).desc).map (fun d => d.parameters.length) = some 2 := by decide +kernel
theorem mok_8_remove : MOK M_8_remove := ⟨by decide, wc_8_remove, wn_8, ⟨by decide, by decide⟩, by decide⟩
theorem pn_8_remove : (parseMethodDescriptor (m_y M_8_remove).desc).map (fun d => d.parameters.length) = some 1 := by decide +kernel
theorem mok_8_setLines : MOK M_8_setLines := ⟨by decide, wc_8_setLines, wn_8, ⟨by decide, by decide⟩, by decide⟩
theorem pn_8_setLines : (parseMethodDescriptor (m_y M_8_setLines).desc).map (fun d => d.parameters.length) = some 3 := by decide +kernel
theorem mok_8_setFlag : MOK M_8_setFlag := ⟨by decide, wc_8_setFlag, wn_8, ⟨by decide, by decide⟩, by decide⟩
theorem pn_8_setFlag : (parseMethodDescriptor (m_y M_8_setFlag).desc).map (fun d => d.parameters.length) = some 3 := by decide +kernel
theorem mok_8_notesAhead : MOK M_8_notesAhead := ⟨by decide, wc_8_notesAhead, wn_8, ⟨by decide, by decide⟩, by decide⟩
theorem pn_8_notesAhead : (parseMethodDescriptor (m_y M_8_notesAhead).desc).map (fun d => d.parameters.length) = some 3 := by decide +kernel
theorem mok_8_addNote : MOK M_8_addNote := ⟨by decide, wc_8_addNote, wn_8, ⟨by decide, by decide⟩, by decide⟩
theorem pn_8_addNote : (parseMethodDescriptor (m_y M_8_addNote).desc).map (fun d => d.parameters.length) = some 4 := by decide +kernel
theorem mok_8_removeNote : MOK M_8_removeNote := ⟨by decide, wc_8_removeNote, wn_8, ⟨by decide, by decide⟩, by decide⟩
theorem pn_8_removeNote : (parseMethodDescriptor (m_y M_8_removeNote).desc).map (fun d => d.parameters.length) = some 2 := by decide +kernel
theorem mok_8_set : MOK M_8_set := ⟨by decide, wc_8_set, wn_8, ⟨by decide, by decide⟩, by decide⟩
theorem pn_8_set : (parseMethodDescriptor (m_y M_8_set).desc).map (fun d => d.parameters.length) = some 2 := by decide +kernel
theorem mok_8_undo : MOK M_8_undo := ⟨by decide, wc_8_undo, wn_8, ⟨by decide, by decide⟩, by decide⟩
theorem pn_8_undo : (parseMethodDescriptor (m_y M_8_undo).desc).map (fun d => d.parameters.length) = some 0 := by decide +kernel
theorem mok_8_pairCount : MOK M_8_pairCount := ⟨by decide, wc_8_pairCount, wn_8, ⟨by decide, by decide⟩, by decide⟩
theorem pn_8_pairCount : (parseMethodDescriptor (m_y M_8_pairCount).desc).map (fun d => d.parameters.length) = some 0 := by decide +kernel
theorem mok_8_pairInfo : MOK M_8_pairInfo := ⟨by decide, wc_8_pairInfo, wn_8, ⟨by decide, by decide⟩, by decide⟩
theorem pn_8_pairInfo : (parseMethodDescriptor (m_y M_8_pairInfo).desc).map (fun d => d.parameters.length) = some 2 := by decide +kernel
theorem mok_8_noteCount : MOK M_8_noteCount := ⟨by decide, wc_8_noteCount, wn_8, ⟨by decide, by decide⟩, by decide⟩
theorem pn_8_noteCount : (parseMethodDescriptor (m_y M_8_noteCount).desc).map (fun d => d.parameters.length) = some 1 := by decide +kernel
theorem mok_8_noteInfo : MOK M_8_noteInfo := ⟨by decide, wc_8_noteInfo, wn_8, ⟨by decide, by decide⟩, by decide⟩
theorem pn_8_noteInfo : (parseMethodDescriptor (m_y M_8_noteInfo).desc).map (fun d => d.parameters.length) = some 3 := by decide +kernel
theorem mok_8_segmentsOfLast : MOK M_8_segmentsOfLast := ⟨by decide, wc_8_segmentsOfLast, wn_8, ⟨by decide, by decide⟩, by decide⟩
theorem pn_8_segmentsOfLast : (parseMethodDescriptor (m_y M_8_segmentsOfLast).desc).map (fun d => d.parameters.length) = some 0 := by decide +kernel
theorem mok_8_rowsOf : MOK M_8_rowsOf := ⟨by decide, wc_8_rowsOf, wn_8, ⟨by decide, by decide⟩, by decide⟩
theorem pn_8_rowsOf : (parseMethodDescriptor (m_y M_8_rowsOf).desc).map (fun d => d.parameters.length) = some 1 := by decide +kernel
theorem mok_8_beginning : MOK M_8_beginning := ⟨by decide, wc_8_beginning, wn_8, ⟨by decide, by decide⟩, by decide⟩
theorem pn_8_beginning : (parseMethodDescriptor (m_y M_8_beginning).desc).map (fun d => d.parameters.length) = some 1 := by decide +kernel
theorem mok_8_carriedTo : MOK M_8_carriedTo := ⟨by decide, wc_8_carriedTo, wn_8, ⟨by decide, by decide⟩, by decide⟩
theorem pn_8_carriedTo : (parseMethodDescriptor (m_y M_8_carriedTo).desc).map (fun d => d.parameters.length) = some 2 := by decide +kernel
theorem mok_8_notedLines : MOK M_8_notedLines := ⟨by decide, wc_8_notedLines, wn_8, ⟨by decide, by decide⟩, by decide⟩
theorem pn_8_notedLines : (parseMethodDescriptor (m_y M_8_notedLines).desc).map (fun d => d.parameters.length) = some 2 := by decide +kernel
theorem mok_8_mostCarried : MOK M_8_mostCarried := ⟨by decide, wc_8_mostCarried, wn_8, ⟨by decide, by decide⟩, by decide⟩
theorem pn_8_mostCarried : (parseMethodDescriptor (m_y M_8_mostCarried).desc).map (fun d => d.parameters.length) = some 2 := by decide +kernel
theorem mok_8_fitsOn : MOK M_8_fitsOn := ⟨by decide, wc_8_fitsOn, wn_8, ⟨by decide, by decide⟩, by decide⟩
theorem pn_8_fitsOn : (parseMethodDescriptor (m_y M_8_fitsOn).desc).map (fun d => d.parameters.length) = some 2 := by decide +kernel
theorem mok_8_fits : MOK M_8_fits := ⟨by decide, wc_8_fits, wn_8, ⟨by decide, by decide⟩, by decide⟩
theorem pn_8_fits : (parseMethodDescriptor (m_y M_8_fits).desc).map (fun d => d.parameters.length) = some 2 := by decide +kernel
theorem mok_8_puts : MOK M_8_puts := ⟨by decide, wc_8_puts, wn_8, ⟨by decide, by decide⟩, by decide⟩
theorem pn_8_puts : (parseMethodDescriptor (m_y M_8_puts).desc).map (fun d => d.parameters.length) = some 2 := by decide +kernel
theorem mok_8_splits : MOK M_8_splits := ⟨by decide, wc_8_splits, wn_8, ⟨by decide, by decide⟩, by decide⟩
theorem pn_8_splits : (parseMethodDescriptor (m_y M_8_splits).desc).map (fun d => d.parameters.length) = some 0 := by decide +kernel
theorem mok_8_goesOn : MOK M_8_goesOn := ⟨by decide, wc_8_goesOn, wn_8, ⟨by decide, by decide⟩, by decide⟩
theorem pn_8_goesOn : (parseMethodDescriptor (m_y M_8_goesOn).desc).map (fun d => d.parameters.length) = some 0 := by decide +kernel
theorem mok_8_closes : MOK M_8_closes := ⟨by decide, wc_8_closes, wn_8, ⟨by decide, by decide⟩, by decide⟩
theorem pn_8_closes : (parseMethodDescriptor (m_y M_8_closes).desc).map (fun d => d.parameters.length) = some 1 := by decide +kernel
theorem mok_8_sets : MOK M_8_sets := ⟨by decide, wc_8_sets, wn_8, ⟨by decide, by decide⟩, by decide⟩
theorem pn_8_sets : (parseMethodDescriptor (m_y M_8_sets).desc).map (fun d => d.parameters.length) = some 0 := by decide +kernel
theorem mok_8_isSpread : MOK M_8_isSpread := ⟨by decide, wc_8_isSpread, wn_8, ⟨by decide, by decide⟩, by decide⟩
theorem pn_8_isSpread : (parseMethodDescriptor (m_y M_8_isSpread).desc).map (fun d => d.parameters.length) = some 1 := by decide +kernel
theorem mok_8_spreadCount : MOK M_8_spreadCount := ⟨by decide, wc_8_spreadCount, wn_8, ⟨by decide, by decide⟩, by decide⟩
theorem pn_8_spreadCount : (parseMethodDescriptor (m_y M_8_spreadCount).desc).map (fun d => d.parameters.length) = some 0 := by decide +kernel
theorem mok_8_segmentCount : MOK M_8_segmentCount := ⟨by decide, wc_8_segmentCount, wn_8, ⟨by decide, by decide⟩, by decide⟩
theorem pn_8_segmentCount : (parseMethodDescriptor (m_y M_8_segmentCount).desc).map (fun d => d.parameters.length) = some 1 := by decide +kernel
theorem mok_8_segmentInfo : MOK M_8_segmentInfo := ⟨by decide, wc_8_segmentInfo, wn_8, ⟨by decide, by decide⟩, by decide⟩
theorem pn_8_segmentInfo : (parseMethodDescriptor (m_y M_8_segmentInfo).desc).map (fun d => d.parameters.length) = some 3 := by decide +kernel
theorem mok_8_blank : MOK M_8_blank := ⟨by decide, wc_8_blank, wn_8, ⟨by decide, by decide⟩, by decide⟩
theorem pn_8_blank : (parseMethodDescriptor (m_y M_8_blank).desc).map (fun d => d.parameters.length) = some 1 := by decide +kernel
theorem mok_8_pageInfo : MOK M_8_pageInfo := ⟨by decide, wc_8_pageInfo, wn_8, ⟨by decide, by decide⟩, by decide⟩
theorem pn_8_pageInfo : (parseMethodDescriptor (m_y M_8_pageInfo).desc).map (fun d => d.parameters.length) = some 3 := by decide +kernel
theorem mok_8_isOverfull : MOK M_8_isOverfull := ⟨by decide, wc_8_isOverfull, wn_8, ⟨by decide, by decide⟩, by decide⟩
theorem pn_8_isOverfull : (parseMethodDescriptor (m_y M_8_isOverfull).desc).map (fun d => d.parameters.length) = some 1 := by decide +kernel
theorem mok_8_segmentOf : MOK M_8_segmentOf := ⟨by decide, wc_8_segmentOf, wn_8, ⟨by decide, by decide⟩, by decide⟩
theorem pn_8_segmentOf : (parseMethodDescriptor (m_y M_8_segmentOf).desc).map (fun d => d.parameters.length) = some 3 := by decide +kernel
theorem mok_8_spreadOf : MOK M_8_spreadOf := ⟨by decide, wc_8_spreadOf, wn_8, ⟨by decide, by decide⟩, by decide⟩
theorem pn_8_spreadOf : (parseMethodDescriptor (m_y M_8_spreadOf).desc).map (fun d => d.parameters.length) = some 3 := by decide +kernel
theorem mok_8_rowOf : MOK M_8_rowOf := ⟨by decide, wc_8_rowOf, wn_8, ⟨by decide, by decide⟩, by decide⟩
theorem pn_8_rowOf : (parseMethodDescriptor (m_y M_8_rowOf).desc).map (fun d => d.parameters.length) = some 3 := by decide +kernel
theorem mok_8_noteAt : MOK M_8_noteAt := ⟨by decide, wc_8_noteAt, wn_8, ⟨by decide, by decide⟩, by decide⟩
theorem pn_8_noteAt : (parseMethodDescriptor (m_y M_8_noteAt).desc).map (fun d => d.parameters.length) = some 3 := by decide +kernel
theorem mok_8_shown : MOK M_8_shown := ⟨by decide, wc_8_shown, wn_8, ⟨by decide, by decide⟩, by decide⟩
theorem pn_8_shown : (parseMethodDescriptor (m_y M_8_shown).desc).map (fun d => d.parameters.length) = some 3 := by decide +kernel
theorem mok_8_cost : MOK M_8_cost := ⟨by decide, wc_8_cost, wn_8, ⟨by decide, by decide⟩, by decide⟩
theorem pn_8_cost : (parseMethodDescriptor (m_y M_8_cost).desc).map (fun d => d.parameters.length) = some 0 := by decide +kernel
theorem mok_8_rowsOfGroup : MOK M_8_rowsOfGroup := ⟨by decide, wc_8_rowsOfGroup, wn_8, ⟨by decide, by decide⟩, by decide⟩
theorem pn_8_rowsOfGroup : (parseMethodDescriptor (m_y M_8_rowsOfGroup).desc).map (fun d => d.parameters.length) = some 3 := by decide +kernel
theorem mok_8_isGroup : MOK M_8_isGroup := ⟨by decide, wc_8_isGroup, wn_8, ⟨by decide, by decide⟩, by decide⟩
theorem pn_8_isGroup : (parseMethodDescriptor (m_y M_8_isGroup).desc).map (fun d => d.parameters.length) = some 2 := by decide +kernel
theorem mok_8_divides : MOK M_8_divides := ⟨by decide, wc_8_divides, wn_8, ⟨by decide, by decide⟩, by decide⟩
theorem pn_8_divides : (parseMethodDescriptor (m_y M_8_divides).desc).map (fun d => d.parameters.length) = some 0 := by decide +kernel
theorem mok_8_bestCost : MOK M_8_bestCost := ⟨by decide, wc_8_bestCost, wn_8, ⟨by decide, by decide⟩, by decide⟩
theorem pn_8_bestCost : (parseMethodDescriptor (m_y M_8_bestCost).desc).map (fun d => d.parameters.length) = some 0 := by decide +kernel
theorem mok_8_bestBreak : MOK M_8_bestBreak := ⟨by decide, wc_8_bestBreak, wn_8, ⟨by decide, by decide⟩, by decide⟩
theorem pn_8_bestBreak : (parseMethodDescriptor (m_y M_8_bestBreak).desc).map (fun d => d.parameters.length) = some 1 := by decide +kernel
theorem mok_8_leastHeight : MOK M_8_leastHeight := ⟨by decide, wc_8_leastHeight, wn_8, ⟨by decide, by decide⟩, by decide⟩
theorem pn_8_leastHeight : (parseMethodDescriptor (m_y M_8_leastHeight).desc).map (fun d => d.parameters.length) = some 1 := by decide +kernel
theorem mok_8_overfullWith : MOK M_8_overfullWith := ⟨by decide, wc_8_overfullWith, wn_8, ⟨by decide, by decide⟩, by decide⟩
theorem pn_8_overfullWith : (parseMethodDescriptor (m_y M_8_overfullWith).desc).map (fun d => d.parameters.length) = some 1 := by decide +kernel
theorem mok_8_splitPairs : MOK M_8_splitPairs := ⟨by decide, wc_8_splitPairs, wn_8, ⟨by decide, by decide⟩, by decide⟩
theorem pn_8_splitPairs : (parseMethodDescriptor (m_y M_8_splitPairs).desc).map (fun d => d.parameters.length) = some 0 := by decide +kernel
