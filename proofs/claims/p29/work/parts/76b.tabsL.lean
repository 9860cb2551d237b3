/-! ===== the law, instruction by instruction ===== -/
theorem wk_7 : Cond.constant RL 7 (15485959 : Int32) ∈ W0 := in_t2 (i := 218) rfl rfl
theorem wk_8 : Cond.constant RL 8 (2147483647 : Int32) ∈ W0 := in_t2 (i := 219) rfl rfl
theorem wmL_9 : Cond.methodLink RL 9 yX7_pairCount ∈ W0 := in_t2 (i := 59) rfl rfl
theorem wi_7_pairCount : Cond.instanceMethod yX7_pairCount ∈ W0 := in_t2 (i := 60) rfl rfl
theorem wl_7_pairCount : Cond.selects RX7 yX7_pairCount yX7_pairCount ∈ W0 := in_t2 (i := 61) rfl rfl
theorem wmL_37 : Cond.methodLink RL 37 yX7_undo ∈ W0 := in_t3 (i := 42) rfl rfl
theorem wi_7_undo : Cond.instanceMethod yX7_undo ∈ W0 := in_t3 (i := 43) rfl rfl
theorem wl_7_undo : Cond.selects RX7 yX7_undo yX7_undo ∈ W0 := in_t3 (i := 44) rfl rfl
theorem wmL_34 : Cond.methodLink RL 34 yX7_set ∈ W0 := in_t2 (i := 16) rfl rfl
theorem wi_7_set : Cond.instanceMethod yX7_set ∈ W0 := in_t2 (i := 17) rfl rfl
theorem wl_7_set : Cond.selects RX7 yX7_set yX7_set ∈ W0 := in_t2 (i := 18) rfl rfl
theorem wmL_31 : Cond.methodLink RL 31 yX7_setFlag ∈ W0 := in_t3 (i := 33) rfl rfl
theorem wi_7_setFlag : Cond.instanceMethod yX7_setFlag ∈ W0 := in_t3 (i := 34) rfl rfl
theorem wl_7_setFlag : Cond.selects RX7 yX7_setFlag yX7_setFlag ∈ W0 := in_t3 (i := 35) rfl rfl
theorem wmL_27 : Cond.methodLink RL 27 yX7_removeNote ∈ W0 := in_t3 (i := 22) rfl rfl
theorem wi_7_removeNote : Cond.instanceMethod yX7_removeNote ∈ W0 := in_t3 (i := 23) rfl rfl
theorem wl_7_removeNote : Cond.selects RX7 yX7_removeNote yX7_removeNote ∈ W0 := in_t3 (i := 24) rfl rfl
theorem wmL_19 : Cond.methodLink RL 19 yX7_noteCount ∈ W0 := in_t2 (i := 239) rfl rfl
theorem wi_7_noteCount : Cond.instanceMethod yX7_noteCount ∈ W0 := in_t3 (i := 0) rfl rfl
theorem wl_7_noteCount : Cond.selects RX7 yX7_noteCount yX7_noteCount ∈ W0 := in_t3 (i := 1) rfl rfl
theorem wmL_23 : Cond.methodLink RL 23 yX7_addNote ∈ W0 := in_t3 (i := 7) rfl rfl
theorem wi_7_addNote : Cond.instanceMethod yX7_addNote ∈ W0 := in_t3 (i := 8) rfl rfl
theorem wl_7_addNote : Cond.selects RX7 yX7_addNote yX7_addNote ∈ W0 := in_t3 (i := 9) rfl rfl
theorem wmL_15 : Cond.methodLink RL 15 yX7_insert ∈ W0 := in_t2 (i := 223) rfl rfl
theorem wi_7_insert : Cond.instanceMethod yX7_insert ∈ W0 := in_t2 (i := 224) rfl rfl
theorem wl_7_insert : Cond.selects RX7 yX7_insert yX7_insert ∈ W0 := in_t2 (i := 225) rfl rfl
theorem wmL_55 : Cond.methodLink RL 55 yX7_pageInfo ∈ W0 := in_t3 (i := 53) rfl rfl
theorem wi_7_pageInfo : Cond.instanceMethod yX7_pageInfo ∈ W0 := in_t3 (i := 54) rfl rfl
theorem wl_7_pageInfo : Cond.selects RX7 yX7_pageInfo yX7_pageInfo ∈ W0 := in_t3 (i := 55) rfl rfl
theorem wmL_40 : Cond.methodLink RL 40 yX7_shown ∈ W0 := in_t3 (i := 85) rfl rfl
theorem wi_7_shown : Cond.instanceMethod yX7_shown ∈ W0 := in_t3 (i := 86) rfl rfl
theorem wl_7_shown : Cond.selects RX7 yX7_shown yX7_shown ∈ W0 := in_t3 (i := 87) rfl rfl
theorem wmL_52 : Cond.methodLink RL 52 yX7_pairInfo ∈ W0 := in_t3 (i := 130) rfl rfl
theorem wi_7_pairInfo : Cond.instanceMethod yX7_pairInfo ∈ W0 := in_t3 (i := 131) rfl rfl
theorem wl_7_pairInfo : Cond.selects RX7 yX7_pairInfo yX7_pairInfo ∈ W0 := in_t3 (i := 132) rfl rfl
theorem wmL_46 : Cond.methodLink RL 46 yX7_spreadOf ∈ W0 := in_t3 (i := 106) rfl rfl
theorem wi_7_spreadOf : Cond.instanceMethod yX7_spreadOf ∈ W0 := in_t3 (i := 107) rfl rfl
theorem wl_7_spreadOf : Cond.selects RX7 yX7_spreadOf yX7_spreadOf ∈ W0 := in_t3 (i := 108) rfl rfl
theorem wmL_49 : Cond.methodLink RL 49 yX7_rowOf ∈ W0 := in_t3 (i := 122) rfl rfl
theorem wi_7_rowOf : Cond.instanceMethod yX7_rowOf ∈ W0 := in_t3 (i := 123) rfl rfl
theorem wl_7_rowOf : Cond.selects RX7 yX7_rowOf yX7_rowOf ∈ W0 := in_t3 (i := 124) rfl rfl
theorem wmL_43 : Cond.methodLink RL 43 yX7_noteInfo ∈ W0 := in_t3 (i := 102) rfl rfl
theorem wi_7_noteInfo : Cond.instanceMethod yX7_noteInfo ∈ W0 := in_t3 (i := 103) rfl rfl
theorem wl_7_noteInfo : Cond.selects RX7 yX7_noteInfo yX7_noteInfo ∈ W0 := in_t3 (i := 104) rfl rfl
theorem wmL_58 : Cond.methodLink RL 58 yX7_spreadCount ∈ W0 := in_t2 (i := 63) rfl rfl
theorem wi_7_spreadCount : Cond.instanceMethod yX7_spreadCount ∈ W0 := in_t2 (i := 64) rfl rfl
theorem wl_7_spreadCount : Cond.selects RX7 yX7_spreadCount yX7_spreadCount ∈ W0 := in_t2 (i := 65) rfl rfl
theorem wmL_67 : Cond.methodLink RL 67 yX7_cost ∈ W0 := in_t3 (i := 74) rfl rfl
theorem wi_7_cost : Cond.instanceMethod yX7_cost ∈ W0 := in_t3 (i := 75) rfl rfl
theorem wl_7_cost : Cond.selects RX7 yX7_cost yX7_cost ∈ W0 := in_t3 (i := 76) rfl rfl
theorem ws_L_shows : Cond.static yL_shows ∈ W0 := in_t3 (i := 83) rfl rfl
theorem wmL_70 : Cond.methodLink RL 70 yL_shows ∈ W0 := in_t3 (i := 82) rfl rfl
theorem wmL_61 : Cond.methodLink RL 61 yX7_isOverfull ∈ W0 := in_t3 (i := 62) rfl rfl
theorem wi_7_isOverfull : Cond.instanceMethod yX7_isOverfull ∈ W0 := in_t3 (i := 63) rfl rfl
theorem wl_7_isOverfull : Cond.selects RX7 yX7_isOverfull yX7_isOverfull ∈ W0 := in_t3 (i := 64) rfl rfl
theorem wmL_64 : Cond.methodLink RL 64 yX7_segmentCount ∈ W0 := in_t3 (i := 66) rfl rfl
theorem wi_7_segmentCount : Cond.instanceMethod yX7_segmentCount ∈ W0 := in_t3 (i := 67) rfl rfl
theorem wl_7_segmentCount : Cond.selects RX7 yX7_segmentCount yX7_segmentCount ∈ W0 := in_t3 (i := 68) rfl rfl
theorem wclL_10 : Cond.classLink RL 10 RX7 ∈ W0 := in_t1 (i := 11) rfl rfl
theorem wib_7 : Cond.instantiable RX7 4 ∈ W0 := in_t1 (i := 12) rfl rfl
theorem wi_7_init : Cond.instanceMethod yX7_init ∈ W0 := in_t1 (i := 14) rfl rfl
theorem wmL_76 : Cond.methodLink RL 76 yX7_init ∈ W0 := in_t1 (i := 13) rfl rfl
theorem ws_L_cell : Cond.static yL_cell ∈ W0 := in_t2 (i := 216) rfl rfl
theorem wmL_77 : Cond.methodLink RL 77 yL_cell ∈ W0 := in_t2 (i := 215) rfl rfl
theorem wmL_94 : Cond.methodLink RL 94 yX7_bestBreak ∈ W0 := in_t2 (i := 207) rfl rfl
theorem wi_7_bestBreak : Cond.instanceMethod yX7_bestBreak ∈ W0 := in_t2 (i := 208) rfl rfl
theorem wl_7_bestBreak : Cond.selects RX7 yX7_bestBreak yX7_bestBreak ∈ W0 := in_t2 (i := 209) rfl rfl
theorem wmL_91 : Cond.methodLink RL 91 yX7_bestCost ∈ W0 := in_t2 (i := 172) rfl rfl
theorem wi_7_bestCost : Cond.instanceMethod yX7_bestCost ∈ W0 := in_t2 (i := 173) rfl rfl
theorem wl_7_bestCost : Cond.selects RX7 yX7_bestCost yX7_bestCost ∈ W0 := in_t2 (i := 174) rfl rfl
theorem wmL_88 : Cond.methodLink RL 88 yX7_leastHeight ∈ W0 := in_t2 (i := 211) rfl rfl
theorem wi_7_leastHeight : Cond.instanceMethod yX7_leastHeight ∈ W0 := in_t2 (i := 212) rfl rfl
theorem wl_7_leastHeight : Cond.selects RX7 yX7_leastHeight yX7_leastHeight ∈ W0 := in_t2 (i := 213) rfl rfl
theorem ws_L_adds : Cond.static yL_adds ∈ W0 := in_t3 (i := 51) rfl rfl
theorem wmL_84 : Cond.methodLink RL 84 yL_adds ∈ W0 := in_t3 (i := 50) rfl rfl
theorem ws_L_acts : Cond.static yL_acts ∈ W0 := in_t2 (i := 221) rfl rfl
theorem wmL_81 : Cond.methodLink RL 81 yL_acts ∈ W0 := in_t2 (i := 220) rfl rfl
def tab_L_cell (X : XT) : Tab := [(0, false, a_iload 1 1), (1, false, a_aload 0 2), (2, false, a_scl X 3), (3, false, a_icmp 3 12 6), (6, false, a_aload 0 7), (7, false, a_iload 1 8), (8, false, a_scr X 9), (9, false, a_goto 19), (12, false, a_const 15485959 14), (14, false, a_iload 1 15), (15, false, a_mul 16), (16, false, a_const 109 18), (18, false, a_add 19), (19, false, a_const 2147483647 21), (21, false, a_and 22), (22, false, a_iret M_L_cell)]
set_option maxRecDepth 20000 in
theorem t_L_cell (X : XT) : tget (tab_L_cell X) 0 = some (false, a_iload 1 1) ∧ tget (tab_L_cell X) 1 = some (false, a_aload 0 2) ∧ tget (tab_L_cell X) 2 = some (false, a_scl X 3) ∧ tget (tab_L_cell X) 3 = some (false, a_icmp 3 12 6) ∧ tget (tab_L_cell X) 6 = some (false, a_aload 0 7) ∧ tget (tab_L_cell X) 7 = some (false, a_iload 1 8) ∧ tget (tab_L_cell X) 8 = some (false, a_scr X 9) ∧ tget (tab_L_cell X) 9 = some (false, a_goto 19) ∧ tget (tab_L_cell X) 12 = some (false, a_const 15485959 14) ∧ tget (tab_L_cell X) 14 = some (false, a_iload 1 15) ∧ tget (tab_L_cell X) 15 = some (false, a_mul 16) ∧ tget (tab_L_cell X) 16 = some (false, a_const 109 18) ∧ tget (tab_L_cell X) 18 = some (false, a_add 19) ∧ tget (tab_L_cell X) 19 = some (false, a_const 2147483647 21) ∧ tget (tab_L_cell X) 21 = some (false, a_and 22) ∧ tget (tab_L_cell X) 22 = some (false, a_iret M_L_cell) := ⟨rfl, rfl, rfl, rfl, rfl, rfl, rfl, rfl, rfl, rfl, rfl, rfl, rfl, rfl, rfl, rfl⟩
theorem tok_L_cell (X : XT) : TabOK X M_L_cell (tab_L_cell X) := by
  unfold tab_L_cell
  refine tok_cons (snd_iload_n dL_cell_0 rfl rfl) ?_
  refine tok_cons (snd_aload_n dL_cell_1 rfl rfl) ?_
  refine tok_cons (snd_scl dL_cell_2 rfl) ?_
  refine tok_cons (snd_icmp_ge dL_cell_3 (by decide) rfl) ?_
  refine tok_cons (snd_aload_n dL_cell_6 rfl rfl) ?_
  refine tok_cons (snd_iload_n dL_cell_7 rfl rfl) ?_
  refine tok_cons (snd_scr dL_cell_8 rfl) ?_
  refine tok_cons (snd_goto dL_cell_9 (by decide)) ?_
  refine tok_cons (snd_ldc dL_cell_12 wk_7 rfl (inr_d rfl) rfl) ?_
  refine tok_cons (snd_iload_n dL_cell_14 rfl rfl) ?_
  refine tok_cons (snd_mul dL_cell_15 rfl) ?_
  refine tok_cons (snd_bipush dL_cell_16 (by decide) (inr_d rfl) rfl) ?_
  refine tok_cons (snd_add dL_cell_18 rfl) ?_
  refine tok_cons (snd_ldc dL_cell_19 wk_8 rfl (inr_d rfl) rfl) ?_
  refine tok_cons (snd_and dL_cell_21 rfl) ?_
  refine tok_cons (snd_iret dL_cell_22 rfl) ?_
  exact tok_nil
def tab_L_acts (X : XT) : Tab := [(0, false, a_iload 1 1), (1, false, a_const 4 2), (2, false, a_shr 3), (3, false, a_istore 2 4), (4, false, a_aload 0 5), (5, false, a_cv X M_L_acts M_7_pairCount 7 1 8), (8, false, a_istore 3 9), (9, false, a_iload 1 10), (10, false, a_const 12 12), (12, false, a_rem 13), (13, false, a_tsw 0 10 [72, 72, 72, 113, 113, 113, 113, 167, 191, 219, 243] 266), (72, true, a_iload 3 73), (73, false, a_const 9 75), (75, false, a_icmp 4 107 78), (78, false, a_aload 0 79), (79, false, a_iload 2 80), (80, false, a_iload 3 81), (81, false, a_const 1 82), (82, false, a_add 83), (83, false, a_rem 84), (84, false, a_const 1 85), (85, false, a_iload 2 86), (86, false, a_const 17 88), (88, false, a_rem 89), (89, false, a_add 90), (90, false, a_const 1 91), (91, false, a_iload 2 92), (92, false, a_const 5 93), (93, false, a_shr 94), (94, false, a_const 17 96), (96, false, a_rem 97), (97, false, a_add 98), (98, false, a_cv X M_L_acts M_7_insert 7 4 101), (101, false, a_iload 3 102), (102, false, a_const 1 103), (103, false, a_add 104), (104, false, a_icmp 1 111 107), (107, false, a_const 1 108), (108, false, a_goto 112), (111, false, a_const 0 112), (112, false, a_zret M_L_acts), (113, true, a_aload 0 114), (114, false, a_const 0 115), (115, false, a_cv X M_L_acts M_7_noteCount 7 2 118), (118, false, a_aload 0 119), (119, false, a_const 1 120), (120, false, a_cv X M_L_acts M_7_noteCount 7 2 123), (123, false, a_add 124), (124, false, a_const 18 126), (126, false, a_icmp 4 161 129), (129, false, a_aload 0 130), (130, false, a_iload 2 131), (131, false, a_const 10 133), (133, false, a_rem 134), (134, false, a_iload 2 135), (135, false, a_const 4 136), (136, false, a_shr 137), (137, false, a_const 2 138), (138, false, a_rem 139), (139, false, a_iload 2 140), (140, false, a_const 5 141), (141, false, a_shr 142), (142, false, a_const 12 144), (144, false, a_rem 145), (145, false, a_const 1 146), (146, false, a_iload 2 147), (147, false, a_const 9 149), (149, false, a_shr 150), (150, false, a_const 8 152), (152, false, a_rem 153), (153, false, a_add 154), (154, false, a_cv X M_L_acts M_7_addNote 7 5 157), (157, false, a_const (-1) 158), (158, false, a_icmp 2 165 161), (161, false, a_const 1 162), (162, false, a_goto 166), (165, false, a_const 0 166), (166, false, a_zret M_L_acts), (167, true, a_aload 0 168), (168, false, a_iload 2 169), (169, false, a_const 2 170), (170, false, a_rem 171), (171, false, a_iload 2 172), (172, false, a_const 1 173), (173, false, a_shr 174), (174, false, a_const 6 176), (176, false, a_rem 177), (177, false, a_cv X M_L_acts M_7_removeNote 7 3 180), (180, false, a_const (-4) 182), (182, false, a_icmp 2 189 185), (185, false, a_const 1 186), (186, false, a_goto 190), (189, false, a_const 0 190), (190, false, a_zret M_L_acts), (191, true, a_aload 0 192), (192, false, a_iload 2 193), (193, false, a_const 10 195), (195, false, a_rem 196), (196, false, a_iload 2 197), (197, false, a_const 4 198), (198, false, a_shr 199), (199, false, a_const 2 200), (200, false, a_rem 201), (201, false, a_iload 2 202), (202, false, a_const 5 203), (203, false, a_shr 204), (204, false, a_const 2 205), (205, false, a_rem 206), (206, false, a_cv X M_L_acts M_7_setFlag 7 4 209), (209, false, a_const (-1) 210), (210, false, a_icmp 2 217 213), (213, false, a_const 1 214), (214, false, a_goto 218), (217, false, a_const 0 218), (218, false, a_zret M_L_acts), (219, true, a_aload 0 220), (220, false, a_const 1 221), (221, false, a_iload 2 222), (222, false, a_const 5 223), (223, false, a_rem 224), (224, false, a_add 225), (225, false, a_iload 2 226), (226, false, a_const 3 227), (227, false, a_shr 228), (228, false, a_const 3 229), (229, false, a_rem 230), (230, false, a_cv X M_L_acts M_7_set 7 3 233), (233, false, a_const (-1) 234), (234, false, a_icmp 2 241 237), (237, false, a_const 1 238), (238, false, a_goto 242), (241, false, a_const 0 242), (242, false, a_zret M_L_acts), (243, true, a_aload 0 244), (244, false, a_const 0 245), (245, false, a_const 8 247), (247, false, a_iload 2 248), (248, false, a_const 30 250), (250, false, a_rem 251), (251, false, a_add 252), (252, false, a_cv X M_L_acts M_7_set 7 3 255), (255, false, a_const 8 257), (257, false, a_icmp 2 264 260), (260, false, a_const 1 261), (261, false, a_goto 265), (264, false, a_const 0 265), (265, false, a_zret M_L_acts), (266, true, a_iload 2 267), (267, false, a_const 3 268), (268, false, a_rem 269), (269, false, a_if 4 281 272), (272, false, a_aload 0 273), (273, false, a_cv X M_L_acts M_7_undo 7 1 276), (276, false, a_const (-2) 278), (278, false, a_icmp 2 285 281), (281, false, a_const 1 282), (282, false, a_goto 286), (285, false, a_const 0 286), (286, false, a_zret M_L_acts)]
set_option maxRecDepth 20000 in
theorem t_L_acts (X : XT) : tget (tab_L_acts X) 0 = some (false, a_iload 1 1) ∧ tget (tab_L_acts X) 1 = some (false, a_const 4 2) ∧ tget (tab_L_acts X) 2 = some (false, a_shr 3) ∧ tget (tab_L_acts X) 3 = some (false, a_istore 2 4) ∧ tget (tab_L_acts X) 4 = some (false, a_aload 0 5) ∧ tget (tab_L_acts X) 5 = some (false, a_cv X M_L_acts M_7_pairCount 7 1 8) ∧ tget (tab_L_acts X) 8 = some (false, a_istore 3 9) ∧ tget (tab_L_acts X) 9 = some (false, a_iload 1 10) ∧ tget (tab_L_acts X) 10 = some (false, a_const 12 12) ∧ tget (tab_L_acts X) 12 = some (false, a_rem 13) ∧ tget (tab_L_acts X) 13 = some (false, a_tsw 0 10 [72, 72, 72, 113, 113, 113, 113, 167, 191, 219, 243] 266) ∧ tget (tab_L_acts X) 72 = some (true, a_iload 3 73) ∧ tget (tab_L_acts X) 73 = some (false, a_const 9 75) ∧ tget (tab_L_acts X) 75 = some (false, a_icmp 4 107 78) ∧ tget (tab_L_acts X) 78 = some (false, a_aload 0 79) ∧ tget (tab_L_acts X) 79 = some (false, a_iload 2 80) ∧ tget (tab_L_acts X) 80 = some (false, a_iload 3 81) ∧ tget (tab_L_acts X) 81 = some (false, a_const 1 82) ∧ tget (tab_L_acts X) 82 = some (false, a_add 83) ∧ tget (tab_L_acts X) 83 = some (false, a_rem 84) ∧ tget (tab_L_acts X) 84 = some (false, a_const 1 85) ∧ tget (tab_L_acts X) 85 = some (false, a_iload 2 86) ∧ tget (tab_L_acts X) 86 = some (false, a_const 17 88) ∧ tget (tab_L_acts X) 88 = some (false, a_rem 89) ∧ tget (tab_L_acts X) 89 = some (false, a_add 90) ∧ tget (tab_L_acts X) 90 = some (false, a_const 1 91) ∧ tget (tab_L_acts X) 91 = some (false, a_iload 2 92) ∧ tget (tab_L_acts X) 92 = some (false, a_const 5 93) ∧ tget (tab_L_acts X) 93 = some (false, a_shr 94) ∧ tget (tab_L_acts X) 94 = some (false, a_const 17 96) ∧ tget (tab_L_acts X) 96 = some (false, a_rem 97) ∧ tget (tab_L_acts X) 97 = some (false, a_add 98) ∧ tget (tab_L_acts X) 98 = some (false, a_cv X M_L_acts M_7_insert 7 4 101) ∧ tget (tab_L_acts X) 101 = some (false, a_iload 3 102) ∧ tget (tab_L_acts X) 102 = some (false, a_const 1 103) ∧ tget (tab_L_acts X) 103 = some (false, a_add 104) ∧ tget (tab_L_acts X) 104 = some (false, a_icmp 1 111 107) ∧ tget (tab_L_acts X) 107 = some (false, a_const 1 108) ∧ tget (tab_L_acts X) 108 = some (false, a_goto 112) ∧ tget (tab_L_acts X) 111 = some (false, a_const 0 112) ∧ tget (tab_L_acts X) 112 = some (false, a_zret M_L_acts) ∧ tget (tab_L_acts X) 113 = some (true, a_aload 0 114) ∧ tget (tab_L_acts X) 114 = some (false, a_const 0 115) ∧ tget (tab_L_acts X) 115 = some (false, a_cv X M_L_acts M_7_noteCount 7 2 118) ∧ tget (tab_L_acts X) 118 = some (false, a_aload 0 119) ∧ tget (tab_L_acts X) 119 = some (false, a_const 1 120) ∧ tget (tab_L_acts X) 120 = some (false, a_cv X M_L_acts M_7_noteCount 7 2 123) ∧ tget (tab_L_acts X) 123 = some (false, a_add 124) ∧ tget (tab_L_acts X) 124 = some (false, a_const 18 126) ∧ tget (tab_L_acts X) 126 = some (false, a_icmp 4 161 129) ∧ tget (tab_L_acts X) 129 = some (false, a_aload 0 130) ∧ tget (tab_L_acts X) 130 = some (false, a_iload 2 131) ∧ tget (tab_L_acts X) 131 = some (false, a_const 10 133) ∧ tget (tab_L_acts X) 133 = some (false, a_rem 134) ∧ tget (tab_L_acts X) 134 = some (false, a_iload 2 135) ∧ tget (tab_L_acts X) 135 = some (false, a_const 4 136) ∧ tget (tab_L_acts X) 136 = some (false, a_shr 137) ∧ tget (tab_L_acts X) 137 = some (false, a_const 2 138) ∧ tget (tab_L_acts X) 138 = some (false, a_rem 139) ∧ tget (tab_L_acts X) 139 = some (false, a_iload 2 140) ∧ tget (tab_L_acts X) 140 = some (false, a_const 5 141) ∧ tget (tab_L_acts X) 141 = some (false, a_shr 142) ∧ tget (tab_L_acts X) 142 = some (false, a_const 12 144) ∧ tget (tab_L_acts X) 144 = some (false, a_rem 145) ∧ tget (tab_L_acts X) 145 = some (false, a_const 1 146) ∧ tget (tab_L_acts X) 146 = some (false, a_iload 2 147) ∧ tget (tab_L_acts X) 147 = some (false, a_const 9 149) ∧ tget (tab_L_acts X) 149 = some (false, a_shr 150) ∧ tget (tab_L_acts X) 150 = some (false, a_const 8 152) ∧ tget (tab_L_acts X) 152 = some (false, a_rem 153) ∧ tget (tab_L_acts X) 153 = some (false, a_add 154) ∧ tget (tab_L_acts X) 154 = some (false, a_cv X M_L_acts M_7_addNote 7 5 157) ∧ tget (tab_L_acts X) 157 = some (false, a_const (-1) 158) ∧ tget (tab_L_acts X) 158 = some (false, a_icmp 2 165 161) ∧ tget (tab_L_acts X) 161 = some (false, a_const 1 162) ∧ tget (tab_L_acts X) 162 = some (false, a_goto 166) ∧ tget (tab_L_acts X) 165 = some (false, a_const 0 166) ∧ tget (tab_L_acts X) 166 = some (false, a_zret M_L_acts) ∧ tget (tab_L_acts X) 167 = some (true, a_aload 0 168) ∧ tget (tab_L_acts X) 168 = some (false, a_iload 2 169) ∧ tget (tab_L_acts X) 169 = some (false, a_const 2 170) ∧ tget (tab_L_acts X) 170 = some (false, a_rem 171) ∧ tget (tab_L_acts X) 171 = some (false, a_iload 2 172) ∧ tget (tab_L_acts X) 172 = some (false, a_const 1 173) ∧ tget (tab_L_acts X) 173 = some (false, a_shr 174) ∧ tget (tab_L_acts X) 174 = some (false, a_const 6 176) ∧ tget (tab_L_acts X) 176 = some (false, a_rem 177) ∧ tget (tab_L_acts X) 177 = some (false, a_cv X M_L_acts M_7_removeNote 7 3 180) ∧ tget (tab_L_acts X) 180 = some (false, a_const (-4) 182) ∧ tget (tab_L_acts X) 182 = some (false, a_icmp 2 189 185) ∧ tget (tab_L_acts X) 185 = some (false, a_const 1 186) ∧ tget (tab_L_acts X) 186 = some (false, a_goto 190) ∧ tget (tab_L_acts X) 189 = some (false, a_const 0 190) ∧ tget (tab_L_acts X) 190 = some (false, a_zret M_L_acts) ∧ tget (tab_L_acts X) 191 = some (true, a_aload 0 192) ∧ tget (tab_L_acts X) 192 = some (false, a_iload 2 193) ∧ tget (tab_L_acts X) 193 = some (false, a_const 10 195) ∧ tget (tab_L_acts X) 195 = some (false, a_rem 196) ∧ tget (tab_L_acts X) 196 = some (false, a_iload 2 197) ∧ tget (tab_L_acts X) 197 = some (false, a_const 4 198) ∧ tget (tab_L_acts X) 198 = some (false, a_shr 199) ∧ tget (tab_L_acts X) 199 = some (false, a_const 2 200) ∧ tget (tab_L_acts X) 200 = some (false, a_rem 201) ∧ tget (tab_L_acts X) 201 = some (false, a_iload 2 202) ∧ tget (tab_L_acts X) 202 = some (false, a_const 5 203) ∧ tget (tab_L_acts X) 203 = some (false, a_shr 204) ∧ tget (tab_L_acts X) 204 = some (false, a_const 2 205) ∧ tget (tab_L_acts X) 205 = some (false, a_rem 206) ∧ tget (tab_L_acts X) 206 = some (false, a_cv X M_L_acts M_7_setFlag 7 4 209) ∧ tget (tab_L_acts X) 209 = some (false, a_const (-1) 210) ∧ tget (tab_L_acts X) 210 = some (false, a_icmp 2 217 213) ∧ tget (tab_L_acts X) 213 = some (false, a_const 1 214) ∧ tget (tab_L_acts X) 214 = some (false, a_goto 218) ∧ tget (tab_L_acts X) 217 = some (false, a_const 0 218) ∧ tget (tab_L_acts X) 218 = some (false, a_zret M_L_acts) ∧ tget (tab_L_acts X) 219 = some (true, a_aload 0 220) ∧ tget (tab_L_acts X) 220 = some (false, a_const 1 221) ∧ tget (tab_L_acts X) 221 = some (false, a_iload 2 222) ∧ tget (tab_L_acts X) 222 = some (false, a_const 5 223) ∧ tget (tab_L_acts X) 223 = some (false, a_rem 224) ∧ tget (tab_L_acts X) 224 = some (false, a_add 225) ∧ tget (tab_L_acts X) 225 = some (false, a_iload 2 226) ∧ tget (tab_L_acts X) 226 = some (false, a_const 3 227) ∧ tget (tab_L_acts X) 227 = some (false, a_shr 228) ∧ tget (tab_L_acts X) 228 = some (false, a_const 3 229) ∧ tget (tab_L_acts X) 229 = some (false, a_rem 230) ∧ tget (tab_L_acts X) 230 = some (false, a_cv X M_L_acts M_7_set 7 3 233) ∧ tget (tab_L_acts X) 233 = some (false, a_const (-1) 234) ∧ tget (tab_L_acts X) 234 = some (false, a_icmp 2 241 237) ∧ tget (tab_L_acts X) 237 = some (false, a_const 1 238) ∧ tget (tab_L_acts X) 238 = some (false, a_goto 242) ∧ tget (tab_L_acts X) 241 = some (false, a_const 0 242) ∧ tget (tab_L_acts X) 242 = some (false, a_zret M_L_acts) ∧ tget (tab_L_acts X) 243 = some (true, a_aload 0 244) ∧ tget (tab_L_acts X) 244 = some (false, a_const 0 245) ∧ tget (tab_L_acts X) 245 = some (false, a_const 8 247) ∧ tget (tab_L_acts X) 247 = some (false, a_iload 2 248) ∧ tget (tab_L_acts X) 248 = some (false, a_const 30 250) ∧ tget (tab_L_acts X) 250 = some (false, a_rem 251) ∧ tget (tab_L_acts X) 251 = some (false, a_add 252) ∧ tget (tab_L_acts X) 252 = some (false, a_cv X M_L_acts M_7_set 7 3 255) ∧ tget (tab_L_acts X) 255 = some (false, a_const 8 257) ∧ tget (tab_L_acts X) 257 = some (false, a_icmp 2 264 260) ∧ tget (tab_L_acts X) 260 = some (false, a_const 1 261) ∧ tget (tab_L_acts X) 261 = some (false, a_goto 265) ∧ tget (tab_L_acts X) 264 = some (false, a_const 0 265) ∧ tget (tab_L_acts X) 265 = some (false, a_zret M_L_acts) ∧ tget (tab_L_acts X) 266 = some (true, a_iload 2 267) ∧ tget (tab_L_acts X) 267 = some (false, a_const 3 268) ∧ tget (tab_L_acts X) 268 = some (false, a_rem 269) ∧ tget (tab_L_acts X) 269 = some (false, a_if 4 281 272) ∧ tget (tab_L_acts X) 272 = some (false, a_aload 0 273) ∧ tget (tab_L_acts X) 273 = some (false, a_cv X M_L_acts M_7_undo 7 1 276) ∧ tget (tab_L_acts X) 276 = some (false, a_const (-2) 278) ∧ tget (tab_L_acts X) 278 = some (false, a_icmp 2 285 281) ∧ tget (tab_L_acts X) 281 = some (false, a_const 1 282) ∧ tget (tab_L_acts X) 282 = some (false, a_goto 286) ∧ tget (tab_L_acts X) 285 = some (false, a_const 0 286) ∧ tget (tab_L_acts X) 286 = some (false, a_zret M_L_acts) := ⟨rfl, rfl, rfl, rfl, rfl, rfl, rfl, rfl, rfl, rfl, rfl, rfl, rfl, rfl, rfl, rfl, rfl, rfl, rfl, rfl, rfl, rfl, rfl, rfl, rfl, rfl, rfl, rfl, rfl, rfl, rfl, rfl, rfl, rfl, rfl, rfl, rfl, rfl, rfl, rfl, rfl, rfl, rfl, rfl, rfl, rfl, rfl, rfl, rfl, rfl, rfl, rfl, rfl, rfl, rfl, rfl, rfl, rfl, rfl, rfl, rfl, rfl, rfl, rfl, rfl, rfl, rfl, rfl, rfl, rfl, rfl, rfl, rfl, rfl, rfl, rfl, rfl, rfl, rfl, rfl, rfl, rfl, rfl, rfl, rfl, rfl, rfl, rfl, rfl, rfl, rfl, rfl, rfl, rfl, rfl, rfl, rfl, rfl, rfl, rfl, rfl, rfl, rfl, rfl, rfl, rfl, rfl, rfl, rfl, rfl, rfl, rfl, rfl, rfl, rfl, rfl, rfl, rfl, rfl, rfl, rfl, rfl, rfl, rfl, rfl, rfl, rfl, rfl, rfl, rfl, rfl, rfl, rfl, rfl, rfl, rfl, rfl, rfl, rfl, rfl, rfl, rfl, rfl, rfl, rfl, rfl, rfl, rfl, rfl, rfl, rfl, rfl, rfl, rfl, rfl, rfl, rfl, rfl, rfl⟩
theorem tok_L_acts (X : XT) : TabOK X M_L_acts (tab_L_acts X) := by
  unfold tab_L_acts
  refine tok_cons (snd_iload_n dL_acts_0 rfl rfl) ?_
  refine tok_cons (snd_iconst dL_acts_1 rfl (inr_d rfl) rfl) ?_
  refine tok_cons (snd_shr dL_acts_2 rfl) ?_
  refine tok_cons (snd_istore_n dL_acts_3 rfl rfl (by decide)) ?_
  refine tok_cons (snd_aload_n dL_acts_4 rfl rfl) ?_
  refine tok_cons (snd_cv dL_acts_5 mok_7_pairCount ⟨wmL_9, wi_7_pairCount, wl_7_pairCount⟩ (rc := (RX7, TX7, 4)) rfl rfl pn_7_pairCount (by decide) ⟨rfl, rfl⟩ rfl) ?_
  refine tok_cons (snd_istore_n dL_acts_8 rfl rfl (by decide)) ?_
  refine tok_cons (snd_iload_n dL_acts_9 rfl rfl) ?_
  refine tok_cons (snd_bipush dL_acts_10 (by decide) (inr_d rfl) rfl) ?_
  refine tok_cons (snd_rem dL_acts_12 rfl) ?_
  refine tok_cons (snd_tsw dL_acts_13 (by decide) rfl rfl) ?_
  refine tok_cons (snd_iload_n dL_acts_72 rfl rfl) ?_
  refine tok_cons (snd_bipush dL_acts_73 (by decide) (inr_d rfl) rfl) ?_
  refine tok_cons (snd_icmp_gt dL_acts_75 (by decide) rfl) ?_
  refine tok_cons (snd_aload_n dL_acts_78 rfl rfl) ?_
  refine tok_cons (snd_iload_n dL_acts_79 rfl rfl) ?_
  refine tok_cons (snd_iload_n dL_acts_80 rfl rfl) ?_
  refine tok_cons (snd_iconst dL_acts_81 rfl (inr_d rfl) rfl) ?_
  refine tok_cons (snd_add dL_acts_82 rfl) ?_
  refine tok_cons (snd_rem dL_acts_83 rfl) ?_
  refine tok_cons (snd_iconst dL_acts_84 rfl (inr_d rfl) rfl) ?_
  refine tok_cons (snd_iload_n dL_acts_85 rfl rfl) ?_
  refine tok_cons (snd_bipush dL_acts_86 (by decide) (inr_d rfl) rfl) ?_
  refine tok_cons (snd_rem dL_acts_88 rfl) ?_
  refine tok_cons (snd_add dL_acts_89 rfl) ?_
  refine tok_cons (snd_iconst dL_acts_90 rfl (inr_d rfl) rfl) ?_
  refine tok_cons (snd_iload_n dL_acts_91 rfl rfl) ?_
  refine tok_cons (snd_iconst dL_acts_92 rfl (inr_d rfl) rfl) ?_
  refine tok_cons (snd_shr dL_acts_93 rfl) ?_
  refine tok_cons (snd_bipush dL_acts_94 (by decide) (inr_d rfl) rfl) ?_
  refine tok_cons (snd_rem dL_acts_96 rfl) ?_
  refine tok_cons (snd_add dL_acts_97 rfl) ?_
  refine tok_cons (snd_cv dL_acts_98 mok_7_insert ⟨wmL_15, wi_7_insert, wl_7_insert⟩ (rc := (RX7, TX7, 4)) rfl rfl pn_7_insert (by decide) ⟨rfl, rfl⟩ rfl) ?_
  refine tok_cons (snd_iload_n dL_acts_101 rfl rfl) ?_
  refine tok_cons (snd_iconst dL_acts_102 rfl (inr_d rfl) rfl) ?_
  refine tok_cons (snd_add dL_acts_103 rfl) ?_
  refine tok_cons (snd_icmp_ne dL_acts_104 (by decide) rfl) ?_
  refine tok_cons (snd_iconst dL_acts_107 rfl (inr_d rfl) rfl) ?_
  refine tok_cons (snd_goto dL_acts_108 (by decide)) ?_
  refine tok_cons (snd_iconst dL_acts_111 rfl (inr_d rfl) rfl) ?_
  refine tok_cons (snd_zret dL_acts_112 rfl) ?_
  refine tok_cons (snd_aload_n dL_acts_113 rfl rfl) ?_
  refine tok_cons (snd_iconst dL_acts_114 rfl (inr_d rfl) rfl) ?_
  refine tok_cons (snd_cv dL_acts_115 mok_7_noteCount ⟨wmL_19, wi_7_noteCount, wl_7_noteCount⟩ (rc := (RX7, TX7, 4)) rfl rfl pn_7_noteCount (by decide) ⟨rfl, rfl⟩ rfl) ?_
  refine tok_cons (snd_aload_n dL_acts_118 rfl rfl) ?_
  refine tok_cons (snd_iconst dL_acts_119 rfl (inr_d rfl) rfl) ?_
  refine tok_cons (snd_cv dL_acts_120 mok_7_noteCount ⟨wmL_19, wi_7_noteCount, wl_7_noteCount⟩ (rc := (RX7, TX7, 4)) rfl rfl pn_7_noteCount (by decide) ⟨rfl, rfl⟩ rfl) ?_
  refine tok_cons (snd_add dL_acts_123 rfl) ?_
  refine tok_cons (snd_bipush dL_acts_124 (by decide) (inr_d rfl) rfl) ?_
  refine tok_cons (snd_icmp_gt dL_acts_126 (by decide) rfl) ?_
  refine tok_cons (snd_aload_n dL_acts_129 rfl rfl) ?_
  refine tok_cons (snd_iload_n dL_acts_130 rfl rfl) ?_
  refine tok_cons (snd_bipush dL_acts_131 (by decide) (inr_d rfl) rfl) ?_
  refine tok_cons (snd_rem dL_acts_133 rfl) ?_
  refine tok_cons (snd_iload_n dL_acts_134 rfl rfl) ?_
  refine tok_cons (snd_iconst dL_acts_135 rfl (inr_d rfl) rfl) ?_
  refine tok_cons (snd_shr dL_acts_136 rfl) ?_
  refine tok_cons (snd_iconst dL_acts_137 rfl (inr_d rfl) rfl) ?_
  refine tok_cons (snd_rem dL_acts_138 rfl) ?_
  refine tok_cons (snd_iload_n dL_acts_139 rfl rfl) ?_
  refine tok_cons (snd_iconst dL_acts_140 rfl (inr_d rfl) rfl) ?_
  refine tok_cons (snd_shr dL_acts_141 rfl) ?_
  refine tok_cons (snd_bipush dL_acts_142 (by decide) (inr_d rfl) rfl) ?_
  refine tok_cons (snd_rem dL_acts_144 rfl) ?_
  refine tok_cons (snd_iconst dL_acts_145 rfl (inr_d rfl) rfl) ?_
  refine tok_cons (snd_iload_n dL_acts_146 rfl rfl) ?_
  refine tok_cons (snd_bipush dL_acts_147 (by decide) (inr_d rfl) rfl) ?_
  refine tok_cons (snd_shr dL_acts_149 rfl) ?_
  refine tok_cons (snd_bipush dL_acts_150 (by decide) (inr_d rfl) rfl) ?_
  refine tok_cons (snd_rem dL_acts_152 rfl) ?_
  refine tok_cons (snd_add dL_acts_153 rfl) ?_
  refine tok_cons (snd_cv dL_acts_154 mok_7_addNote ⟨wmL_23, wi_7_addNote, wl_7_addNote⟩ (rc := (RX7, TX7, 4)) rfl rfl pn_7_addNote (by decide) ⟨rfl, rfl⟩ rfl) ?_
  refine tok_cons (snd_iconst dL_acts_157 rfl (inr_d rfl) rfl) ?_
  refine tok_cons (snd_icmp_lt dL_acts_158 (by decide) rfl) ?_
  refine tok_cons (snd_iconst dL_acts_161 rfl (inr_d rfl) rfl) ?_
  refine tok_cons (snd_goto dL_acts_162 (by decide)) ?_
  refine tok_cons (snd_iconst dL_acts_165 rfl (inr_d rfl) rfl) ?_
  refine tok_cons (snd_zret dL_acts_166 rfl) ?_
  refine tok_cons (snd_aload_n dL_acts_167 rfl rfl) ?_
  refine tok_cons (snd_iload_n dL_acts_168 rfl rfl) ?_
  refine tok_cons (snd_iconst dL_acts_169 rfl (inr_d rfl) rfl) ?_
  refine tok_cons (snd_rem dL_acts_170 rfl) ?_
  refine tok_cons (snd_iload_n dL_acts_171 rfl rfl) ?_
  refine tok_cons (snd_iconst dL_acts_172 rfl (inr_d rfl) rfl) ?_
  refine tok_cons (snd_shr dL_acts_173 rfl) ?_
  refine tok_cons (snd_bipush dL_acts_174 (by decide) (inr_d rfl) rfl) ?_
  refine tok_cons (snd_rem dL_acts_176 rfl) ?_
  refine tok_cons (snd_cv dL_acts_177 mok_7_removeNote ⟨wmL_27, wi_7_removeNote, wl_7_removeNote⟩ (rc := (RX7, TX7, 4)) rfl rfl pn_7_removeNote (by decide) ⟨rfl, rfl⟩ rfl) ?_
  refine tok_cons (snd_bipush dL_acts_180 (by decide) (inr_d rfl) rfl) ?_
  refine tok_cons (snd_icmp_lt dL_acts_182 (by decide) rfl) ?_
  refine tok_cons (snd_iconst dL_acts_185 rfl (inr_d rfl) rfl) ?_
  refine tok_cons (snd_goto dL_acts_186 (by decide)) ?_
  refine tok_cons (snd_iconst dL_acts_189 rfl (inr_d rfl) rfl) ?_
  refine tok_cons (snd_zret dL_acts_190 rfl) ?_
  refine tok_cons (snd_aload_n dL_acts_191 rfl rfl) ?_
  refine tok_cons (snd_iload_n dL_acts_192 rfl rfl) ?_
  refine tok_cons (snd_bipush dL_acts_193 (by decide) (inr_d rfl) rfl) ?_
  refine tok_cons (snd_rem dL_acts_195 rfl) ?_
  refine tok_cons (snd_iload_n dL_acts_196 rfl rfl) ?_
  refine tok_cons (snd_iconst dL_acts_197 rfl (inr_d rfl) rfl) ?_
  refine tok_cons (snd_shr dL_acts_198 rfl) ?_
  refine tok_cons (snd_iconst dL_acts_199 rfl (inr_d rfl) rfl) ?_
  refine tok_cons (snd_rem dL_acts_200 rfl) ?_
  refine tok_cons (snd_iload_n dL_acts_201 rfl rfl) ?_
  refine tok_cons (snd_iconst dL_acts_202 rfl (inr_d rfl) rfl) ?_
  refine tok_cons (snd_shr dL_acts_203 rfl) ?_
  refine tok_cons (snd_iconst dL_acts_204 rfl (inr_d rfl) rfl) ?_
  refine tok_cons (snd_rem dL_acts_205 rfl) ?_
  refine tok_cons (snd_cv dL_acts_206 mok_7_setFlag ⟨wmL_31, wi_7_setFlag, wl_7_setFlag⟩ (rc := (RX7, TX7, 4)) rfl rfl pn_7_setFlag (by decide) ⟨rfl, rfl⟩ rfl) ?_
  refine tok_cons (snd_iconst dL_acts_209 rfl (inr_d rfl) rfl) ?_
  refine tok_cons (snd_icmp_lt dL_acts_210 (by decide) rfl) ?_
  refine tok_cons (snd_iconst dL_acts_213 rfl (inr_d rfl) rfl) ?_
  refine tok_cons (snd_goto dL_acts_214 (by decide)) ?_
  refine tok_cons (snd_iconst dL_acts_217 rfl (inr_d rfl) rfl) ?_
  refine tok_cons (snd_zret dL_acts_218 rfl) ?_
  refine tok_cons (snd_aload_n dL_acts_219 rfl rfl) ?_
  refine tok_cons (snd_iconst dL_acts_220 rfl (inr_d rfl) rfl) ?_
  refine tok_cons (snd_iload_n dL_acts_221 rfl rfl) ?_
  refine tok_cons (snd_iconst dL_acts_222 rfl (inr_d rfl) rfl) ?_
  refine tok_cons (snd_rem dL_acts_223 rfl) ?_
  refine tok_cons (snd_add dL_acts_224 rfl) ?_
  refine tok_cons (snd_iload_n dL_acts_225 rfl rfl) ?_
  refine tok_cons (snd_iconst dL_acts_226 rfl (inr_d rfl) rfl) ?_
  refine tok_cons (snd_shr dL_acts_227 rfl) ?_
  refine tok_cons (snd_iconst dL_acts_228 rfl (inr_d rfl) rfl) ?_
  refine tok_cons (snd_rem dL_acts_229 rfl) ?_
  refine tok_cons (snd_cv dL_acts_230 mok_7_set ⟨wmL_34, wi_7_set, wl_7_set⟩ (rc := (RX7, TX7, 4)) rfl rfl pn_7_set (by decide) ⟨rfl, rfl⟩ rfl) ?_
  refine tok_cons (snd_iconst dL_acts_233 rfl (inr_d rfl) rfl) ?_
  refine tok_cons (snd_icmp_lt dL_acts_234 (by decide) rfl) ?_
  refine tok_cons (snd_iconst dL_acts_237 rfl (inr_d rfl) rfl) ?_
  refine tok_cons (snd_goto dL_acts_238 (by decide)) ?_
  refine tok_cons (snd_iconst dL_acts_241 rfl (inr_d rfl) rfl) ?_
  refine tok_cons (snd_zret dL_acts_242 rfl) ?_
  refine tok_cons (snd_aload_n dL_acts_243 rfl rfl) ?_
  refine tok_cons (snd_iconst dL_acts_244 rfl (inr_d rfl) rfl) ?_
  refine tok_cons (snd_bipush dL_acts_245 (by decide) (inr_d rfl) rfl) ?_
  refine tok_cons (snd_iload_n dL_acts_247 rfl rfl) ?_
  refine tok_cons (snd_bipush dL_acts_248 (by decide) (inr_d rfl) rfl) ?_
  refine tok_cons (snd_rem dL_acts_250 rfl) ?_
  refine tok_cons (snd_add dL_acts_251 rfl) ?_
  refine tok_cons (snd_cv dL_acts_252 mok_7_set ⟨wmL_34, wi_7_set, wl_7_set⟩ (rc := (RX7, TX7, 4)) rfl rfl pn_7_set (by decide) ⟨rfl, rfl⟩ rfl) ?_
  refine tok_cons (snd_bipush dL_acts_255 (by decide) (inr_d rfl) rfl) ?_
  refine tok_cons (snd_icmp_lt dL_acts_257 (by decide) rfl) ?_
  refine tok_cons (snd_iconst dL_acts_260 rfl (inr_d rfl) rfl) ?_
  refine tok_cons (snd_goto dL_acts_261 (by decide)) ?_
  refine tok_cons (snd_iconst dL_acts_264 rfl (inr_d rfl) rfl) ?_
  refine tok_cons (snd_zret dL_acts_265 rfl) ?_
  refine tok_cons (snd_iload_n dL_acts_266 rfl rfl) ?_
  refine tok_cons (snd_iconst dL_acts_267 rfl (inr_d rfl) rfl) ?_
  refine tok_cons (snd_rem dL_acts_268 rfl) ?_
  refine tok_cons (snd_if_gt dL_acts_269 (by decide) rfl) ?_
  refine tok_cons (snd_aload_n dL_acts_272 rfl rfl) ?_
  refine tok_cons (snd_cv dL_acts_273 mok_7_undo ⟨wmL_37, wi_7_undo, wl_7_undo⟩ (rc := (RX7, TX7, 4)) rfl rfl pn_7_undo (by decide) ⟨rfl, rfl⟩ rfl) ?_
  refine tok_cons (snd_bipush dL_acts_276 (by decide) (inr_d rfl) rfl) ?_
  refine tok_cons (snd_icmp_lt dL_acts_278 (by decide) rfl) ?_
  refine tok_cons (snd_iconst dL_acts_281 rfl (inr_d rfl) rfl) ?_
  refine tok_cons (snd_goto dL_acts_282 (by decide)) ?_
  refine tok_cons (snd_iconst dL_acts_285 rfl (inr_d rfl) rfl) ?_
  refine tok_cons (snd_zret dL_acts_286 rfl) ?_
  exact tok_nil
def tab_L_shows (X : XT) : Tab := [(0, false, a_const 1 1), (1, false, a_istore 2 2), (2, false, a_const 0 3), (3, false, a_istore 3 4), (4, true, a_iload 3 5), (5, false, a_const 2 6), (6, false, a_icmp 3 479 9), (9, false, a_iload 2 10), (10, false, a_if 0 479 13), (13, false, a_const 0 14), (14, false, a_istore 4 16), (16, false, a_const 0 17), (17, false, a_istore 5 19), (19, false, a_const 0 20), (20, false, a_istore 6 22), (22, false, a_const 0 23), (23, false, a_istore 7 25), (25, false, a_const 0 26), (26, false, a_istore 8 28), (28, true, a_iload 8 30), (30, false, a_iload 1 31), (31, false, a_icmp 3 434 34), (34, false, a_iload 2 35), (35, false, a_if 0 434 38), (38, false, a_const 0 39), (39, false, a_istore 9 41), (41, false, a_const 0 42), (42, false, a_istore 10 44), (44, false, a_const 0 45), (45, false, a_istore 11 47), (47, true, a_iload 11 49), (49, false, a_const 100 51), (51, false, a_icmp 3 328 54), (54, false, a_iload 2 55), (55, false, a_if 0 328 58), (58, false, a_aload 0 59), (59, false, a_iload 8 61), (61, false, a_iload 3 62), (62, false, a_iload 11 64), (64, false, a_cv X M_L_shows M_7_shown 7 4 67), (67, false, a_istore 12 69), (69, false, a_iload 12 71), (71, false, a_const 20000 74), (74, false, a_icmp 2 195 77), (77, false, a_iload 12 79), (79, false, a_const 30000 82), (82, false, a_icmp 3 195 85), (85, false, a_iload 12 87), (87, false, a_const 20000 90), (90, false, a_const 100 92), (92, false, a_iload 6 94), (94, false, a_mul 95), (95, false, a_add 96), (96, false, a_iload 7 98), (98, false, a_add 99), (99, false, a_icmp 1 132 102), (102, false, a_aload 0 103), (103, false, a_aload 0 104), (104, false, a_iload 3 105), (105, false, a_iload 6 107), (107, false, a_const 0 108), (108, false, a_cv X M_L_shows M_7_noteInfo 7 4 111), (111, false, a_iload 3 112), (112, false, a_aload 0 113), (113, false, a_iload 3 114), (114, false, a_iload 6 116), (116, false, a_const 1 117), (117, false, a_cv X M_L_shows M_7_noteInfo 7 4 120), (120, false, a_cv X M_L_shows M_7_spreadOf 7 4 123), (123, false, a_iload 8 125), (125, false, a_icmp 4 132 128), (128, false, a_const 1 129), (129, false, a_goto 133), (132, false, a_const 0 133), (133, false, a_istore 2 134), (134, false, a_iinc 7 1 137), (137, false, a_iload 2 138), (138, false, a_if 0 158 141), (141, false, a_iload 7 143), (143, false, a_aload 0 144), (144, false, a_iload 3 145), (145, false, a_iload 6 147), (147, false, a_const 2 148), (148, false, a_cv X M_L_shows M_7_noteInfo 7 4 151), (151, false, a_icmp 1 158 154), (154, false, a_const 1 155), (155, false, a_goto 159), (158, false, a_const 0 159), (159, false, a_istore 13 161), (161, false, a_iload 6 163), (163, false, a_iload 13 165), (165, false, a_if 0 172 168), (168, false, a_const 1 169), (169, false, a_goto 173), (172, false, a_const 0 173), (173, false, a_add 174), (174, false, a_istore 6 176), (176, false, a_iload 13 178), (178, false, a_if 0 185 181), (181, false, a_const 0 182), (182, false, a_goto 187), (185, false, a_iload 7 187), (187, false, a_istore 7 189), (189, false, a_iinc 10 1 192), (192, false, a_goto 322), (195, false, a_iload 12 197), (197, false, a_const 10000 200), (200, false, a_icmp 2 322 203), (203, false, a_iload 12 205), (205, false, a_const 20000 208), (208, false, a_icmp 3 322 211), (211, false, a_iload 12 213), (213, false, a_const 10000 216), (216, false, a_const 100 218), (218, false, a_iload 4 220), (220, false, a_mul 221), (221, false, a_add 222), (222, false, a_iload 5 224), (224, false, a_add 225), (225, false, a_icmp 1 260 228), (228, false, a_aload 0 229), (229, false, a_iload 4 231), (231, false, a_iload 3 232), (232, false, a_iload 5 234), (234, false, a_cv X M_L_shows M_7_spreadOf 7 4 237), (237, false, a_iload 8 239), (239, false, a_icmp 1 260 242), (242, false, a_aload 0 243), (243, false, a_iload 4 245), (245, false, a_iload 3 246), (246, false, a_iload 5 248), (248, false, a_cv X M_L_shows M_7_rowOf 7 4 251), (251, false, a_iload 11 253), (253, false, a_icmp 1 260 256), (256, false, a_const 1 257), (257, false, a_goto 261), (260, false, a_const 0 261), (261, false, a_istore 2 262), (262, false, a_iinc 5 1 265), (265, false, a_iload 2 266), (266, false, a_if 0 285 269), (269, false, a_iload 5 271), (271, false, a_aload 0 272), (272, false, a_iload 4 274), (274, false, a_iload 3 275), (275, false, a_cv X M_L_shows M_7_pairInfo 7 3 278), (278, false, a_icmp 1 285 281), (281, false, a_const 1 282), (282, false, a_goto 286), (285, false, a_const 0 286), (286, false, a_istore 13 288), (288, false, a_iload 4 290), (290, false, a_iload 13 292), (292, false, a_if 0 299 295), (295, false, a_const 1 296), (296, false, a_goto 300), (299, false, a_const 0 300), (300, false, a_add 301), (301, false, a_istore 4 303), (303, false, a_iload 13 305), (305, false, a_if 0 312 308), (308, false, a_const 0 309), (309, false, a_goto 314), (312, false, a_iload 5 314), (314, false, a_istore 5 316), (316, false, a_iload 11 318), (318, false, a_const 1 319), (319, false, a_add 320), (320, false, a_istore 9 322), (322, false, a_iinc 11 1 325), (325, false, a_goto 47), (328, true, a_iload 2 329), (329, false, a_if 0 378 332), (332, false, a_aload 0 333), (333, false, a_iload 8 335), (335, false, a_iload 3 336), (336, false, a_const 0 337), (337, false, a_cv X M_L_shows M_7_pageInfo 7 4 340), (340, false, a_iload 9 342), (342, false, a_icmp 1 378 345), (345, false, a_iload 10 347), (347, false, a_if 1 354 350), (350, false, a_const 1 351), (351, false, a_goto 355), (354, false, a_const 0 355), (355, false, a_aload 0 356), (356, false, a_iload 8 358), (358, false, a_iload 3 359), (359, false, a_const 1 360), (360, false, a_cv X M_L_shows M_7_pageInfo 7 4 363), (363, false, a_if 1 370 366), (366, false, a_const 1 367), (367, false, a_goto 371), (370, false, a_const 0 371), (371, false, a_icmp 1 378 374), (374, false, a_const 1 375), (375, false, a_goto 379), (378, false, a_const 0 379), (379, false, a_istore 2 380), (380, true, a_iload 2 381), (381, false, a_if 0 426 384), (384, false, a_iload 8 386), (386, false, a_if 0 410 389), (389, false, a_aload 0 390), (390, false, a_iload 8 392), (392, false, a_iload 3 393), (393, false, a_const 3 394), (394, false, a_cv X M_L_shows M_7_pageInfo 7 4 397), (397, false, a_aload 0 398), (398, false, a_iload 8 400), (400, false, a_const 1 401), (401, false, a_sub 402), (402, false, a_iload 3 403), (403, false, a_const 4 404), (404, false, a_cv X M_L_shows M_7_pageInfo 7 4 407), (407, false, a_icmp 1 426 410), (410, false, a_aload 0 411), (411, false, a_iload 8 413), (413, false, a_iload 3 414), (414, false, a_const 4 415), (415, false, a_cv X M_L_shows M_7_pageInfo 7 4 418), (418, false, a_const 5 419), (419, false, a_icmp 4 426 422), (422, false, a_const 1 423), (423, false, a_goto 427), (426, false, a_const 0 427), (427, false, a_istore 2 428), (428, false, a_iinc 8 1 431), (431, false, a_goto 28), (434, true, a_iload 2 435), (435, false, a_if 0 471 438), (438, false, a_iload 4 440), (440, false, a_aload 0 441), (441, false, a_cv X M_L_shows M_7_pairCount 7 1 444), (444, false, a_icmp 1 471 447), (447, false, a_iload 5 449), (449, false, a_if 1 471 452), (452, false, a_iload 6 454), (454, false, a_aload 0 455), (455, false, a_iload 3 456), (456, false, a_cv X M_L_shows M_7_noteCount 7 2 459), (459, false, a_icmp 1 471 462), (462, false, a_iload 7 464), (464, false, a_if 1 471 467), (467, false, a_const 1 468), (468, false, a_goto 472), (471, false, a_const 0 472), (472, false, a_istore 2 473), (473, false, a_iinc 3 1 476), (476, false, a_goto 4), (479, false, a_iload 2 480), (480, false, a_zret M_L_shows)]
set_option maxRecDepth 20000 in
theorem t_L_shows (X : XT) : tget (tab_L_shows X) 0 = some (false, a_const 1 1) ∧ tget (tab_L_shows X) 1 = some (false, a_istore 2 2) ∧ tget (tab_L_shows X) 2 = some (false, a_const 0 3) ∧ tget (tab_L_shows X) 3 = some (false, a_istore 3 4) ∧ tget (tab_L_shows X) 4 = some (true, a_iload 3 5) ∧ tget (tab_L_shows X) 5 = some (false, a_const 2 6) ∧ tget (tab_L_shows X) 6 = some (false, a_icmp 3 479 9) ∧ tget (tab_L_shows X) 9 = some (false, a_iload 2 10) ∧ tget (tab_L_shows X) 10 = some (false, a_if 0 479 13) ∧ tget (tab_L_shows X) 13 = some (false, a_const 0 14) ∧ tget (tab_L_shows X) 14 = some (false, a_istore 4 16) ∧ tget (tab_L_shows X) 16 = some (false, a_const 0 17) ∧ tget (tab_L_shows X) 17 = some (false, a_istore 5 19) ∧ tget (tab_L_shows X) 19 = some (false, a_const 0 20) ∧ tget (tab_L_shows X) 20 = some (false, a_istore 6 22) ∧ tget (tab_L_shows X) 22 = some (false, a_const 0 23) ∧ tget (tab_L_shows X) 23 = some (false, a_istore 7 25) ∧ tget (tab_L_shows X) 25 = some (false, a_const 0 26) ∧ tget (tab_L_shows X) 26 = some (false, a_istore 8 28) ∧ tget (tab_L_shows X) 28 = some (true, a_iload 8 30) ∧ tget (tab_L_shows X) 30 = some (false, a_iload 1 31) ∧ tget (tab_L_shows X) 31 = some (false, a_icmp 3 434 34) ∧ tget (tab_L_shows X) 34 = some (false, a_iload 2 35) ∧ tget (tab_L_shows X) 35 = some (false, a_if 0 434 38) ∧ tget (tab_L_shows X) 38 = some (false, a_const 0 39) ∧ tget (tab_L_shows X) 39 = some (false, a_istore 9 41) ∧ tget (tab_L_shows X) 41 = some (false, a_const 0 42) ∧ tget (tab_L_shows X) 42 = some (false, a_istore 10 44) ∧ tget (tab_L_shows X) 44 = some (false, a_const 0 45) ∧ tget (tab_L_shows X) 45 = some (false, a_istore 11 47) ∧ tget (tab_L_shows X) 47 = some (true, a_iload 11 49) ∧ tget (tab_L_shows X) 49 = some (false, a_const 100 51) ∧ tget (tab_L_shows X) 51 = some (false, a_icmp 3 328 54) ∧ tget (tab_L_shows X) 54 = some (false, a_iload 2 55) ∧ tget (tab_L_shows X) 55 = some (false, a_if 0 328 58) ∧ tget (tab_L_shows X) 58 = some (false, a_aload 0 59) ∧ tget (tab_L_shows X) 59 = some (false, a_iload 8 61) ∧ tget (tab_L_shows X) 61 = some (false, a_iload 3 62) ∧ tget (tab_L_shows X) 62 = some (false, a_iload 11 64) ∧ tget (tab_L_shows X) 64 = some (false, a_cv X M_L_shows M_7_shown 7 4 67) ∧ tget (tab_L_shows X) 67 = some (false, a_istore 12 69) ∧ tget (tab_L_shows X) 69 = some (false, a_iload 12 71) ∧ tget (tab_L_shows X) 71 = some (false, a_const 20000 74) ∧ tget (tab_L_shows X) 74 = some (false, a_icmp 2 195 77) ∧ tget (tab_L_shows X) 77 = some (false, a_iload 12 79) ∧ tget (tab_L_shows X) 79 = some (false, a_const 30000 82) ∧ tget (tab_L_shows X) 82 = some (false, a_icmp 3 195 85) ∧ tget (tab_L_shows X) 85 = some (false, a_iload 12 87) ∧ tget (tab_L_shows X) 87 = some (false, a_const 20000 90) ∧ tget (tab_L_shows X) 90 = some (false, a_const 100 92) ∧ tget (tab_L_shows X) 92 = some (false, a_iload 6 94) ∧ tget (tab_L_shows X) 94 = some (false, a_mul 95) ∧ tget (tab_L_shows X) 95 = some (false, a_add 96) ∧ tget (tab_L_shows X) 96 = some (false, a_iload 7 98) ∧ tget (tab_L_shows X) 98 = some (false, a_add 99) ∧ tget (tab_L_shows X) 99 = some (false, a_icmp 1 132 102) ∧ tget (tab_L_shows X) 102 = some (false, a_aload 0 103) ∧ tget (tab_L_shows X) 103 = some (false, a_aload 0 104) ∧ tget (tab_L_shows X) 104 = some (false, a_iload 3 105) ∧ tget (tab_L_shows X) 105 = some (false, a_iload 6 107) ∧ tget (tab_L_shows X) 107 = some (false, a_const 0 108) ∧ tget (tab_L_shows X) 108 = some (false, a_cv X M_L_shows M_7_noteInfo 7 4 111) ∧ tget (tab_L_shows X) 111 = some (false, a_iload 3 112) ∧ tget (tab_L_shows X) 112 = some (false, a_aload 0 113) ∧ tget (tab_L_shows X) 113 = some (false, a_iload 3 114) ∧ tget (tab_L_shows X) 114 = some (false, a_iload 6 116) ∧ tget (tab_L_shows X) 116 = some (false, a_const 1 117) ∧ tget (tab_L_shows X) 117 = some (false, a_cv X M_L_shows M_7_noteInfo 7 4 120) ∧ tget (tab_L_shows X) 120 = some (false, a_cv X M_L_shows M_7_spreadOf 7 4 123) ∧ tget (tab_L_shows X) 123 = some (false, a_iload 8 125) ∧ tget (tab_L_shows X) 125 = some (false, a_icmp 4 132 128) ∧ tget (tab_L_shows X) 128 = some (false, a_const 1 129) ∧ tget (tab_L_shows X) 129 = some (false, a_goto 133) ∧ tget (tab_L_shows X) 132 = some (false, a_const 0 133) ∧ tget (tab_L_shows X) 133 = some (false, a_istore 2 134) ∧ tget (tab_L_shows X) 134 = some (false, a_iinc 7 1 137) ∧ tget (tab_L_shows X) 137 = some (false, a_iload 2 138) ∧ tget (tab_L_shows X) 138 = some (false, a_if 0 158 141) ∧ tget (tab_L_shows X) 141 = some (false, a_iload 7 143) ∧ tget (tab_L_shows X) 143 = some (false, a_aload 0 144) ∧ tget (tab_L_shows X) 144 = some (false, a_iload 3 145) ∧ tget (tab_L_shows X) 145 = some (false, a_iload 6 147) ∧ tget (tab_L_shows X) 147 = some (false, a_const 2 148) ∧ tget (tab_L_shows X) 148 = some (false, a_cv X M_L_shows M_7_noteInfo 7 4 151) ∧ tget (tab_L_shows X) 151 = some (false, a_icmp 1 158 154) ∧ tget (tab_L_shows X) 154 = some (false, a_const 1 155) ∧ tget (tab_L_shows X) 155 = some (false, a_goto 159) ∧ tget (tab_L_shows X) 158 = some (false, a_const 0 159) ∧ tget (tab_L_shows X) 159 = some (false, a_istore 13 161) ∧ tget (tab_L_shows X) 161 = some (false, a_iload 6 163) ∧ tget (tab_L_shows X) 163 = some (false, a_iload 13 165) ∧ tget (tab_L_shows X) 165 = some (false, a_if 0 172 168) ∧ tget (tab_L_shows X) 168 = some (false, a_const 1 169) ∧ tget (tab_L_shows X) 169 = some (false, a_goto 173) ∧ tget (tab_L_shows X) 172 = some (false, a_const 0 173) ∧ tget (tab_L_shows X) 173 = some (false, a_add 174) ∧ tget (tab_L_shows X) 174 = some (false, a_istore 6 176) ∧ tget (tab_L_shows X) 176 = some (false, a_iload 13 178) ∧ tget (tab_L_shows X) 178 = some (false, a_if 0 185 181) ∧ tget (tab_L_shows X) 181 = some (false, a_const 0 182) ∧ tget (tab_L_shows X) 182 = some (false, a_goto 187) ∧ tget (tab_L_shows X) 185 = some (false, a_iload 7 187) ∧ tget (tab_L_shows X) 187 = some (false, a_istore 7 189) ∧ tget (tab_L_shows X) 189 = some (false, a_iinc 10 1 192) ∧ tget (tab_L_shows X) 192 = some (false, a_goto 322) ∧ tget (tab_L_shows X) 195 = some (false, a_iload 12 197) ∧ tget (tab_L_shows X) 197 = some (false, a_const 10000 200) ∧ tget (tab_L_shows X) 200 = some (false, a_icmp 2 322 203) ∧ tget (tab_L_shows X) 203 = some (false, a_iload 12 205) ∧ tget (tab_L_shows X) 205 = some (false, a_const 20000 208) ∧ tget (tab_L_shows X) 208 = some (false, a_icmp 3 322 211) ∧ tget (tab_L_shows X) 211 = some (false, a_iload 12 213) ∧ tget (tab_L_shows X) 213 = some (false, a_const 10000 216) ∧ tget (tab_L_shows X) 216 = some (false, a_const 100 218) ∧ tget (tab_L_shows X) 218 = some (false, a_iload 4 220) ∧ tget (tab_L_shows X) 220 = some (false, a_mul 221) ∧ tget (tab_L_shows X) 221 = some (false, a_add 222) ∧ tget (tab_L_shows X) 222 = some (false, a_iload 5 224) ∧ tget (tab_L_shows X) 224 = some (false, a_add 225) ∧ tget (tab_L_shows X) 225 = some (false, a_icmp 1 260 228) ∧ tget (tab_L_shows X) 228 = some (false, a_aload 0 229) ∧ tget (tab_L_shows X) 229 = some (false, a_iload 4 231) ∧ tget (tab_L_shows X) 231 = some (false, a_iload 3 232) ∧ tget (tab_L_shows X) 232 = some (false, a_iload 5 234) ∧ tget (tab_L_shows X) 234 = some (false, a_cv X M_L_shows M_7_spreadOf 7 4 237) ∧ tget (tab_L_shows X) 237 = some (false, a_iload 8 239) ∧ tget (tab_L_shows X) 239 = some (false, a_icmp 1 260 242) ∧ tget (tab_L_shows X) 242 = some (false, a_aload 0 243) ∧ tget (tab_L_shows X) 243 = some (false, a_iload 4 245) ∧ tget (tab_L_shows X) 245 = some (false, a_iload 3 246) ∧ tget (tab_L_shows X) 246 = some (false, a_iload 5 248) ∧ tget (tab_L_shows X) 248 = some (false, a_cv X M_L_shows M_7_rowOf 7 4 251) ∧ tget (tab_L_shows X) 251 = some (false, a_iload 11 253) ∧ tget (tab_L_shows X) 253 = some (false, a_icmp 1 260 256) ∧ tget (tab_L_shows X) 256 = some (false, a_const 1 257) ∧ tget (tab_L_shows X) 257 = some (false, a_goto 261) ∧ tget (tab_L_shows X) 260 = some (false, a_const 0 261) ∧ tget (tab_L_shows X) 261 = some (false, a_istore 2 262) ∧ tget (tab_L_shows X) 262 = some (false, a_iinc 5 1 265) ∧ tget (tab_L_shows X) 265 = some (false, a_iload 2 266) ∧ tget (tab_L_shows X) 266 = some (false, a_if 0 285 269) ∧ tget (tab_L_shows X) 269 = some (false, a_iload 5 271) ∧ tget (tab_L_shows X) 271 = some (false, a_aload 0 272) ∧ tget (tab_L_shows X) 272 = some (false, a_iload 4 274) ∧ tget (tab_L_shows X) 274 = some (false, a_iload 3 275) ∧ tget (tab_L_shows X) 275 = some (false, a_cv X M_L_shows M_7_pairInfo 7 3 278) ∧ tget (tab_L_shows X) 278 = some (false, a_icmp 1 285 281) ∧ tget (tab_L_shows X) 281 = some (false, a_const 1 282) ∧ tget (tab_L_shows X) 282 = some (false, a_goto 286) ∧ tget (tab_L_shows X) 285 = some (false, a_const 0 286) ∧ tget (tab_L_shows X) 286 = some (false, a_istore 13 288) ∧ tget (tab_L_shows X) 288 = some (false, a_iload 4 290) ∧ tget (tab_L_shows X) 290 = some (false, a_iload 13 292) ∧ tget (tab_L_shows X) 292 = some (false, a_if 0 299 295) ∧ tget (tab_L_shows X) 295 = some (false, a_const 1 296) ∧ tget (tab_L_shows X) 296 = some (false, a_goto 300) ∧ tget (tab_L_shows X) 299 = some (false, a_const 0 300) ∧ tget (tab_L_shows X) 300 = some (false, a_add 301) ∧ tget (tab_L_shows X) 301 = some (false, a_istore 4 303) ∧ tget (tab_L_shows X) 303 = some (false, a_iload 13 305) ∧ tget (tab_L_shows X) 305 = some (false, a_if 0 312 308) ∧ tget (tab_L_shows X) 308 = some (false, a_const 0 309) ∧ tget (tab_L_shows X) 309 = some (false, a_goto 314) ∧ tget (tab_L_shows X) 312 = some (false, a_iload 5 314) ∧ tget (tab_L_shows X) 314 = some (false, a_istore 5 316) ∧ tget (tab_L_shows X) 316 = some (false, a_iload 11 318) ∧ tget (tab_L_shows X) 318 = some (false, a_const 1 319) ∧ tget (tab_L_shows X) 319 = some (false, a_add 320) ∧ tget (tab_L_shows X) 320 = some (false, a_istore 9 322) ∧ tget (tab_L_shows X) 322 = some (false, a_iinc 11 1 325) ∧ tget (tab_L_shows X) 325 = some (false, a_goto 47) ∧ tget (tab_L_shows X) 328 = some (true, a_iload 2 329) ∧ tget (tab_L_shows X) 329 = some (false, a_if 0 378 332) ∧ tget (tab_L_shows X) 332 = some (false, a_aload 0 333) ∧ tget (tab_L_shows X) 333 = some (false, a_iload 8 335) ∧ tget (tab_L_shows X) 335 = some (false, a_iload 3 336) ∧ tget (tab_L_shows X) 336 = some (false, a_const 0 337) ∧ tget (tab_L_shows X) 337 = some (false, a_cv X M_L_shows M_7_pageInfo 7 4 340) ∧ tget (tab_L_shows X) 340 = some (false, a_iload 9 342) ∧ tget (tab_L_shows X) 342 = some (false, a_icmp 1 378 345) ∧ tget (tab_L_shows X) 345 = some (false, a_iload 10 347) ∧ tget (tab_L_shows X) 347 = some (false, a_if 1 354 350) ∧ tget (tab_L_shows X) 350 = some (false, a_const 1 351) ∧ tget (tab_L_shows X) 351 = some (false, a_goto 355) ∧ tget (tab_L_shows X) 354 = some (false, a_const 0 355) ∧ tget (tab_L_shows X) 355 = some (false, a_aload 0 356) ∧ tget (tab_L_shows X) 356 = some (false, a_iload 8 358) ∧ tget (tab_L_shows X) 358 = some (false, a_iload 3 359) ∧ tget (tab_L_shows X) 359 = some (false, a_const 1 360) ∧ tget (tab_L_shows X) 360 = some (false, a_cv X M_L_shows M_7_pageInfo 7 4 363) ∧ tget (tab_L_shows X) 363 = some (false, a_if 1 370 366) ∧ tget (tab_L_shows X) 366 = some (false, a_const 1 367) ∧ tget (tab_L_shows X) 367 = some (false, a_goto 371) ∧ tget (tab_L_shows X) 370 = some (false, a_const 0 371) ∧ tget (tab_L_shows X) 371 = some (false, a_icmp 1 378 374) ∧ tget (tab_L_shows X) 374 = some (false, a_const 1 375) ∧ tget (tab_L_shows X) 375 = some (false, a_goto 379) ∧ tget (tab_L_shows X) 378 = some (false, a_const 0 379) ∧ tget (tab_L_shows X) 379 = some (false, a_istore 2 380) ∧ tget (tab_L_shows X) 380 = some (true, a_iload 2 381) ∧ tget (tab_L_shows X) 381 = some (false, a_if 0 426 384) ∧ tget (tab_L_shows X) 384 = some (false, a_iload 8 386) ∧ tget (tab_L_shows X) 386 = some (false, a_if 0 410 389) ∧ tget (tab_L_shows X) 389 = some (false, a_aload 0 390) ∧ tget (tab_L_shows X) 390 = some (false, a_iload 8 392) ∧ tget (tab_L_shows X) 392 = some (false, a_iload 3 393) ∧ tget (tab_L_shows X) 393 = some (false, a_const 3 394) ∧ tget (tab_L_shows X) 394 = some (false, a_cv X M_L_shows M_7_pageInfo 7 4 397) ∧ tget (tab_L_shows X) 397 = some (false, a_aload 0 398) ∧ tget (tab_L_shows X) 398 = some (false, a_iload 8 400) ∧ tget (tab_L_shows X) 400 = some (false, a_const 1 401) ∧ tget (tab_L_shows X) 401 = some (false, a_sub 402) ∧ tget (tab_L_shows X) 402 = some (false, a_iload 3 403) ∧ tget (tab_L_shows X) 403 = some (false, a_const 4 404) ∧ tget (tab_L_shows X) 404 = some (false, a_cv X M_L_shows M_7_pageInfo 7 4 407) ∧ tget (tab_L_shows X) 407 = some (false, a_icmp 1 426 410) ∧ tget (tab_L_shows X) 410 = some (false, a_aload 0 411) ∧ tget (tab_L_shows X) 411 = some (false, a_iload 8 413) ∧ tget (tab_L_shows X) 413 = some (false, a_iload 3 414) ∧ tget (tab_L_shows X) 414 = some (false, a_const 4 415) ∧ tget (tab_L_shows X) 415 = some (false, a_cv X M_L_shows M_7_pageInfo 7 4 418) ∧ tget (tab_L_shows X) 418 = some (false, a_const 5 419) ∧ tget (tab_L_shows X) 419 = some (false, a_icmp 4 426 422) ∧ tget (tab_L_shows X) 422 = some (false, a_const 1 423) ∧ tget (tab_L_shows X) 423 = some (false, a_goto 427) ∧ tget (tab_L_shows X) 426 = some (false, a_const 0 427) ∧ tget (tab_L_shows X) 427 = some (false, a_istore 2 428) ∧ tget (tab_L_shows X) 428 = some (false, a_iinc 8 1 431) ∧ tget (tab_L_shows X) 431 = some (false, a_goto 28) ∧ tget (tab_L_shows X) 434 = some (true, a_iload 2 435) ∧ tget (tab_L_shows X) 435 = some (false, a_if 0 471 438) ∧ tget (tab_L_shows X) 438 = some (false, a_iload 4 440) ∧ tget (tab_L_shows X) 440 = some (false, a_aload 0 441) ∧ tget (tab_L_shows X) 441 = some (false, a_cv X M_L_shows M_7_pairCount 7 1 444) ∧ tget (tab_L_shows X) 444 = some (false, a_icmp 1 471 447) ∧ tget (tab_L_shows X) 447 = some (false, a_iload 5 449) ∧ tget (tab_L_shows X) 449 = some (false, a_if 1 471 452) ∧ tget (tab_L_shows X) 452 = some (false, a_iload 6 454) ∧ tget (tab_L_shows X) 454 = some (false, a_aload 0 455) ∧ tget (tab_L_shows X) 455 = some (false, a_iload 3 456) ∧ tget (tab_L_shows X) 456 = some (false, a_cv X M_L_shows M_7_noteCount 7 2 459) ∧ tget (tab_L_shows X) 459 = some (false, a_icmp 1 471 462) ∧ tget (tab_L_shows X) 462 = some (false, a_iload 7 464) ∧ tget (tab_L_shows X) 464 = some (false, a_if 1 471 467) ∧ tget (tab_L_shows X) 467 = some (false, a_const 1 468) ∧ tget (tab_L_shows X) 468 = some (false, a_goto 472) ∧ tget (tab_L_shows X) 471 = some (false, a_const 0 472) ∧ tget (tab_L_shows X) 472 = some (false, a_istore 2 473) ∧ tget (tab_L_shows X) 473 = some (false, a_iinc 3 1 476) ∧ tget (tab_L_shows X) 476 = some (false, a_goto 4) ∧ tget (tab_L_shows X) 479 = some (false, a_iload 2 480) ∧ tget (tab_L_shows X) 480 = some (false, a_zret M_L_shows) := ⟨rfl, rfl, rfl, rfl, rfl, rfl, rfl, rfl, rfl, rfl, rfl, rfl, rfl, rfl, rfl, rfl, rfl, rfl, rfl, rfl, rfl, rfl, rfl, rfl, rfl, rfl, rfl, rfl, rfl, rfl, rfl, rfl, rfl, rfl, rfl, rfl, rfl, rfl, rfl, rfl, rfl, rfl, rfl, rfl, rfl, rfl, rfl, rfl, rfl, rfl, rfl, rfl, rfl, rfl, rfl, rfl, rfl, rfl, rfl, rfl, rfl, rfl, rfl, rfl, rfl, rfl, rfl, rfl, rfl, rfl, rfl, rfl, rfl, rfl, rfl, rfl, rfl, rfl, rfl, rfl, rfl, rfl, rfl, rfl, rfl, rfl, rfl, rfl, rfl, rfl, rfl, rfl, rfl, rfl, rfl, rfl, rfl, rfl, rfl, rfl, rfl, rfl, rfl, rfl, rfl, rfl, rfl, rfl, rfl, rfl, rfl, rfl, rfl, rfl, rfl, rfl, rfl, rfl, rfl, rfl, rfl, rfl, rfl, rfl, rfl, rfl, rfl, rfl, rfl, rfl, rfl, rfl, rfl, rfl, rfl, rfl, rfl, rfl, rfl, rfl, rfl, rfl, rfl, rfl, rfl, rfl, rfl, rfl, rfl, rfl, rfl, rfl, rfl, rfl, rfl, rfl, rfl, rfl, rfl, rfl, rfl, rfl, rfl, rfl, rfl, rfl, rfl, rfl, rfl, rfl, rfl, rfl, rfl, rfl, rfl, rfl, rfl, rfl, rfl, rfl, rfl, rfl, rfl, rfl, rfl, rfl, rfl, rfl, rfl, rfl, rfl, rfl, rfl, rfl, rfl, rfl, rfl, rfl, rfl, rfl, rfl, rfl, rfl, rfl, rfl, rfl, rfl, rfl, rfl, rfl, rfl, rfl, rfl, rfl, rfl, rfl, rfl, rfl, rfl, rfl, rfl, rfl, rfl, rfl, rfl, rfl, rfl, rfl, rfl, rfl, rfl, rfl, rfl, rfl, rfl, rfl, rfl, rfl, rfl, rfl, rfl, rfl, rfl, rfl, rfl, rfl, rfl, rfl, rfl, rfl, rfl, rfl⟩
theorem tok_L_shows (X : XT) : TabOK X M_L_shows (tab_L_shows X) := by
  unfold tab_L_shows
  refine tok_cons (snd_iconst dL_shows_0 rfl (inr_d rfl) rfl) ?_
  refine tok_cons (snd_istore_n dL_shows_1 rfl rfl (by decide)) ?_
  refine tok_cons (snd_iconst dL_shows_2 rfl (inr_d rfl) rfl) ?_
  refine tok_cons (snd_istore_n dL_shows_3 rfl rfl (by decide)) ?_
  refine tok_cons (snd_iload_n dL_shows_4 rfl rfl) ?_
  refine tok_cons (snd_iconst dL_shows_5 rfl (inr_d rfl) rfl) ?_
  refine tok_cons (snd_icmp_ge dL_shows_6 (by decide) rfl) ?_
  refine tok_cons (snd_iload_n dL_shows_9 rfl rfl) ?_
  refine tok_cons (snd_if_eq dL_shows_10 (by decide) rfl) ?_
  refine tok_cons (snd_iconst dL_shows_13 rfl (inr_d rfl) rfl) ?_
  refine tok_cons (snd_istore dL_shows_14 rfl (by decide)) ?_
  refine tok_cons (snd_iconst dL_shows_16 rfl (inr_d rfl) rfl) ?_
  refine tok_cons (snd_istore dL_shows_17 rfl (by decide)) ?_
  refine tok_cons (snd_iconst dL_shows_19 rfl (inr_d rfl) rfl) ?_
  refine tok_cons (snd_istore dL_shows_20 rfl (by decide)) ?_
  refine tok_cons (snd_iconst dL_shows_22 rfl (inr_d rfl) rfl) ?_
  refine tok_cons (snd_istore dL_shows_23 rfl (by decide)) ?_
  refine tok_cons (snd_iconst dL_shows_25 rfl (inr_d rfl) rfl) ?_
  refine tok_cons (snd_istore dL_shows_26 rfl (by decide)) ?_
  refine tok_cons (snd_iload dL_shows_28 rfl) ?_
  refine tok_cons (snd_iload_n dL_shows_30 rfl rfl) ?_
  refine tok_cons (snd_icmp_ge dL_shows_31 (by decide) rfl) ?_
  refine tok_cons (snd_iload_n dL_shows_34 rfl rfl) ?_
  refine tok_cons (snd_if_eq dL_shows_35 (by decide) rfl) ?_
  refine tok_cons (snd_iconst dL_shows_38 rfl (inr_d rfl) rfl) ?_
  refine tok_cons (snd_istore dL_shows_39 rfl (by decide)) ?_
  refine tok_cons (snd_iconst dL_shows_41 rfl (inr_d rfl) rfl) ?_
  refine tok_cons (snd_istore dL_shows_42 rfl (by decide)) ?_
  refine tok_cons (snd_iconst dL_shows_44 rfl (inr_d rfl) rfl) ?_
  refine tok_cons (snd_istore dL_shows_45 rfl (by decide)) ?_
  refine tok_cons (snd_iload dL_shows_47 rfl) ?_
  refine tok_cons (snd_bipush dL_shows_49 (by decide) (inr_d rfl) rfl) ?_
  refine tok_cons (snd_icmp_ge dL_shows_51 (by decide) rfl) ?_
  refine tok_cons (snd_iload_n dL_shows_54 rfl rfl) ?_
  refine tok_cons (snd_if_eq dL_shows_55 (by decide) rfl) ?_
  refine tok_cons (snd_aload_n dL_shows_58 rfl rfl) ?_
  refine tok_cons (snd_iload dL_shows_59 rfl) ?_
  refine tok_cons (snd_iload_n dL_shows_61 rfl rfl) ?_
  refine tok_cons (snd_iload dL_shows_62 rfl) ?_
  refine tok_cons (snd_cv dL_shows_64 mok_7_shown ⟨wmL_40, wi_7_shown, wl_7_shown⟩ (rc := (RX7, TX7, 4)) rfl rfl pn_7_shown (by decide) ⟨rfl, rfl⟩ rfl) ?_
  refine tok_cons (snd_istore dL_shows_67 rfl (by decide)) ?_
  refine tok_cons (snd_iload dL_shows_69 rfl) ?_
  refine tok_cons (snd_sipush dL_shows_71 (by decide) (inr_d rfl) rfl) ?_
  refine tok_cons (snd_icmp_lt dL_shows_74 (by decide) rfl) ?_
  refine tok_cons (snd_iload dL_shows_77 rfl) ?_
  refine tok_cons (snd_sipush dL_shows_79 (by decide) (inr_d rfl) rfl) ?_
  refine tok_cons (snd_icmp_ge dL_shows_82 (by decide) rfl) ?_
  refine tok_cons (snd_iload dL_shows_85 rfl) ?_
  refine tok_cons (snd_sipush dL_shows_87 (by decide) (inr_d rfl) rfl) ?_
  refine tok_cons (snd_bipush dL_shows_90 (by decide) (inr_d rfl) rfl) ?_
  refine tok_cons (snd_iload dL_shows_92 rfl) ?_
  refine tok_cons (snd_mul dL_shows_94 rfl) ?_
  refine tok_cons (snd_add dL_shows_95 rfl) ?_
  refine tok_cons (snd_iload dL_shows_96 rfl) ?_
  refine tok_cons (snd_add dL_shows_98 rfl) ?_
  refine tok_cons (snd_icmp_ne dL_shows_99 (by decide) rfl) ?_
  refine tok_cons (snd_aload_n dL_shows_102 rfl rfl) ?_
  refine tok_cons (snd_aload_n dL_shows_103 rfl rfl) ?_
  refine tok_cons (snd_iload_n dL_shows_104 rfl rfl) ?_
  refine tok_cons (snd_iload dL_shows_105 rfl) ?_
  refine tok_cons (snd_iconst dL_shows_107 rfl (inr_d rfl) rfl) ?_
  refine tok_cons (snd_cv dL_shows_108 mok_7_noteInfo ⟨wmL_43, wi_7_noteInfo, wl_7_noteInfo⟩ (rc := (RX7, TX7, 4)) rfl rfl pn_7_noteInfo (by decide) ⟨rfl, rfl⟩ rfl) ?_
  refine tok_cons (snd_iload_n dL_shows_111 rfl rfl) ?_
  refine tok_cons (snd_aload_n dL_shows_112 rfl rfl) ?_
  refine tok_cons (snd_iload_n dL_shows_113 rfl rfl) ?_
  refine tok_cons (snd_iload dL_shows_114 rfl) ?_
  refine tok_cons (snd_iconst dL_shows_116 rfl (inr_d rfl) rfl) ?_
  refine tok_cons (snd_cv dL_shows_117 mok_7_noteInfo ⟨wmL_43, wi_7_noteInfo, wl_7_noteInfo⟩ (rc := (RX7, TX7, 4)) rfl rfl pn_7_noteInfo (by decide) ⟨rfl, rfl⟩ rfl) ?_
  refine tok_cons (snd_cv dL_shows_120 mok_7_spreadOf ⟨wmL_46, wi_7_spreadOf, wl_7_spreadOf⟩ (rc := (RX7, TX7, 4)) rfl rfl pn_7_spreadOf (by decide) ⟨rfl, rfl⟩ rfl) ?_
  refine tok_cons (snd_iload dL_shows_123 rfl) ?_
  refine tok_cons (snd_icmp_gt dL_shows_125 (by decide) rfl) ?_
  refine tok_cons (snd_iconst dL_shows_128 rfl (inr_d rfl) rfl) ?_
  refine tok_cons (snd_goto dL_shows_129 (by decide)) ?_
  refine tok_cons (snd_iconst dL_shows_132 rfl (inr_d rfl) rfl) ?_
  refine tok_cons (snd_istore_n dL_shows_133 rfl rfl (by decide)) ?_
  refine tok_cons (snd_iinc dL_shows_134 rfl rfl (by decide)) ?_
  refine tok_cons (snd_iload_n dL_shows_137 rfl rfl) ?_
  refine tok_cons (snd_if_eq dL_shows_138 (by decide) rfl) ?_
  refine tok_cons (snd_iload dL_shows_141 rfl) ?_
  refine tok_cons (snd_aload_n dL_shows_143 rfl rfl) ?_
  refine tok_cons (snd_iload_n dL_shows_144 rfl rfl) ?_
  refine tok_cons (snd_iload dL_shows_145 rfl) ?_
  refine tok_cons (snd_iconst dL_shows_147 rfl (inr_d rfl) rfl) ?_
  refine tok_cons (snd_cv dL_shows_148 mok_7_noteInfo ⟨wmL_43, wi_7_noteInfo, wl_7_noteInfo⟩ (rc := (RX7, TX7, 4)) rfl rfl pn_7_noteInfo (by decide) ⟨rfl, rfl⟩ rfl) ?_
  refine tok_cons (snd_icmp_ne dL_shows_151 (by decide) rfl) ?_
  refine tok_cons (snd_iconst dL_shows_154 rfl (inr_d rfl) rfl) ?_
  refine tok_cons (snd_goto dL_shows_155 (by decide)) ?_
  refine tok_cons (snd_iconst dL_shows_158 rfl (inr_d rfl) rfl) ?_
  refine tok_cons (snd_istore dL_shows_159 rfl (by decide)) ?_
  refine tok_cons (snd_iload dL_shows_161 rfl) ?_
  refine tok_cons (snd_iload dL_shows_163 rfl) ?_
  refine tok_cons (snd_if_eq dL_shows_165 (by decide) rfl) ?_
  refine tok_cons (snd_iconst dL_shows_168 rfl (inr_d rfl) rfl) ?_
  refine tok_cons (snd_goto dL_shows_169 (by decide)) ?_
  refine tok_cons (snd_iconst dL_shows_172 rfl (inr_d rfl) rfl) ?_
  refine tok_cons (snd_add dL_shows_173 rfl) ?_
  refine tok_cons (snd_istore dL_shows_174 rfl (by decide)) ?_
  refine tok_cons (snd_iload dL_shows_176 rfl) ?_
  refine tok_cons (snd_if_eq dL_shows_178 (by decide) rfl) ?_
  refine tok_cons (snd_iconst dL_shows_181 rfl (inr_d rfl) rfl) ?_
  refine tok_cons (snd_goto dL_shows_182 (by decide)) ?_
  refine tok_cons (snd_iload dL_shows_185 rfl) ?_
  refine tok_cons (snd_istore dL_shows_187 rfl (by decide)) ?_
  refine tok_cons (snd_iinc dL_shows_189 rfl rfl (by decide)) ?_
  refine tok_cons (snd_goto dL_shows_192 (by decide)) ?_
  refine tok_cons (snd_iload dL_shows_195 rfl) ?_
  refine tok_cons (snd_sipush dL_shows_197 (by decide) (inr_d rfl) rfl) ?_
  refine tok_cons (snd_icmp_lt dL_shows_200 (by decide) rfl) ?_
  refine tok_cons (snd_iload dL_shows_203 rfl) ?_
  refine tok_cons (snd_sipush dL_shows_205 (by decide) (inr_d rfl) rfl) ?_
  refine tok_cons (snd_icmp_ge dL_shows_208 (by decide) rfl) ?_
  refine tok_cons (snd_iload dL_shows_211 rfl) ?_
  refine tok_cons (snd_sipush dL_shows_213 (by decide) (inr_d rfl) rfl) ?_
  refine tok_cons (snd_bipush dL_shows_216 (by decide) (inr_d rfl) rfl) ?_
  refine tok_cons (snd_iload dL_shows_218 rfl) ?_
  refine tok_cons (snd_mul dL_shows_220 rfl) ?_
  refine tok_cons (snd_add dL_shows_221 rfl) ?_
  refine tok_cons (snd_iload dL_shows_222 rfl) ?_
  refine tok_cons (snd_add dL_shows_224 rfl) ?_
  refine tok_cons (snd_icmp_ne dL_shows_225 (by decide) rfl) ?_
  refine tok_cons (snd_aload_n dL_shows_228 rfl rfl) ?_
  refine tok_cons (snd_iload dL_shows_229 rfl) ?_
  refine tok_cons (snd_iload_n dL_shows_231 rfl rfl) ?_
  refine tok_cons (snd_iload dL_shows_232 rfl) ?_
  refine tok_cons (snd_cv dL_shows_234 mok_7_spreadOf ⟨wmL_46, wi_7_spreadOf, wl_7_spreadOf⟩ (rc := (RX7, TX7, 4)) rfl rfl pn_7_spreadOf (by decide) ⟨rfl, rfl⟩ rfl) ?_
  refine tok_cons (snd_iload dL_shows_237 rfl) ?_
  refine tok_cons (snd_icmp_ne dL_shows_239 (by decide) rfl) ?_
  refine tok_cons (snd_aload_n dL_shows_242 rfl rfl) ?_
  refine tok_cons (snd_iload dL_shows_243 rfl) ?_
  refine tok_cons (snd_iload_n dL_shows_245 rfl rfl) ?_
  refine tok_cons (snd_iload dL_shows_246 rfl) ?_
  refine tok_cons (snd_cv dL_shows_248 mok_7_rowOf ⟨wmL_49, wi_7_rowOf, wl_7_rowOf⟩ (rc := (RX7, TX7, 4)) rfl rfl pn_7_rowOf (by decide) ⟨rfl, rfl⟩ rfl) ?_
  refine tok_cons (snd_iload dL_shows_251 rfl) ?_
  refine tok_cons (snd_icmp_ne dL_shows_253 (by decide) rfl) ?_
  refine tok_cons (snd_iconst dL_shows_256 rfl (inr_d rfl) rfl) ?_
  refine tok_cons (snd_goto dL_shows_257 (by decide)) ?_
  refine tok_cons (snd_iconst dL_shows_260 rfl (inr_d rfl) rfl) ?_
  refine tok_cons (snd_istore_n dL_shows_261 rfl rfl (by decide)) ?_
  refine tok_cons (snd_iinc dL_shows_262 rfl rfl (by decide)) ?_
  refine tok_cons (snd_iload_n dL_shows_265 rfl rfl) ?_
  refine tok_cons (snd_if_eq dL_shows_266 (by decide) rfl) ?_
  refine tok_cons (snd_iload dL_shows_269 rfl) ?_
  refine tok_cons (snd_aload_n dL_shows_271 rfl rfl) ?_
  refine tok_cons (snd_iload dL_shows_272 rfl) ?_
  refine tok_cons (snd_iload_n dL_shows_274 rfl rfl) ?_
  refine tok_cons (snd_cv dL_shows_275 mok_7_pairInfo ⟨wmL_52, wi_7_pairInfo, wl_7_pairInfo⟩ (rc := (RX7, TX7, 4)) rfl rfl pn_7_pairInfo (by decide) ⟨rfl, rfl⟩ rfl) ?_
  refine tok_cons (snd_icmp_ne dL_shows_278 (by decide) rfl) ?_
  refine tok_cons (snd_iconst dL_shows_281 rfl (inr_d rfl) rfl) ?_
  refine tok_cons (snd_goto dL_shows_282 (by decide)) ?_
  refine tok_cons (snd_iconst dL_shows_285 rfl (inr_d rfl) rfl) ?_
  refine tok_cons (snd_istore dL_shows_286 rfl (by decide)) ?_
  refine tok_cons (snd_iload dL_shows_288 rfl) ?_
  refine tok_cons (snd_iload dL_shows_290 rfl) ?_
  refine tok_cons (snd_if_eq dL_shows_292 (by decide) rfl) ?_
  refine tok_cons (snd_iconst dL_shows_295 rfl (inr_d rfl) rfl) ?_
  refine tok_cons (snd_goto dL_shows_296 (by decide)) ?_
  refine tok_cons (snd_iconst dL_shows_299 rfl (inr_d rfl) rfl) ?_
  refine tok_cons (snd_add dL_shows_300 rfl) ?_
  refine tok_cons (snd_istore dL_shows_301 rfl (by decide)) ?_
  refine tok_cons (snd_iload dL_shows_303 rfl) ?_
  refine tok_cons (snd_if_eq dL_shows_305 (by decide) rfl) ?_
  refine tok_cons (snd_iconst dL_shows_308 rfl (inr_d rfl) rfl) ?_
  refine tok_cons (snd_goto dL_shows_309 (by decide)) ?_
  refine tok_cons (snd_iload dL_shows_312 rfl) ?_
  refine tok_cons (snd_istore dL_shows_314 rfl (by decide)) ?_
  refine tok_cons (snd_iload dL_shows_316 rfl) ?_
  refine tok_cons (snd_iconst dL_shows_318 rfl (inr_d rfl) rfl) ?_
  refine tok_cons (snd_add dL_shows_319 rfl) ?_
  refine tok_cons (snd_istore dL_shows_320 rfl (by decide)) ?_
  refine tok_cons (snd_iinc dL_shows_322 rfl rfl (by decide)) ?_
  refine tok_cons (snd_goto dL_shows_325 (by decide)) ?_
  refine tok_cons (snd_iload_n dL_shows_328 rfl rfl) ?_
  refine tok_cons (snd_if_eq dL_shows_329 (by decide) rfl) ?_
  refine tok_cons (snd_aload_n dL_shows_332 rfl rfl) ?_
  refine tok_cons (snd_iload dL_shows_333 rfl) ?_
  refine tok_cons (snd_iload_n dL_shows_335 rfl rfl) ?_
  refine tok_cons (snd_iconst dL_shows_336 rfl (inr_d rfl) rfl) ?_
  refine tok_cons (snd_cv dL_shows_337 mok_7_pageInfo ⟨wmL_55, wi_7_pageInfo, wl_7_pageInfo⟩ (rc := (RX7, TX7, 4)) rfl rfl pn_7_pageInfo (by decide) ⟨rfl, rfl⟩ rfl) ?_
  refine tok_cons (snd_iload dL_shows_340 rfl) ?_
  refine tok_cons (snd_icmp_ne dL_shows_342 (by decide) rfl) ?_
  refine tok_cons (snd_iload dL_shows_345 rfl) ?_
  refine tok_cons (snd_if_ne dL_shows_347 (by decide) rfl) ?_
  refine tok_cons (snd_iconst dL_shows_350 rfl (inr_d rfl) rfl) ?_
  refine tok_cons (snd_goto dL_shows_351 (by decide)) ?_
  refine tok_cons (snd_iconst dL_shows_354 rfl (inr_d rfl) rfl) ?_
  refine tok_cons (snd_aload_n dL_shows_355 rfl rfl) ?_
  refine tok_cons (snd_iload dL_shows_356 rfl) ?_
  refine tok_cons (snd_iload_n dL_shows_358 rfl rfl) ?_
  refine tok_cons (snd_iconst dL_shows_359 rfl (inr_d rfl) rfl) ?_
  refine tok_cons (snd_cv dL_shows_360 mok_7_pageInfo ⟨wmL_55, wi_7_pageInfo, wl_7_pageInfo⟩ (rc := (RX7, TX7, 4)) rfl rfl pn_7_pageInfo (by decide) ⟨rfl, rfl⟩ rfl) ?_
  refine tok_cons (snd_if_ne dL_shows_363 (by decide) rfl) ?_
  refine tok_cons (snd_iconst dL_shows_366 rfl (inr_d rfl) rfl) ?_
  refine tok_cons (snd_goto dL_shows_367 (by decide)) ?_
  refine tok_cons (snd_iconst dL_shows_370 rfl (inr_d rfl) rfl) ?_
  refine tok_cons (snd_icmp_ne dL_shows_371 (by decide) rfl) ?_
  refine tok_cons (snd_iconst dL_shows_374 rfl (inr_d rfl) rfl) ?_
  refine tok_cons (snd_goto dL_shows_375 (by decide)) ?_
  refine tok_cons (snd_iconst dL_shows_378 rfl (inr_d rfl) rfl) ?_
  refine tok_cons (snd_istore_n dL_shows_379 rfl rfl (by decide)) ?_
  refine tok_cons (snd_iload_n dL_shows_380 rfl rfl) ?_
  refine tok_cons (snd_if_eq dL_shows_381 (by decide) rfl) ?_
  refine tok_cons (snd_iload dL_shows_384 rfl) ?_
  refine tok_cons (snd_if_eq dL_shows_386 (by decide) rfl) ?_
  refine tok_cons (snd_aload_n dL_shows_389 rfl rfl) ?_
  refine tok_cons (snd_iload dL_shows_390 rfl) ?_
  refine tok_cons (snd_iload_n dL_shows_392 rfl rfl) ?_
  refine tok_cons (snd_iconst dL_shows_393 rfl (inr_d rfl) rfl) ?_
  refine tok_cons (snd_cv dL_shows_394 mok_7_pageInfo ⟨wmL_55, wi_7_pageInfo, wl_7_pageInfo⟩ (rc := (RX7, TX7, 4)) rfl rfl pn_7_pageInfo (by decide) ⟨rfl, rfl⟩ rfl) ?_
  refine tok_cons (snd_aload_n dL_shows_397 rfl rfl) ?_
  refine tok_cons (snd_iload dL_shows_398 rfl) ?_
  refine tok_cons (snd_iconst dL_shows_400 rfl (inr_d rfl) rfl) ?_
  refine tok_cons (snd_sub dL_shows_401 rfl) ?_
  refine tok_cons (snd_iload_n dL_shows_402 rfl rfl) ?_
  refine tok_cons (snd_iconst dL_shows_403 rfl (inr_d rfl) rfl) ?_
  refine tok_cons (snd_cv dL_shows_404 mok_7_pageInfo ⟨wmL_55, wi_7_pageInfo, wl_7_pageInfo⟩ (rc := (RX7, TX7, 4)) rfl rfl pn_7_pageInfo (by decide) ⟨rfl, rfl⟩ rfl) ?_
  refine tok_cons (snd_icmp_ne dL_shows_407 (by decide) rfl) ?_
  refine tok_cons (snd_aload_n dL_shows_410 rfl rfl) ?_
  refine tok_cons (snd_iload dL_shows_411 rfl) ?_
  refine tok_cons (snd_iload_n dL_shows_413 rfl rfl) ?_
  refine tok_cons (snd_iconst dL_shows_414 rfl (inr_d rfl) rfl) ?_
  refine tok_cons (snd_cv dL_shows_415 mok_7_pageInfo ⟨wmL_55, wi_7_pageInfo, wl_7_pageInfo⟩ (rc := (RX7, TX7, 4)) rfl rfl pn_7_pageInfo (by decide) ⟨rfl, rfl⟩ rfl) ?_
  refine tok_cons (snd_iconst dL_shows_418 rfl (inr_d rfl) rfl) ?_
  refine tok_cons (snd_icmp_gt dL_shows_419 (by decide) rfl) ?_
  refine tok_cons (snd_iconst dL_shows_422 rfl (inr_d rfl) rfl) ?_
  refine tok_cons (snd_goto dL_shows_423 (by decide)) ?_
  refine tok_cons (snd_iconst dL_shows_426 rfl (inr_d rfl) rfl) ?_
  refine tok_cons (snd_istore_n dL_shows_427 rfl rfl (by decide)) ?_
  refine tok_cons (snd_iinc dL_shows_428 rfl rfl (by decide)) ?_
  refine tok_cons (snd_goto dL_shows_431 (by decide)) ?_
  refine tok_cons (snd_iload_n dL_shows_434 rfl rfl) ?_
  refine tok_cons (snd_if_eq dL_shows_435 (by decide) rfl) ?_
  refine tok_cons (snd_iload dL_shows_438 rfl) ?_
  refine tok_cons (snd_aload_n dL_shows_440 rfl rfl) ?_
  refine tok_cons (snd_cv dL_shows_441 mok_7_pairCount ⟨wmL_9, wi_7_pairCount, wl_7_pairCount⟩ (rc := (RX7, TX7, 4)) rfl rfl pn_7_pairCount (by decide) ⟨rfl, rfl⟩ rfl) ?_
  refine tok_cons (snd_icmp_ne dL_shows_444 (by decide) rfl) ?_
  refine tok_cons (snd_iload dL_shows_447 rfl) ?_
  refine tok_cons (snd_if_ne dL_shows_449 (by decide) rfl) ?_
  refine tok_cons (snd_iload dL_shows_452 rfl) ?_
  refine tok_cons (snd_aload_n dL_shows_454 rfl rfl) ?_
  refine tok_cons (snd_iload_n dL_shows_455 rfl rfl) ?_
  refine tok_cons (snd_cv dL_shows_456 mok_7_noteCount ⟨wmL_19, wi_7_noteCount, wl_7_noteCount⟩ (rc := (RX7, TX7, 4)) rfl rfl pn_7_noteCount (by decide) ⟨rfl, rfl⟩ rfl) ?_
  refine tok_cons (snd_icmp_ne dL_shows_459 (by decide) rfl) ?_
  refine tok_cons (snd_iload dL_shows_462 rfl) ?_
  refine tok_cons (snd_if_ne dL_shows_464 (by decide) rfl) ?_
  refine tok_cons (snd_iconst dL_shows_467 rfl (inr_d rfl) rfl) ?_
  refine tok_cons (snd_goto dL_shows_468 (by decide)) ?_
  refine tok_cons (snd_iconst dL_shows_471 rfl (inr_d rfl) rfl) ?_
  refine tok_cons (snd_istore_n dL_shows_472 rfl rfl (by decide)) ?_
  refine tok_cons (snd_iinc dL_shows_473 rfl rfl (by decide)) ?_
  refine tok_cons (snd_goto dL_shows_476 (by decide)) ?_
  refine tok_cons (snd_iload_n dL_shows_479 rfl rfl) ?_
  refine tok_cons (snd_zret dL_shows_480 rfl) ?_
  exact tok_nil
def tab_L_adds (X : XT) : Tab := [(0, false, a_aload 0 1), (1, false, a_cv X M_L_adds M_7_spreadCount 7 1 4), (4, false, a_istore 1 5), (5, false, a_const 0 6), (6, false, a_istore 2 7), (7, false, a_const 0 8), (8, false, a_istore 3 9), (9, false, a_iload 1 10), (10, false, a_const 40 12), (12, false, a_icmp 5 19 15), (15, false, a_const 1 16), (16, false, a_goto 20), (19, false, a_const 0 20), (20, false, a_istore 4 22), (22, false, a_const 1 23), (23, false, a_istore 5 25), (25, false, a_const 0 26), (26, false, a_istore 6 28), (28, true, a_iload 6 30), (30, false, a_iload 1 31), (31, false, a_icmp 3 210 34), (34, false, a_iload 5 36), (36, false, a_if 0 210 39), (39, false, a_iload 4 41), (41, false, a_if 1 88 44), (44, false, a_aload 0 45), (45, false, a_iload 6 47), (47, false, a_const 0 48), (48, false, a_const 0 49), (49, false, a_cv X M_L_adds M_7_pageInfo 7 4 52), (52, false, a_aload 0 53), (53, false, a_iload 6 55), (55, false, a_const 0 56), (56, false, a_const 1 57), (57, false, a_cv X M_L_adds M_7_pageInfo 7 4 60), (60, false, a_add 61), (61, false, a_const 99 63), (63, false, a_icmp 4 88 66), (66, false, a_aload 0 67), (67, false, a_iload 6 69), (69, false, a_const 1 70), (70, false, a_const 0 71), (71, false, a_cv X M_L_adds M_7_pageInfo 7 4 74), (74, false, a_aload 0 75), (75, false, a_iload 6 77), (77, false, a_const 1 78), (78, false, a_const 1 79), (79, false, a_cv X M_L_adds M_7_pageInfo 7 4 82), (82, false, a_add 83), (83, false, a_const 99 85), (85, false, a_icmp 5 92 88), (88, false, a_const 1 89), (89, false, a_goto 93), (92, false, a_const 0 93), (93, false, a_istore 4 95), (95, true, a_aload 0 96), (96, false, a_iload 6 98), (98, false, a_const 0 99), (99, false, a_const 2 100), (100, false, a_cv X M_L_adds M_7_pageInfo 7 4 103), (103, false, a_istore 7 105), (105, false, a_aload 0 106), (106, false, a_iload 6 108), (108, false, a_const 1 109), (109, false, a_const 2 110), (110, false, a_cv X M_L_adds M_7_pageInfo 7 4 113), (113, false, a_istore 8 115), (115, false, a_iload 2 116), (116, false, a_iload 6 118), (118, false, a_iload 1 119), (119, false, a_const 1 120), (120, false, a_sub 121), (121, false, a_icmp 3 138 124), (124, false, a_iload 7 126), (126, false, a_iload 7 128), (128, false, a_mul 129), (129, false, a_iload 8 131), (131, false, a_iload 8 133), (133, false, a_mul 134), (134, false, a_add 135), (135, false, a_goto 139), (138, false, a_const 0 139), (139, false, a_add 140), (140, false, a_istore 2 141), (141, false, a_iload 3 142), (142, false, a_aload 0 143), (143, false, a_iload 6 145), (145, false, a_cv X M_L_adds M_7_isOverfull 7 2 148), (148, false, a_add 149), (149, false, a_istore 3 150), (150, true, a_iload 7 152), (152, false, a_if 2 201 155), (155, false, a_iload 8 157), (157, false, a_if 2 201 160), (160, false, a_aload 0 161), (161, false, a_iload 6 163), (163, false, a_cv X M_L_adds M_7_segmentCount 7 2 166), (166, false, a_if 4 197 169), (169, false, a_iload 6 171), (171, false, a_iload 1 172), (172, false, a_const 1 173), (173, false, a_sub 174), (174, false, a_icmp 1 201 177), (177, false, a_aload 0 178), (178, false, a_iload 6 180), (180, false, a_const 0 181), (181, false, a_const 3 182), (182, false, a_cv X M_L_adds M_7_pageInfo 7 4 185), (185, false, a_aload 0 186), (186, false, a_iload 6 188), (188, false, a_const 1 189), (189, false, a_const 3 190), (190, false, a_cv X M_L_adds M_7_pageInfo 7 4 193), (193, false, a_add 194), (194, false, a_if 5 201 197), (197, false, a_const 1 198), (198, false, a_goto 202), (201, false, a_const 0 202), (202, false, a_istore 5 204), (204, false, a_iinc 6 1 207), (207, false, a_goto 28), (210, true, a_iload 5 212), (212, false, a_if 0 245 215), (215, false, a_aload 0 216), (216, false, a_cv X M_L_adds M_7_cost 7 1 219), (219, false, a_iload 2 220), (220, false, a_icmp 1 245 223), (223, false, a_iload 4 225), (225, false, a_if 1 236 228), (228, false, a_aload 0 229), (229, false, a_iload 1 230), (230, false, a_sv X M_L_adds M_L_shows 2 233), (233, false, a_if 0 245 236), (236, false, a_iload 3 237), (237, false, a_iload 1 238), (238, false, a_icmp 4 245 241), (241, false, a_const 1 242), (242, false, a_goto 246), (245, false, a_const 0 246), (246, false, a_zret M_L_adds)]
set_option maxRecDepth 20000 in
theorem t_L_adds (X : XT) : tget (tab_L_adds X) 0 = some (false, a_aload 0 1) ∧ tget (tab_L_adds X) 1 = some (false, a_cv X M_L_adds M_7_spreadCount 7 1 4) ∧ tget (tab_L_adds X) 4 = some (false, a_istore 1 5) ∧ tget (tab_L_adds X) 5 = some (false, a_const 0 6) ∧ tget (tab_L_adds X) 6 = some (false, a_istore 2 7) ∧ tget (tab_L_adds X) 7 = some (false, a_const 0 8) ∧ tget (tab_L_adds X) 8 = some (false, a_istore 3 9) ∧ tget (tab_L_adds X) 9 = some (false, a_iload 1 10) ∧ tget (tab_L_adds X) 10 = some (false, a_const 40 12) ∧ tget (tab_L_adds X) 12 = some (false, a_icmp 5 19 15) ∧ tget (tab_L_adds X) 15 = some (false, a_const 1 16) ∧ tget (tab_L_adds X) 16 = some (false, a_goto 20) ∧ tget (tab_L_adds X) 19 = some (false, a_const 0 20) ∧ tget (tab_L_adds X) 20 = some (false, a_istore 4 22) ∧ tget (tab_L_adds X) 22 = some (false, a_const 1 23) ∧ tget (tab_L_adds X) 23 = some (false, a_istore 5 25) ∧ tget (tab_L_adds X) 25 = some (false, a_const 0 26) ∧ tget (tab_L_adds X) 26 = some (false, a_istore 6 28) ∧ tget (tab_L_adds X) 28 = some (true, a_iload 6 30) ∧ tget (tab_L_adds X) 30 = some (false, a_iload 1 31) ∧ tget (tab_L_adds X) 31 = some (false, a_icmp 3 210 34) ∧ tget (tab_L_adds X) 34 = some (false, a_iload 5 36) ∧ tget (tab_L_adds X) 36 = some (false, a_if 0 210 39) ∧ tget (tab_L_adds X) 39 = some (false, a_iload 4 41) ∧ tget (tab_L_adds X) 41 = some (false, a_if 1 88 44) ∧ tget (tab_L_adds X) 44 = some (false, a_aload 0 45) ∧ tget (tab_L_adds X) 45 = some (false, a_iload 6 47) ∧ tget (tab_L_adds X) 47 = some (false, a_const 0 48) ∧ tget (tab_L_adds X) 48 = some (false, a_const 0 49) ∧ tget (tab_L_adds X) 49 = some (false, a_cv X M_L_adds M_7_pageInfo 7 4 52) ∧ tget (tab_L_adds X) 52 = some (false, a_aload 0 53) ∧ tget (tab_L_adds X) 53 = some (false, a_iload 6 55) ∧ tget (tab_L_adds X) 55 = some (false, a_const 0 56) ∧ tget (tab_L_adds X) 56 = some (false, a_const 1 57) ∧ tget (tab_L_adds X) 57 = some (false, a_cv X M_L_adds M_7_pageInfo 7 4 60) ∧ tget (tab_L_adds X) 60 = some (false, a_add 61) ∧ tget (tab_L_adds X) 61 = some (false, a_const 99 63) ∧ tget (tab_L_adds X) 63 = some (false, a_icmp 4 88 66) ∧ tget (tab_L_adds X) 66 = some (false, a_aload 0 67) ∧ tget (tab_L_adds X) 67 = some (false, a_iload 6 69) ∧ tget (tab_L_adds X) 69 = some (false, a_const 1 70) ∧ tget (tab_L_adds X) 70 = some (false, a_const 0 71) ∧ tget (tab_L_adds X) 71 = some (false, a_cv X M_L_adds M_7_pageInfo 7 4 74) ∧ tget (tab_L_adds X) 74 = some (false, a_aload 0 75) ∧ tget (tab_L_adds X) 75 = some (false, a_iload 6 77) ∧ tget (tab_L_adds X) 77 = some (false, a_const 1 78) ∧ tget (tab_L_adds X) 78 = some (false, a_const 1 79) ∧ tget (tab_L_adds X) 79 = some (false, a_cv X M_L_adds M_7_pageInfo 7 4 82) ∧ tget (tab_L_adds X) 82 = some (false, a_add 83) ∧ tget (tab_L_adds X) 83 = some (false, a_const 99 85) ∧ tget (tab_L_adds X) 85 = some (false, a_icmp 5 92 88) ∧ tget (tab_L_adds X) 88 = some (false, a_const 1 89) ∧ tget (tab_L_adds X) 89 = some (false, a_goto 93) ∧ tget (tab_L_adds X) 92 = some (false, a_const 0 93) ∧ tget (tab_L_adds X) 93 = some (false, a_istore 4 95) ∧ tget (tab_L_adds X) 95 = some (true, a_aload 0 96) ∧ tget (tab_L_adds X) 96 = some (false, a_iload 6 98) ∧ tget (tab_L_adds X) 98 = some (false, a_const 0 99) ∧ tget (tab_L_adds X) 99 = some (false, a_const 2 100) ∧ tget (tab_L_adds X) 100 = some (false, a_cv X M_L_adds M_7_pageInfo 7 4 103) ∧ tget (tab_L_adds X) 103 = some (false, a_istore 7 105) ∧ tget (tab_L_adds X) 105 = some (false, a_aload 0 106) ∧ tget (tab_L_adds X) 106 = some (false, a_iload 6 108) ∧ tget (tab_L_adds X) 108 = some (false, a_const 1 109) ∧ tget (tab_L_adds X) 109 = some (false, a_const 2 110) ∧ tget (tab_L_adds X) 110 = some (false, a_cv X M_L_adds M_7_pageInfo 7 4 113) ∧ tget (tab_L_adds X) 113 = some (false, a_istore 8 115) ∧ tget (tab_L_adds X) 115 = some (false, a_iload 2 116) ∧ tget (tab_L_adds X) 116 = some (false, a_iload 6 118) ∧ tget (tab_L_adds X) 118 = some (false, a_iload 1 119) ∧ tget (tab_L_adds X) 119 = some (false, a_const 1 120) ∧ tget (tab_L_adds X) 120 = some (false, a_sub 121) ∧ tget (tab_L_adds X) 121 = some (false, a_icmp 3 138 124) ∧ tget (tab_L_adds X) 124 = some (false, a_iload 7 126) ∧ tget (tab_L_adds X) 126 = some (false, a_iload 7 128) ∧ tget (tab_L_adds X) 128 = some (false, a_mul 129) ∧ tget (tab_L_adds X) 129 = some (false, a_iload 8 131) ∧ tget (tab_L_adds X) 131 = some (false, a_iload 8 133) ∧ tget (tab_L_adds X) 133 = some (false, a_mul 134) ∧ tget (tab_L_adds X) 134 = some (false, a_add 135) ∧ tget (tab_L_adds X) 135 = some (false, a_goto 139) ∧ tget (tab_L_adds X) 138 = some (false, a_const 0 139) ∧ tget (tab_L_adds X) 139 = some (false, a_add 140) ∧ tget (tab_L_adds X) 140 = some (false, a_istore 2 141) ∧ tget (tab_L_adds X) 141 = some (false, a_iload 3 142) ∧ tget (tab_L_adds X) 142 = some (false, a_aload 0 143) ∧ tget (tab_L_adds X) 143 = some (false, a_iload 6 145) ∧ tget (tab_L_adds X) 145 = some (false, a_cv X M_L_adds M_7_isOverfull 7 2 148) ∧ tget (tab_L_adds X) 148 = some (false, a_add 149) ∧ tget (tab_L_adds X) 149 = some (false, a_istore 3 150) ∧ tget (tab_L_adds X) 150 = some (true, a_iload 7 152) ∧ tget (tab_L_adds X) 152 = some (false, a_if 2 201 155) ∧ tget (tab_L_adds X) 155 = some (false, a_iload 8 157) ∧ tget (tab_L_adds X) 157 = some (false, a_if 2 201 160) ∧ tget (tab_L_adds X) 160 = some (false, a_aload 0 161) ∧ tget (tab_L_adds X) 161 = some (false, a_iload 6 163) ∧ tget (tab_L_adds X) 163 = some (false, a_cv X M_L_adds M_7_segmentCount 7 2 166) ∧ tget (tab_L_adds X) 166 = some (false, a_if 4 197 169) ∧ tget (tab_L_adds X) 169 = some (false, a_iload 6 171) ∧ tget (tab_L_adds X) 171 = some (false, a_iload 1 172) ∧ tget (tab_L_adds X) 172 = some (false, a_const 1 173) ∧ tget (tab_L_adds X) 173 = some (false, a_sub 174) ∧ tget (tab_L_adds X) 174 = some (false, a_icmp 1 201 177) ∧ tget (tab_L_adds X) 177 = some (false, a_aload 0 178) ∧ tget (tab_L_adds X) 178 = some (false, a_iload 6 180) ∧ tget (tab_L_adds X) 180 = some (false, a_const 0 181) ∧ tget (tab_L_adds X) 181 = some (false, a_const 3 182) ∧ tget (tab_L_adds X) 182 = some (false, a_cv X M_L_adds M_7_pageInfo 7 4 185) ∧ tget (tab_L_adds X) 185 = some (false, a_aload 0 186) ∧ tget (tab_L_adds X) 186 = some (false, a_iload 6 188) ∧ tget (tab_L_adds X) 188 = some (false, a_const 1 189) ∧ tget (tab_L_adds X) 189 = some (false, a_const 3 190) ∧ tget (tab_L_adds X) 190 = some (false, a_cv X M_L_adds M_7_pageInfo 7 4 193) ∧ tget (tab_L_adds X) 193 = some (false, a_add 194) ∧ tget (tab_L_adds X) 194 = some (false, a_if 5 201 197) ∧ tget (tab_L_adds X) 197 = some (false, a_const 1 198) ∧ tget (tab_L_adds X) 198 = some (false, a_goto 202) ∧ tget (tab_L_adds X) 201 = some (false, a_const 0 202) ∧ tget (tab_L_adds X) 202 = some (false, a_istore 5 204) ∧ tget (tab_L_adds X) 204 = some (false, a_iinc 6 1 207) ∧ tget (tab_L_adds X) 207 = some (false, a_goto 28) ∧ tget (tab_L_adds X) 210 = some (true, a_iload 5 212) ∧ tget (tab_L_adds X) 212 = some (false, a_if 0 245 215) ∧ tget (tab_L_adds X) 215 = some (false, a_aload 0 216) ∧ tget (tab_L_adds X) 216 = some (false, a_cv X M_L_adds M_7_cost 7 1 219) ∧ tget (tab_L_adds X) 219 = some (false, a_iload 2 220) ∧ tget (tab_L_adds X) 220 = some (false, a_icmp 1 245 223) ∧ tget (tab_L_adds X) 223 = some (false, a_iload 4 225) ∧ tget (tab_L_adds X) 225 = some (false, a_if 1 236 228) ∧ tget (tab_L_adds X) 228 = some (false, a_aload 0 229) ∧ tget (tab_L_adds X) 229 = some (false, a_iload 1 230) ∧ tget (tab_L_adds X) 230 = some (false, a_sv X M_L_adds M_L_shows 2 233) ∧ tget (tab_L_adds X) 233 = some (false, a_if 0 245 236) ∧ tget (tab_L_adds X) 236 = some (false, a_iload 3 237) ∧ tget (tab_L_adds X) 237 = some (false, a_iload 1 238) ∧ tget (tab_L_adds X) 238 = some (false, a_icmp 4 245 241) ∧ tget (tab_L_adds X) 241 = some (false, a_const 1 242) ∧ tget (tab_L_adds X) 242 = some (false, a_goto 246) ∧ tget (tab_L_adds X) 245 = some (false, a_const 0 246) ∧ tget (tab_L_adds X) 246 = some (false, a_zret M_L_adds) := ⟨rfl, rfl, rfl, rfl, rfl, rfl, rfl, rfl, rfl, rfl, rfl, rfl, rfl, rfl, rfl, rfl, rfl, rfl, rfl, rfl, rfl, rfl, rfl, rfl, rfl, rfl, rfl, rfl, rfl, rfl, rfl, rfl, rfl, rfl, rfl, rfl, rfl, rfl, rfl, rfl, rfl, rfl, rfl, rfl, rfl, rfl, rfl, rfl, rfl, rfl, rfl, rfl, rfl, rfl, rfl, rfl, rfl, rfl, rfl, rfl, rfl, rfl, rfl, rfl, rfl, rfl, rfl, rfl, rfl, rfl, rfl, rfl, rfl, rfl, rfl, rfl, rfl, rfl, rfl, rfl, rfl, rfl, rfl, rfl, rfl, rfl, rfl, rfl, rfl, rfl, rfl, rfl, rfl, rfl, rfl, rfl, rfl, rfl, rfl, rfl, rfl, rfl, rfl, rfl, rfl, rfl, rfl, rfl, rfl, rfl, rfl, rfl, rfl, rfl, rfl, rfl, rfl, rfl, rfl, rfl, rfl, rfl, rfl, rfl, rfl, rfl, rfl, rfl, rfl, rfl, rfl, rfl, rfl, rfl, rfl, rfl, rfl, rfl, rfl, rfl⟩
theorem tok_L_adds (X : XT) : TabOK X M_L_adds (tab_L_adds X) := by
  unfold tab_L_adds
  refine tok_cons (snd_aload_n dL_adds_0 rfl rfl) ?_
  refine tok_cons (snd_cv dL_adds_1 mok_7_spreadCount ⟨wmL_58, wi_7_spreadCount, wl_7_spreadCount⟩ (rc := (RX7, TX7, 4)) rfl rfl pn_7_spreadCount (by decide) ⟨rfl, rfl⟩ rfl) ?_
  refine tok_cons (snd_istore_n dL_adds_4 rfl rfl (by decide)) ?_
  refine tok_cons (snd_iconst dL_adds_5 rfl (inr_d rfl) rfl) ?_
  refine tok_cons (snd_istore_n dL_adds_6 rfl rfl (by decide)) ?_
  refine tok_cons (snd_iconst dL_adds_7 rfl (inr_d rfl) rfl) ?_
  refine tok_cons (snd_istore_n dL_adds_8 rfl rfl (by decide)) ?_
  refine tok_cons (snd_iload_n dL_adds_9 rfl rfl) ?_
  refine tok_cons (snd_bipush dL_adds_10 (by decide) (inr_d rfl) rfl) ?_
  refine tok_cons (snd_icmp_le dL_adds_12 (by decide) rfl) ?_
  refine tok_cons (snd_iconst dL_adds_15 rfl (inr_d rfl) rfl) ?_
  refine tok_cons (snd_goto dL_adds_16 (by decide)) ?_
  refine tok_cons (snd_iconst dL_adds_19 rfl (inr_d rfl) rfl) ?_
  refine tok_cons (snd_istore dL_adds_20 rfl (by decide)) ?_
  refine tok_cons (snd_iconst dL_adds_22 rfl (inr_d rfl) rfl) ?_
  refine tok_cons (snd_istore dL_adds_23 rfl (by decide)) ?_
  refine tok_cons (snd_iconst dL_adds_25 rfl (inr_d rfl) rfl) ?_
  refine tok_cons (snd_istore dL_adds_26 rfl (by decide)) ?_
  refine tok_cons (snd_iload dL_adds_28 rfl) ?_
  refine tok_cons (snd_iload_n dL_adds_30 rfl rfl) ?_
  refine tok_cons (snd_icmp_ge dL_adds_31 (by decide) rfl) ?_
  refine tok_cons (snd_iload dL_adds_34 rfl) ?_
  refine tok_cons (snd_if_eq dL_adds_36 (by decide) rfl) ?_
  refine tok_cons (snd_iload dL_adds_39 rfl) ?_
  refine tok_cons (snd_if_ne dL_adds_41 (by decide) rfl) ?_
  refine tok_cons (snd_aload_n dL_adds_44 rfl rfl) ?_
  refine tok_cons (snd_iload dL_adds_45 rfl) ?_
  refine tok_cons (snd_iconst dL_adds_47 rfl (inr_d rfl) rfl) ?_
  refine tok_cons (snd_iconst dL_adds_48 rfl (inr_d rfl) rfl) ?_
  refine tok_cons (snd_cv dL_adds_49 mok_7_pageInfo ⟨wmL_55, wi_7_pageInfo, wl_7_pageInfo⟩ (rc := (RX7, TX7, 4)) rfl rfl pn_7_pageInfo (by decide) ⟨rfl, rfl⟩ rfl) ?_
  refine tok_cons (snd_aload_n dL_adds_52 rfl rfl) ?_
  refine tok_cons (snd_iload dL_adds_53 rfl) ?_
  refine tok_cons (snd_iconst dL_adds_55 rfl (inr_d rfl) rfl) ?_
  refine tok_cons (snd_iconst dL_adds_56 rfl (inr_d rfl) rfl) ?_
  refine tok_cons (snd_cv dL_adds_57 mok_7_pageInfo ⟨wmL_55, wi_7_pageInfo, wl_7_pageInfo⟩ (rc := (RX7, TX7, 4)) rfl rfl pn_7_pageInfo (by decide) ⟨rfl, rfl⟩ rfl) ?_
  refine tok_cons (snd_add dL_adds_60 rfl) ?_
  refine tok_cons (snd_bipush dL_adds_61 (by decide) (inr_d rfl) rfl) ?_
  refine tok_cons (snd_icmp_gt dL_adds_63 (by decide) rfl) ?_
  refine tok_cons (snd_aload_n dL_adds_66 rfl rfl) ?_
  refine tok_cons (snd_iload dL_adds_67 rfl) ?_
  refine tok_cons (snd_iconst dL_adds_69 rfl (inr_d rfl) rfl) ?_
  refine tok_cons (snd_iconst dL_adds_70 rfl (inr_d rfl) rfl) ?_
  refine tok_cons (snd_cv dL_adds_71 mok_7_pageInfo ⟨wmL_55, wi_7_pageInfo, wl_7_pageInfo⟩ (rc := (RX7, TX7, 4)) rfl rfl pn_7_pageInfo (by decide) ⟨rfl, rfl⟩ rfl) ?_
  refine tok_cons (snd_aload_n dL_adds_74 rfl rfl) ?_
  refine tok_cons (snd_iload dL_adds_75 rfl) ?_
  refine tok_cons (snd_iconst dL_adds_77 rfl (inr_d rfl) rfl) ?_
  refine tok_cons (snd_iconst dL_adds_78 rfl (inr_d rfl) rfl) ?_
  refine tok_cons (snd_cv dL_adds_79 mok_7_pageInfo ⟨wmL_55, wi_7_pageInfo, wl_7_pageInfo⟩ (rc := (RX7, TX7, 4)) rfl rfl pn_7_pageInfo (by decide) ⟨rfl, rfl⟩ rfl) ?_
  refine tok_cons (snd_add dL_adds_82 rfl) ?_
  refine tok_cons (snd_bipush dL_adds_83 (by decide) (inr_d rfl) rfl) ?_
  refine tok_cons (snd_icmp_le dL_adds_85 (by decide) rfl) ?_
  refine tok_cons (snd_iconst dL_adds_88 rfl (inr_d rfl) rfl) ?_
  refine tok_cons (snd_goto dL_adds_89 (by decide)) ?_
  refine tok_cons (snd_iconst dL_adds_92 rfl (inr_d rfl) rfl) ?_
  refine tok_cons (snd_istore dL_adds_93 rfl (by decide)) ?_
  refine tok_cons (snd_aload_n dL_adds_95 rfl rfl) ?_
  refine tok_cons (snd_iload dL_adds_96 rfl) ?_
  refine tok_cons (snd_iconst dL_adds_98 rfl (inr_d rfl) rfl) ?_
  refine tok_cons (snd_iconst dL_adds_99 rfl (inr_d rfl) rfl) ?_
  refine tok_cons (snd_cv dL_adds_100 mok_7_pageInfo ⟨wmL_55, wi_7_pageInfo, wl_7_pageInfo⟩ (rc := (RX7, TX7, 4)) rfl rfl pn_7_pageInfo (by decide) ⟨rfl, rfl⟩ rfl) ?_
  refine tok_cons (snd_istore dL_adds_103 rfl (by decide)) ?_
  refine tok_cons (snd_aload_n dL_adds_105 rfl rfl) ?_
  refine tok_cons (snd_iload dL_adds_106 rfl) ?_
  refine tok_cons (snd_iconst dL_adds_108 rfl (inr_d rfl) rfl) ?_
  refine tok_cons (snd_iconst dL_adds_109 rfl (inr_d rfl) rfl) ?_
  refine tok_cons (snd_cv dL_adds_110 mok_7_pageInfo ⟨wmL_55, wi_7_pageInfo, wl_7_pageInfo⟩ (rc := (RX7, TX7, 4)) rfl rfl pn_7_pageInfo (by decide) ⟨rfl, rfl⟩ rfl) ?_
  refine tok_cons (snd_istore dL_adds_113 rfl (by decide)) ?_
  refine tok_cons (snd_iload_n dL_adds_115 rfl rfl) ?_
  refine tok_cons (snd_iload dL_adds_116 rfl) ?_
  refine tok_cons (snd_iload_n dL_adds_118 rfl rfl) ?_
  refine tok_cons (snd_iconst dL_adds_119 rfl (inr_d rfl) rfl) ?_
  refine tok_cons (snd_sub dL_adds_120 rfl) ?_
  refine tok_cons (snd_icmp_ge dL_adds_121 (by decide) rfl) ?_
  refine tok_cons (snd_iload dL_adds_124 rfl) ?_
  refine tok_cons (snd_iload dL_adds_126 rfl) ?_
  refine tok_cons (snd_mul dL_adds_128 rfl) ?_
  refine tok_cons (snd_iload dL_adds_129 rfl) ?_
  refine tok_cons (snd_iload dL_adds_131 rfl) ?_
  refine tok_cons (snd_mul dL_adds_133 rfl) ?_
  refine tok_cons (snd_add dL_adds_134 rfl) ?_
  refine tok_cons (snd_goto dL_adds_135 (by decide)) ?_
  refine tok_cons (snd_iconst dL_adds_138 rfl (inr_d rfl) rfl) ?_
  refine tok_cons (snd_add dL_adds_139 rfl) ?_
  refine tok_cons (snd_istore_n dL_adds_140 rfl rfl (by decide)) ?_
  refine tok_cons (snd_iload_n dL_adds_141 rfl rfl) ?_
  refine tok_cons (snd_aload_n dL_adds_142 rfl rfl) ?_
  refine tok_cons (snd_iload dL_adds_143 rfl) ?_
  refine tok_cons (snd_cv dL_adds_145 mok_7_isOverfull ⟨wmL_61, wi_7_isOverfull, wl_7_isOverfull⟩ (rc := (RX7, TX7, 4)) rfl rfl pn_7_isOverfull (by decide) ⟨rfl, rfl⟩ rfl) ?_
  refine tok_cons (snd_add dL_adds_148 rfl) ?_
  refine tok_cons (snd_istore_n dL_adds_149 rfl rfl (by decide)) ?_
  refine tok_cons (snd_iload dL_adds_150 rfl) ?_
  refine tok_cons (snd_if_lt dL_adds_152 (by decide) rfl) ?_
  refine tok_cons (snd_iload dL_adds_155 rfl) ?_
  refine tok_cons (snd_if_lt dL_adds_157 (by decide) rfl) ?_
  refine tok_cons (snd_aload_n dL_adds_160 rfl rfl) ?_
  refine tok_cons (snd_iload dL_adds_161 rfl) ?_
  refine tok_cons (snd_cv dL_adds_163 mok_7_segmentCount ⟨wmL_64, wi_7_segmentCount, wl_7_segmentCount⟩ (rc := (RX7, TX7, 4)) rfl rfl pn_7_segmentCount (by decide) ⟨rfl, rfl⟩ rfl) ?_
  refine tok_cons (snd_if_gt dL_adds_166 (by decide) rfl) ?_
  refine tok_cons (snd_iload dL_adds_169 rfl) ?_
  refine tok_cons (snd_iload_n dL_adds_171 rfl rfl) ?_
  refine tok_cons (snd_iconst dL_adds_172 rfl (inr_d rfl) rfl) ?_
  refine tok_cons (snd_sub dL_adds_173 rfl) ?_
  refine tok_cons (snd_icmp_ne dL_adds_174 (by decide) rfl) ?_
  refine tok_cons (snd_aload_n dL_adds_177 rfl rfl) ?_
  refine tok_cons (snd_iload dL_adds_178 rfl) ?_
  refine tok_cons (snd_iconst dL_adds_180 rfl (inr_d rfl) rfl) ?_
  refine tok_cons (snd_iconst dL_adds_181 rfl (inr_d rfl) rfl) ?_
  refine tok_cons (snd_cv dL_adds_182 mok_7_pageInfo ⟨wmL_55, wi_7_pageInfo, wl_7_pageInfo⟩ (rc := (RX7, TX7, 4)) rfl rfl pn_7_pageInfo (by decide) ⟨rfl, rfl⟩ rfl) ?_
  refine tok_cons (snd_aload_n dL_adds_185 rfl rfl) ?_
  refine tok_cons (snd_iload dL_adds_186 rfl) ?_
  refine tok_cons (snd_iconst dL_adds_188 rfl (inr_d rfl) rfl) ?_
  refine tok_cons (snd_iconst dL_adds_189 rfl (inr_d rfl) rfl) ?_
  refine tok_cons (snd_cv dL_adds_190 mok_7_pageInfo ⟨wmL_55, wi_7_pageInfo, wl_7_pageInfo⟩ (rc := (RX7, TX7, 4)) rfl rfl pn_7_pageInfo (by decide) ⟨rfl, rfl⟩ rfl) ?_
  refine tok_cons (snd_add dL_adds_193 rfl) ?_
  refine tok_cons (snd_if_le dL_adds_194 (by decide) rfl) ?_
  refine tok_cons (snd_iconst dL_adds_197 rfl (inr_d rfl) rfl) ?_
  refine tok_cons (snd_goto dL_adds_198 (by decide)) ?_
  refine tok_cons (snd_iconst dL_adds_201 rfl (inr_d rfl) rfl) ?_
  refine tok_cons (snd_istore dL_adds_202 rfl (by decide)) ?_
  refine tok_cons (snd_iinc dL_adds_204 rfl rfl (by decide)) ?_
  refine tok_cons (snd_goto dL_adds_207 (by decide)) ?_
  refine tok_cons (snd_iload dL_adds_210 rfl) ?_
  refine tok_cons (snd_if_eq dL_adds_212 (by decide) rfl) ?_
  refine tok_cons (snd_aload_n dL_adds_215 rfl rfl) ?_
  refine tok_cons (snd_cv dL_adds_216 mok_7_cost ⟨wmL_67, wi_7_cost, wl_7_cost⟩ (rc := (RX7, TX7, 4)) rfl rfl pn_7_cost (by decide) ⟨rfl, rfl⟩ rfl) ?_
  refine tok_cons (snd_iload_n dL_adds_219 rfl rfl) ?_
  refine tok_cons (snd_icmp_ne dL_adds_220 (by decide) rfl) ?_
  refine tok_cons (snd_iload dL_adds_223 rfl) ?_
  refine tok_cons (snd_if_ne dL_adds_225 (by decide) rfl) ?_
  refine tok_cons (snd_aload_n dL_adds_228 rfl rfl) ?_
  refine tok_cons (snd_iload_n dL_adds_229 rfl rfl) ?_
  refine tok_cons (snd_sv dL_adds_230 mok_L_shows ⟨ws_L_shows, Or.inl ⟨wmL_70, rfl⟩⟩ pn_L_shows (by decide) ⟨rfl, rfl⟩ rfl) ?_
  refine tok_cons (snd_if_eq dL_adds_233 (by decide) rfl) ?_
  refine tok_cons (snd_iload_n dL_adds_236 rfl rfl) ?_
  refine tok_cons (snd_iload_n dL_adds_237 rfl rfl) ?_
  refine tok_cons (snd_icmp_gt dL_adds_238 (by decide) rfl) ?_
  refine tok_cons (snd_iconst dL_adds_241 rfl (inr_d rfl) rfl) ?_
  refine tok_cons (snd_goto dL_adds_242 (by decide)) ?_
  refine tok_cons (snd_iconst dL_adds_245 rfl (inr_d rfl) rfl) ?_
  refine tok_cons (snd_zret dL_adds_246 rfl) ?_
  exact tok_nil
def tab_L_law (X : XT) : Tab := [(0, false, a_new M_L_law 7 [some none, some none, some none, some none] 3), (3, false, a_dup 4), (4, false, a_ci X M_L_law M_7_init 7 7), (7, false, a_astore 1 8), (8, false, a_const 1 9), (9, false, a_istore 2 10), (10, false, a_const 0 11), (11, false, a_istore 3 12), (12, true, a_iload 3 13), (13, false, a_const 48 15), (15, false, a_icmp 3 61 18), (18, false, a_iload 2 19), (19, false, a_if 0 61 22), (22, false, a_aload 1 23), (23, false, a_aload 0 24), (24, false, a_iload 3 25), (25, false, a_sv X M_L_law M_L_cell 2 28), (28, false, a_sv X M_L_law M_L_acts 2 31), (31, false, a_if 0 53 34), (34, false, a_iload 3 35), (35, false, a_const 6 37), (37, false, a_rem 38), (38, false, a_const 5 39), (39, false, a_icmp 2 49 42), (42, false, a_aload 1 43), (43, false, a_sv X M_L_law M_L_adds 1 46), (46, false, a_if 0 53 49), (49, false, a_const 1 50), (50, false, a_goto 54), (53, false, a_const 0 54), (54, false, a_istore 2 55), (55, false, a_iinc 3 1 58), (58, false, a_goto 12), (61, true, a_iload 2 62), (62, false, a_if 0 76 65), (65, false, a_aload 1 66), (66, false, a_sv X M_L_law M_L_adds 1 69), (69, false, a_if 0 76 72), (72, false, a_const 1 73), (73, false, a_goto 77), (76, false, a_const 0 77), (77, false, a_istore 2 78), (78, true, a_const 1 79), (79, false, a_aload 0 80), (80, false, a_const 49 82), (82, false, a_sv X M_L_law M_L_cell 2 85), (85, false, a_const 12 87), (87, false, a_rem 88), (88, false, a_add 89), (89, false, a_istore 3 90), (90, false, a_iload 2 91), (91, false, a_if 0 102 94), (94, false, a_aload 1 95), (95, false, a_iload 3 96), (96, false, a_cv X M_L_law M_7_leastHeight 7 2 99), (99, false, a_goto 104), (102, false, a_const (-4) 104), (104, false, a_istore 4 106), (106, false, a_iload 2 107), (107, false, a_if 0 174 110), (110, false, a_iload 4 112), (112, false, a_if 5 174 115), (115, false, a_aload 1 116), (116, false, a_const 0 117), (117, false, a_iload 4 119), (119, false, a_cv X M_L_law M_7_set 7 3 122), (122, false, a_istore 5 124), (124, false, a_iload 5 126), (126, false, a_const 8 128), (128, false, a_icmp 2 172 131), (131, false, a_aload 1 132), (132, false, a_cv X M_L_law M_7_spreadCount 7 1 135), (135, false, a_iload 3 136), (136, false, a_icmp 4 172 139), (139, false, a_iload 4 141), (141, false, a_const 8 143), (143, false, a_icmp 0 168 146), (146, false, a_aload 1 147), (147, false, a_const 0 148), (148, false, a_iload 4 150), (150, false, a_const 1 151), (151, false, a_sub 152), (152, false, a_cv X M_L_law M_7_set 7 3 155), (155, false, a_iload 4 157), (157, false, a_icmp 1 172 160), (160, false, a_aload 1 161), (161, false, a_cv X M_L_law M_7_spreadCount 7 1 164), (164, false, a_iload 3 165), (165, false, a_icmp 5 172 168), (168, false, a_const 1 169), (169, false, a_goto 173), (172, false, a_const 0 173), (173, false, a_istore 2 174), (174, true, a_iload 2 175), (175, false, a_if 0 185 178), (178, false, a_aload 1 179), (179, false, a_cv X M_L_law M_7_bestCost 7 1 182), (182, false, a_goto 187), (185, false, a_const (-4) 187), (187, false, a_istore 5 189), (189, false, a_const (-1) 190), (190, false, a_istore 6 192), (192, false, a_const 0 193), (193, false, a_istore 7 195), (195, true, a_iload 7 197), (197, false, a_const 21 199), (199, false, a_icmp 3 282 202), (202, false, a_iload 2 203), (203, false, a_if 0 282 206), (206, false, a_iload 5 208), (208, false, a_if 2 282 211), (211, false, a_aload 1 212), (212, false, a_iload 7 214), (214, false, a_cv X M_L_law M_7_bestBreak 7 2 217), (217, false, a_istore 8 219), (219, false, a_iload 8 221), (221, false, a_const (-4) 223), (223, false, a_icmp 0 252 226), (226, false, a_iload 8 228), (228, false, a_iload 6 230), (230, false, a_icmp 5 256 233), (233, false, a_iload 7 235), (235, false, a_if 4 243 238), (238, false, a_iload 8 240), (240, false, a_if 1 256 243), (243, false, a_iload 6 245), (245, false, a_aload 1 246), (246, false, a_cv X M_L_law M_7_pairCount 7 1 249), (249, false, a_icmp 3 256 252), (252, false, a_const 1 253), (253, false, a_goto 257), (256, false, a_const 0 257), (257, false, a_istore 2 258), (258, false, a_iload 8 260), (260, false, a_const (-4) 262), (262, false, a_icmp 1 272 265), (265, false, a_aload 1 266), (266, false, a_cv X M_L_law M_7_pairCount 7 1 269), (269, false, a_goto 274), (272, false, a_iload 8 274), (274, false, a_istore 6 276), (276, false, a_iinc 7 1 279), (279, false, a_goto 195), (282, false, a_iload 2 283), (283, false, a_if 0 305 286), (286, false, a_iload 5 288), (288, false, a_if 3 301 291), (291, false, a_aload 1 292), (292, false, a_const 0 293), (293, false, a_cv X M_L_law M_7_bestBreak 7 2 296), (296, false, a_const (-4) 298), (298, false, a_icmp 1 305 301), (301, false, a_const 1 302), (302, false, a_goto 306), (305, false, a_const 0 306), (306, false, a_zret M_L_law)]
set_option maxRecDepth 20000 in
theorem t_L_law (X : XT) : tget (tab_L_law X) 0 = some (false, a_new M_L_law 7 [some none, some none, some none, some none] 3) ∧ tget (tab_L_law X) 3 = some (false, a_dup 4) ∧ tget (tab_L_law X) 4 = some (false, a_ci X M_L_law M_7_init 7 7) ∧ tget (tab_L_law X) 7 = some (false, a_astore 1 8) ∧ tget (tab_L_law X) 8 = some (false, a_const 1 9) ∧ tget (tab_L_law X) 9 = some (false, a_istore 2 10) ∧ tget (tab_L_law X) 10 = some (false, a_const 0 11) ∧ tget (tab_L_law X) 11 = some (false, a_istore 3 12) ∧ tget (tab_L_law X) 12 = some (true, a_iload 3 13) ∧ tget (tab_L_law X) 13 = some (false, a_const 48 15) ∧ tget (tab_L_law X) 15 = some (false, a_icmp 3 61 18) ∧ tget (tab_L_law X) 18 = some (false, a_iload 2 19) ∧ tget (tab_L_law X) 19 = some (false, a_if 0 61 22) ∧ tget (tab_L_law X) 22 = some (false, a_aload 1 23) ∧ tget (tab_L_law X) 23 = some (false, a_aload 0 24) ∧ tget (tab_L_law X) 24 = some (false, a_iload 3 25) ∧ tget (tab_L_law X) 25 = some (false, a_sv X M_L_law M_L_cell 2 28) ∧ tget (tab_L_law X) 28 = some (false, a_sv X M_L_law M_L_acts 2 31) ∧ tget (tab_L_law X) 31 = some (false, a_if 0 53 34) ∧ tget (tab_L_law X) 34 = some (false, a_iload 3 35) ∧ tget (tab_L_law X) 35 = some (false, a_const 6 37) ∧ tget (tab_L_law X) 37 = some (false, a_rem 38) ∧ tget (tab_L_law X) 38 = some (false, a_const 5 39) ∧ tget (tab_L_law X) 39 = some (false, a_icmp 2 49 42) ∧ tget (tab_L_law X) 42 = some (false, a_aload 1 43) ∧ tget (tab_L_law X) 43 = some (false, a_sv X M_L_law M_L_adds 1 46) ∧ tget (tab_L_law X) 46 = some (false, a_if 0 53 49) ∧ tget (tab_L_law X) 49 = some (false, a_const 1 50) ∧ tget (tab_L_law X) 50 = some (false, a_goto 54) ∧ tget (tab_L_law X) 53 = some (false, a_const 0 54) ∧ tget (tab_L_law X) 54 = some (false, a_istore 2 55) ∧ tget (tab_L_law X) 55 = some (false, a_iinc 3 1 58) ∧ tget (tab_L_law X) 58 = some (false, a_goto 12) ∧ tget (tab_L_law X) 61 = some (true, a_iload 2 62) ∧ tget (tab_L_law X) 62 = some (false, a_if 0 76 65) ∧ tget (tab_L_law X) 65 = some (false, a_aload 1 66) ∧ tget (tab_L_law X) 66 = some (false, a_sv X M_L_law M_L_adds 1 69) ∧ tget (tab_L_law X) 69 = some (false, a_if 0 76 72) ∧ tget (tab_L_law X) 72 = some (false, a_const 1 73) ∧ tget (tab_L_law X) 73 = some (false, a_goto 77) ∧ tget (tab_L_law X) 76 = some (false, a_const 0 77) ∧ tget (tab_L_law X) 77 = some (false, a_istore 2 78) ∧ tget (tab_L_law X) 78 = some (true, a_const 1 79) ∧ tget (tab_L_law X) 79 = some (false, a_aload 0 80) ∧ tget (tab_L_law X) 80 = some (false, a_const 49 82) ∧ tget (tab_L_law X) 82 = some (false, a_sv X M_L_law M_L_cell 2 85) ∧ tget (tab_L_law X) 85 = some (false, a_const 12 87) ∧ tget (tab_L_law X) 87 = some (false, a_rem 88) ∧ tget (tab_L_law X) 88 = some (false, a_add 89) ∧ tget (tab_L_law X) 89 = some (false, a_istore 3 90) ∧ tget (tab_L_law X) 90 = some (false, a_iload 2 91) ∧ tget (tab_L_law X) 91 = some (false, a_if 0 102 94) ∧ tget (tab_L_law X) 94 = some (false, a_aload 1 95) ∧ tget (tab_L_law X) 95 = some (false, a_iload 3 96) ∧ tget (tab_L_law X) 96 = some (false, a_cv X M_L_law M_7_leastHeight 7 2 99) ∧ tget (tab_L_law X) 99 = some (false, a_goto 104) ∧ tget (tab_L_law X) 102 = some (false, a_const (-4) 104) ∧ tget (tab_L_law X) 104 = some (false, a_istore 4 106) ∧ tget (tab_L_law X) 106 = some (false, a_iload 2 107) ∧ tget (tab_L_law X) 107 = some (false, a_if 0 174 110) ∧ tget (tab_L_law X) 110 = some (false, a_iload 4 112) ∧ tget (tab_L_law X) 112 = some (false, a_if 5 174 115) ∧ tget (tab_L_law X) 115 = some (false, a_aload 1 116) ∧ tget (tab_L_law X) 116 = some (false, a_const 0 117) ∧ tget (tab_L_law X) 117 = some (false, a_iload 4 119) ∧ tget (tab_L_law X) 119 = some (false, a_cv X M_L_law M_7_set 7 3 122) ∧ tget (tab_L_law X) 122 = some (false, a_istore 5 124) ∧ tget (tab_L_law X) 124 = some (false, a_iload 5 126) ∧ tget (tab_L_law X) 126 = some (false, a_const 8 128) ∧ tget (tab_L_law X) 128 = some (false, a_icmp 2 172 131) ∧ tget (tab_L_law X) 131 = some (false, a_aload 1 132) ∧ tget (tab_L_law X) 132 = some (false, a_cv X M_L_law M_7_spreadCount 7 1 135) ∧ tget (tab_L_law X) 135 = some (false, a_iload 3 136) ∧ tget (tab_L_law X) 136 = some (false, a_icmp 4 172 139) ∧ tget (tab_L_law X) 139 = some (false, a_iload 4 141) ∧ tget (tab_L_law X) 141 = some (false, a_const 8 143) ∧ tget (tab_L_law X) 143 = some (false, a_icmp 0 168 146) ∧ tget (tab_L_law X) 146 = some (false, a_aload 1 147) ∧ tget (tab_L_law X) 147 = some (false, a_const 0 148) ∧ tget (tab_L_law X) 148 = some (false, a_iload 4 150) ∧ tget (tab_L_law X) 150 = some (false, a_const 1 151) ∧ tget (tab_L_law X) 151 = some (false, a_sub 152) ∧ tget (tab_L_law X) 152 = some (false, a_cv X M_L_law M_7_set 7 3 155) ∧ tget (tab_L_law X) 155 = some (false, a_iload 4 157) ∧ tget (tab_L_law X) 157 = some (false, a_icmp 1 172 160) ∧ tget (tab_L_law X) 160 = some (false, a_aload 1 161) ∧ tget (tab_L_law X) 161 = some (false, a_cv X M_L_law M_7_spreadCount 7 1 164) ∧ tget (tab_L_law X) 164 = some (false, a_iload 3 165) ∧ tget (tab_L_law X) 165 = some (false, a_icmp 5 172 168) ∧ tget (tab_L_law X) 168 = some (false, a_const 1 169) ∧ tget (tab_L_law X) 169 = some (false, a_goto 173) ∧ tget (tab_L_law X) 172 = some (false, a_const 0 173) ∧ tget (tab_L_law X) 173 = some (false, a_istore 2 174) ∧ tget (tab_L_law X) 174 = some (true, a_iload 2 175) ∧ tget (tab_L_law X) 175 = some (false, a_if 0 185 178) ∧ tget (tab_L_law X) 178 = some (false, a_aload 1 179) ∧ tget (tab_L_law X) 179 = some (false, a_cv X M_L_law M_7_bestCost 7 1 182) ∧ tget (tab_L_law X) 182 = some (false, a_goto 187) ∧ tget (tab_L_law X) 185 = some (false, a_const (-4) 187) ∧ tget (tab_L_law X) 187 = some (false, a_istore 5 189) ∧ tget (tab_L_law X) 189 = some (false, a_const (-1) 190) ∧ tget (tab_L_law X) 190 = some (false, a_istore 6 192) ∧ tget (tab_L_law X) 192 = some (false, a_const 0 193) ∧ tget (tab_L_law X) 193 = some (false, a_istore 7 195) ∧ tget (tab_L_law X) 195 = some (true, a_iload 7 197) ∧ tget (tab_L_law X) 197 = some (false, a_const 21 199) ∧ tget (tab_L_law X) 199 = some (false, a_icmp 3 282 202) ∧ tget (tab_L_law X) 202 = some (false, a_iload 2 203) ∧ tget (tab_L_law X) 203 = some (false, a_if 0 282 206) ∧ tget (tab_L_law X) 206 = some (false, a_iload 5 208) ∧ tget (tab_L_law X) 208 = some (false, a_if 2 282 211) ∧ tget (tab_L_law X) 211 = some (false, a_aload 1 212) ∧ tget (tab_L_law X) 212 = some (false, a_iload 7 214) ∧ tget (tab_L_law X) 214 = some (false, a_cv X M_L_law M_7_bestBreak 7 2 217) ∧ tget (tab_L_law X) 217 = some (false, a_istore 8 219) ∧ tget (tab_L_law X) 219 = some (false, a_iload 8 221) ∧ tget (tab_L_law X) 221 = some (false, a_const (-4) 223) ∧ tget (tab_L_law X) 223 = some (false, a_icmp 0 252 226) ∧ tget (tab_L_law X) 226 = some (false, a_iload 8 228) ∧ tget (tab_L_law X) 228 = some (false, a_iload 6 230) ∧ tget (tab_L_law X) 230 = some (false, a_icmp 5 256 233) ∧ tget (tab_L_law X) 233 = some (false, a_iload 7 235) ∧ tget (tab_L_law X) 235 = some (false, a_if 4 243 238) ∧ tget (tab_L_law X) 238 = some (false, a_iload 8 240) ∧ tget (tab_L_law X) 240 = some (false, a_if 1 256 243) ∧ tget (tab_L_law X) 243 = some (false, a_iload 6 245) ∧ tget (tab_L_law X) 245 = some (false, a_aload 1 246) ∧ tget (tab_L_law X) 246 = some (false, a_cv X M_L_law M_7_pairCount 7 1 249) ∧ tget (tab_L_law X) 249 = some (false, a_icmp 3 256 252) ∧ tget (tab_L_law X) 252 = some (false, a_const 1 253) ∧ tget (tab_L_law X) 253 = some (false, a_goto 257) ∧ tget (tab_L_law X) 256 = some (false, a_const 0 257) ∧ tget (tab_L_law X) 257 = some (false, a_istore 2 258) ∧ tget (tab_L_law X) 258 = some (false, a_iload 8 260) ∧ tget (tab_L_law X) 260 = some (false, a_const (-4) 262) ∧ tget (tab_L_law X) 262 = some (false, a_icmp 1 272 265) ∧ tget (tab_L_law X) 265 = some (false, a_aload 1 266) ∧ tget (tab_L_law X) 266 = some (false, a_cv X M_L_law M_7_pairCount 7 1 269) ∧ tget (tab_L_law X) 269 = some (false, a_goto 274) ∧ tget (tab_L_law X) 272 = some (false, a_iload 8 274) ∧ tget (tab_L_law X) 274 = some (false, a_istore 6 276) ∧ tget (tab_L_law X) 276 = some (false, a_iinc 7 1 279) ∧ tget (tab_L_law X) 279 = some (false, a_goto 195) ∧ tget (tab_L_law X) 282 = some (false, a_iload 2 283) ∧ tget (tab_L_law X) 283 = some (false, a_if 0 305 286) ∧ tget (tab_L_law X) 286 = some (false, a_iload 5 288) ∧ tget (tab_L_law X) 288 = some (false, a_if 3 301 291) ∧ tget (tab_L_law X) 291 = some (false, a_aload 1 292) ∧ tget (tab_L_law X) 292 = some (false, a_const 0 293) ∧ tget (tab_L_law X) 293 = some (false, a_cv X M_L_law M_7_bestBreak 7 2 296) ∧ tget (tab_L_law X) 296 = some (false, a_const (-4) 298) ∧ tget (tab_L_law X) 298 = some (false, a_icmp 1 305 301) ∧ tget (tab_L_law X) 301 = some (false, a_const 1 302) ∧ tget (tab_L_law X) 302 = some (false, a_goto 306) ∧ tget (tab_L_law X) 305 = some (false, a_const 0 306) ∧ tget (tab_L_law X) 306 = some (false, a_zret M_L_law) := ⟨rfl, rfl, rfl, rfl, rfl, rfl, rfl, rfl, rfl, rfl, rfl, rfl, rfl, rfl, rfl, rfl, rfl, rfl, rfl, rfl, rfl, rfl, rfl, rfl, rfl, rfl, rfl, rfl, rfl, rfl, rfl, rfl, rfl, rfl, rfl, rfl, rfl, rfl, rfl, rfl, rfl, rfl, rfl, rfl, rfl, rfl, rfl, rfl, rfl, rfl, rfl, rfl, rfl, rfl, rfl, rfl, rfl, rfl, rfl, rfl, rfl, rfl, rfl, rfl, rfl, rfl, rfl, rfl, rfl, rfl, rfl, rfl, rfl, rfl, rfl, rfl, rfl, rfl, rfl, rfl, rfl, rfl, rfl, rfl, rfl, rfl, rfl, rfl, rfl, rfl, rfl, rfl, rfl, rfl, rfl, rfl, rfl, rfl, rfl, rfl, rfl, rfl, rfl, rfl, rfl, rfl, rfl, rfl, rfl, rfl, rfl, rfl, rfl, rfl, rfl, rfl, rfl, rfl, rfl, rfl, rfl, rfl, rfl, rfl, rfl, rfl, rfl, rfl, rfl, rfl, rfl, rfl, rfl, rfl, rfl, rfl, rfl, rfl, rfl, rfl, rfl, rfl, rfl, rfl, rfl, rfl, rfl, rfl, rfl, rfl, rfl, rfl, rfl, rfl, rfl, rfl⟩
theorem tok_L_law (X : XT) : TabOK X M_L_law (tab_L_law X) := by
  unfold tab_L_law
  refine tok_cons (snd_new (C := RX7) (T := TX7) (N := 4) (ty := tyX7) dL_law_0 rfl inX7 wclL_10 wib_7 wn_7 tyX7_ok rfl (fun j hj => by match j, hj with | 0, _ => exact Or.inr ⟨rfl, rfl⟩ | 1, _ => exact Or.inr ⟨rfl, rfl⟩ | 2, _ => exact Or.inr ⟨rfl, rfl⟩ | 3, _ => exact Or.inr ⟨rfl, rfl⟩) rfl) ?_
  refine tok_cons (snd_dup dL_law_3 rfl) ?_
  refine tok_cons (snd_ci dL_law_4 mok_7_init rfl ⟨wi_7_init, rfl, Or.inl wmL_76⟩ pn_7_init (by decide) rfl) ?_
  refine tok_cons (snd_astore_n dL_law_7 rfl rfl (by decide)) ?_
  refine tok_cons (snd_iconst dL_law_8 rfl (inr_d rfl) rfl) ?_
  refine tok_cons (snd_istore_n dL_law_9 rfl rfl (by decide)) ?_
  refine tok_cons (snd_iconst dL_law_10 rfl (inr_d rfl) rfl) ?_
  refine tok_cons (snd_istore_n dL_law_11 rfl rfl (by decide)) ?_
  refine tok_cons (snd_iload_n dL_law_12 rfl rfl) ?_
  refine tok_cons (snd_bipush dL_law_13 (by decide) (inr_d rfl) rfl) ?_
  refine tok_cons (snd_icmp_ge dL_law_15 (by decide) rfl) ?_
  refine tok_cons (snd_iload_n dL_law_18 rfl rfl) ?_
  refine tok_cons (snd_if_eq dL_law_19 (by decide) rfl) ?_
  refine tok_cons (snd_aload_n dL_law_22 rfl rfl) ?_
  refine tok_cons (snd_aload_n dL_law_23 rfl rfl) ?_
  refine tok_cons (snd_iload_n dL_law_24 rfl rfl) ?_
  refine tok_cons (snd_sv dL_law_25 mok_L_cell ⟨ws_L_cell, Or.inl ⟨wmL_77, rfl⟩⟩ pn_L_cell (by decide) ⟨rfl, rfl⟩ rfl) ?_
  refine tok_cons (snd_sv dL_law_28 mok_L_acts ⟨ws_L_acts, Or.inl ⟨wmL_81, rfl⟩⟩ pn_L_acts (by decide) ⟨rfl, rfl⟩ rfl) ?_
  refine tok_cons (snd_if_eq dL_law_31 (by decide) rfl) ?_
  refine tok_cons (snd_iload_n dL_law_34 rfl rfl) ?_
  refine tok_cons (snd_bipush dL_law_35 (by decide) (inr_d rfl) rfl) ?_
  refine tok_cons (snd_rem dL_law_37 rfl) ?_
  refine tok_cons (snd_iconst dL_law_38 rfl (inr_d rfl) rfl) ?_
  refine tok_cons (snd_icmp_lt dL_law_39 (by decide) rfl) ?_
  refine tok_cons (snd_aload_n dL_law_42 rfl rfl) ?_
  refine tok_cons (snd_sv dL_law_43 mok_L_adds ⟨ws_L_adds, Or.inl ⟨wmL_84, rfl⟩⟩ pn_L_adds (by decide) ⟨rfl, rfl⟩ rfl) ?_
  refine tok_cons (snd_if_eq dL_law_46 (by decide) rfl) ?_
  refine tok_cons (snd_iconst dL_law_49 rfl (inr_d rfl) rfl) ?_
  refine tok_cons (snd_goto dL_law_50 (by decide)) ?_
  refine tok_cons (snd_iconst dL_law_53 rfl (inr_d rfl) rfl) ?_
  refine tok_cons (snd_istore_n dL_law_54 rfl rfl (by decide)) ?_
  refine tok_cons (snd_iinc dL_law_55 rfl rfl (by decide)) ?_
  refine tok_cons (snd_goto dL_law_58 (by decide)) ?_
  refine tok_cons (snd_iload_n dL_law_61 rfl rfl) ?_
  refine tok_cons (snd_if_eq dL_law_62 (by decide) rfl) ?_
  refine tok_cons (snd_aload_n dL_law_65 rfl rfl) ?_
  refine tok_cons (snd_sv dL_law_66 mok_L_adds ⟨ws_L_adds, Or.inl ⟨wmL_84, rfl⟩⟩ pn_L_adds (by decide) ⟨rfl, rfl⟩ rfl) ?_
  refine tok_cons (snd_if_eq dL_law_69 (by decide) rfl) ?_
  refine tok_cons (snd_iconst dL_law_72 rfl (inr_d rfl) rfl) ?_
  refine tok_cons (snd_goto dL_law_73 (by decide)) ?_
  refine tok_cons (snd_iconst dL_law_76 rfl (inr_d rfl) rfl) ?_
  refine tok_cons (snd_istore_n dL_law_77 rfl rfl (by decide)) ?_
  refine tok_cons (snd_iconst dL_law_78 rfl (inr_d rfl) rfl) ?_
  refine tok_cons (snd_aload_n dL_law_79 rfl rfl) ?_
  refine tok_cons (snd_bipush dL_law_80 (by decide) (inr_d rfl) rfl) ?_
  refine tok_cons (snd_sv dL_law_82 mok_L_cell ⟨ws_L_cell, Or.inl ⟨wmL_77, rfl⟩⟩ pn_L_cell (by decide) ⟨rfl, rfl⟩ rfl) ?_
  refine tok_cons (snd_bipush dL_law_85 (by decide) (inr_d rfl) rfl) ?_
  refine tok_cons (snd_rem dL_law_87 rfl) ?_
  refine tok_cons (snd_add dL_law_88 rfl) ?_
  refine tok_cons (snd_istore_n dL_law_89 rfl rfl (by decide)) ?_
  refine tok_cons (snd_iload_n dL_law_90 rfl rfl) ?_
  refine tok_cons (snd_if_eq dL_law_91 (by decide) rfl) ?_
  refine tok_cons (snd_aload_n dL_law_94 rfl rfl) ?_
  refine tok_cons (snd_iload_n dL_law_95 rfl rfl) ?_
  refine tok_cons (snd_cv dL_law_96 mok_7_leastHeight ⟨wmL_88, wi_7_leastHeight, wl_7_leastHeight⟩ (rc := (RX7, TX7, 4)) rfl rfl pn_7_leastHeight (by decide) ⟨rfl, rfl⟩ rfl) ?_
  refine tok_cons (snd_goto dL_law_99 (by decide)) ?_
  refine tok_cons (snd_bipush dL_law_102 (by decide) (inr_d rfl) rfl) ?_
  refine tok_cons (snd_istore dL_law_104 rfl (by decide)) ?_
  refine tok_cons (snd_iload_n dL_law_106 rfl rfl) ?_
  refine tok_cons (snd_if_eq dL_law_107 (by decide) rfl) ?_
  refine tok_cons (snd_iload dL_law_110 rfl) ?_
  refine tok_cons (snd_if_le dL_law_112 (by decide) rfl) ?_
  refine tok_cons (snd_aload_n dL_law_115 rfl rfl) ?_
  refine tok_cons (snd_iconst dL_law_116 rfl (inr_d rfl) rfl) ?_
  refine tok_cons (snd_iload dL_law_117 rfl) ?_
  refine tok_cons (snd_cv dL_law_119 mok_7_set ⟨wmL_34, wi_7_set, wl_7_set⟩ (rc := (RX7, TX7, 4)) rfl rfl pn_7_set (by decide) ⟨rfl, rfl⟩ rfl) ?_
  refine tok_cons (snd_istore dL_law_122 rfl (by decide)) ?_
  refine tok_cons (snd_iload dL_law_124 rfl) ?_
  refine tok_cons (snd_bipush dL_law_126 (by decide) (inr_d rfl) rfl) ?_
  refine tok_cons (snd_icmp_lt dL_law_128 (by decide) rfl) ?_
  refine tok_cons (snd_aload_n dL_law_131 rfl rfl) ?_
  refine tok_cons (snd_cv dL_law_132 mok_7_spreadCount ⟨wmL_58, wi_7_spreadCount, wl_7_spreadCount⟩ (rc := (RX7, TX7, 4)) rfl rfl pn_7_spreadCount (by decide) ⟨rfl, rfl⟩ rfl) ?_
  refine tok_cons (snd_iload_n dL_law_135 rfl rfl) ?_
  refine tok_cons (snd_icmp_gt dL_law_136 (by decide) rfl) ?_
  refine tok_cons (snd_iload dL_law_139 rfl) ?_
  refine tok_cons (snd_bipush dL_law_141 (by decide) (inr_d rfl) rfl) ?_
  refine tok_cons (snd_icmp_eq dL_law_143 (by decide) rfl) ?_
  refine tok_cons (snd_aload_n dL_law_146 rfl rfl) ?_
  refine tok_cons (snd_iconst dL_law_147 rfl (inr_d rfl) rfl) ?_
  refine tok_cons (snd_iload dL_law_148 rfl) ?_
  refine tok_cons (snd_iconst dL_law_150 rfl (inr_d rfl) rfl) ?_
  refine tok_cons (snd_sub dL_law_151 rfl) ?_
  refine tok_cons (snd_cv dL_law_152 mok_7_set ⟨wmL_34, wi_7_set, wl_7_set⟩ (rc := (RX7, TX7, 4)) rfl rfl pn_7_set (by decide) ⟨rfl, rfl⟩ rfl) ?_
  refine tok_cons (snd_iload dL_law_155 rfl) ?_
  refine tok_cons (snd_icmp_ne dL_law_157 (by decide) rfl) ?_
  refine tok_cons (snd_aload_n dL_law_160 rfl rfl) ?_
  refine tok_cons (snd_cv dL_law_161 mok_7_spreadCount ⟨wmL_58, wi_7_spreadCount, wl_7_spreadCount⟩ (rc := (RX7, TX7, 4)) rfl rfl pn_7_spreadCount (by decide) ⟨rfl, rfl⟩ rfl) ?_
  refine tok_cons (snd_iload_n dL_law_164 rfl rfl) ?_
  refine tok_cons (snd_icmp_le dL_law_165 (by decide) rfl) ?_
  refine tok_cons (snd_iconst dL_law_168 rfl (inr_d rfl) rfl) ?_
  refine tok_cons (snd_goto dL_law_169 (by decide)) ?_
  refine tok_cons (snd_iconst dL_law_172 rfl (inr_d rfl) rfl) ?_
  refine tok_cons (snd_istore_n dL_law_173 rfl rfl (by decide)) ?_
  refine tok_cons (snd_iload_n dL_law_174 rfl rfl) ?_
  refine tok_cons (snd_if_eq dL_law_175 (by decide) rfl) ?_
  refine tok_cons (snd_aload_n dL_law_178 rfl rfl) ?_
  refine tok_cons (snd_cv dL_law_179 mok_7_bestCost ⟨wmL_91, wi_7_bestCost, wl_7_bestCost⟩ (rc := (RX7, TX7, 4)) rfl rfl pn_7_bestCost (by decide) ⟨rfl, rfl⟩ rfl) ?_
  refine tok_cons (snd_goto dL_law_182 (by decide)) ?_
  refine tok_cons (snd_bipush dL_law_185 (by decide) (inr_d rfl) rfl) ?_
  refine tok_cons (snd_istore dL_law_187 rfl (by decide)) ?_
  refine tok_cons (snd_iconst dL_law_189 rfl (inr_d rfl) rfl) ?_
  refine tok_cons (snd_istore dL_law_190 rfl (by decide)) ?_
  refine tok_cons (snd_iconst dL_law_192 rfl (inr_d rfl) rfl) ?_
  refine tok_cons (snd_istore dL_law_193 rfl (by decide)) ?_
  refine tok_cons (snd_iload dL_law_195 rfl) ?_
  refine tok_cons (snd_bipush dL_law_197 (by decide) (inr_d rfl) rfl) ?_
  refine tok_cons (snd_icmp_ge dL_law_199 (by decide) rfl) ?_
  refine tok_cons (snd_iload_n dL_law_202 rfl rfl) ?_
  refine tok_cons (snd_if_eq dL_law_203 (by decide) rfl) ?_
  refine tok_cons (snd_iload dL_law_206 rfl) ?_
  refine tok_cons (snd_if_lt dL_law_208 (by decide) rfl) ?_
  refine tok_cons (snd_aload_n dL_law_211 rfl rfl) ?_
  refine tok_cons (snd_iload dL_law_212 rfl) ?_
  refine tok_cons (snd_cv dL_law_214 mok_7_bestBreak ⟨wmL_94, wi_7_bestBreak, wl_7_bestBreak⟩ (rc := (RX7, TX7, 4)) rfl rfl pn_7_bestBreak (by decide) ⟨rfl, rfl⟩ rfl) ?_
  refine tok_cons (snd_istore dL_law_217 rfl (by decide)) ?_
  refine tok_cons (snd_iload dL_law_219 rfl) ?_
  refine tok_cons (snd_bipush dL_law_221 (by decide) (inr_d rfl) rfl) ?_
  refine tok_cons (snd_icmp_eq dL_law_223 (by decide) rfl) ?_
  refine tok_cons (snd_iload dL_law_226 rfl) ?_
  refine tok_cons (snd_iload dL_law_228 rfl) ?_
  refine tok_cons (snd_icmp_le dL_law_230 (by decide) rfl) ?_
  refine tok_cons (snd_iload dL_law_233 rfl) ?_
  refine tok_cons (snd_if_gt dL_law_235 (by decide) rfl) ?_
  refine tok_cons (snd_iload dL_law_238 rfl) ?_
  refine tok_cons (snd_if_ne dL_law_240 (by decide) rfl) ?_
  refine tok_cons (snd_iload dL_law_243 rfl) ?_
  refine tok_cons (snd_aload_n dL_law_245 rfl rfl) ?_
  refine tok_cons (snd_cv dL_law_246 mok_7_pairCount ⟨wmL_9, wi_7_pairCount, wl_7_pairCount⟩ (rc := (RX7, TX7, 4)) rfl rfl pn_7_pairCount (by decide) ⟨rfl, rfl⟩ rfl) ?_
  refine tok_cons (snd_icmp_ge dL_law_249 (by decide) rfl) ?_
  refine tok_cons (snd_iconst dL_law_252 rfl (inr_d rfl) rfl) ?_
  refine tok_cons (snd_goto dL_law_253 (by decide)) ?_
  refine tok_cons (snd_iconst dL_law_256 rfl (inr_d rfl) rfl) ?_
  refine tok_cons (snd_istore_n dL_law_257 rfl rfl (by decide)) ?_
  refine tok_cons (snd_iload dL_law_258 rfl) ?_
  refine tok_cons (snd_bipush dL_law_260 (by decide) (inr_d rfl) rfl) ?_
  refine tok_cons (snd_icmp_ne dL_law_262 (by decide) rfl) ?_
  refine tok_cons (snd_aload_n dL_law_265 rfl rfl) ?_
  refine tok_cons (snd_cv dL_law_266 mok_7_pairCount ⟨wmL_9, wi_7_pairCount, wl_7_pairCount⟩ (rc := (RX7, TX7, 4)) rfl rfl pn_7_pairCount (by decide) ⟨rfl, rfl⟩ rfl) ?_
  refine tok_cons (snd_goto dL_law_269 (by decide)) ?_
  refine tok_cons (snd_iload dL_law_272 rfl) ?_
  refine tok_cons (snd_istore dL_law_274 rfl (by decide)) ?_
  refine tok_cons (snd_iinc dL_law_276 rfl rfl (by decide)) ?_
  refine tok_cons (snd_goto dL_law_279 (by decide)) ?_
  refine tok_cons (snd_iload_n dL_law_282 rfl rfl) ?_
  refine tok_cons (snd_if_eq dL_law_283 (by decide) rfl) ?_
  refine tok_cons (snd_iload dL_law_286 rfl) ?_
  refine tok_cons (snd_if_ge dL_law_288 (by decide) rfl) ?_
  refine tok_cons (snd_aload_n dL_law_291 rfl rfl) ?_
  refine tok_cons (snd_iconst dL_law_292 rfl (inr_d rfl) rfl) ?_
  refine tok_cons (snd_cv dL_law_293 mok_7_bestBreak ⟨wmL_94, wi_7_bestBreak, wl_7_bestBreak⟩ (rc := (RX7, TX7, 4)) rfl rfl pn_7_bestBreak (by decide) ⟨rfl, rfl⟩ rfl) ?_
  refine tok_cons (snd_bipush dL_law_296 (by decide) (inr_d rfl) rfl) ?_
  refine tok_cons (snd_icmp_ne dL_law_298 (by decide) rfl) ?_
  refine tok_cons (snd_iconst dL_law_301 rfl (inr_d rfl) rfl) ?_
  refine tok_cons (snd_goto dL_law_302 (by decide)) ?_
  refine tok_cons (snd_iconst dL_law_305 rfl (inr_d rfl) rfl) ?_
  refine tok_cons (snd_zret dL_law_306 rfl) ?_
  exact tok_nil
