def tab_8_in (X : XT) : Tab := [(0, false, a_iload 0 1), (1, false, a_iload 1 2), (2, false, a_icmp 2 14 5), (5, false, a_iload 0 6), (6, false, a_iload 2 7), (7, false, a_icmp 4 14 10), (10, false, a_const 1 11), (11, false, a_goto 15), (14, false, a_const 0 15), (15, false, a_zret M_8_in)]
set_option maxRecDepth 20000 in
theorem t_8_in (X : XT) : tget (tab_8_in X) 0 = some (false, a_iload 0 1) ∧ tget (tab_8_in X) 1 = some (false, a_iload 1 2) ∧ tget (tab_8_in X) 2 = some (false, a_icmp 2 14 5) ∧ tget (tab_8_in X) 5 = some (false, a_iload 0 6) ∧ tget (tab_8_in X) 6 = some (false, a_iload 2 7) ∧ tget (tab_8_in X) 7 = some (false, a_icmp 4 14 10) ∧ tget (tab_8_in X) 10 = some (false, a_const 1 11) ∧ tget (tab_8_in X) 11 = some (false, a_goto 15) ∧ tget (tab_8_in X) 14 = some (false, a_const 0 15) ∧ tget (tab_8_in X) 15 = some (false, a_zret M_8_in) := ⟨rfl, rfl, rfl, rfl, rfl, rfl, rfl, rfl, rfl, rfl⟩
theorem tok_8_in (X : XT) : TabOK X M_8_in (tab_8_in X) := by
  unfold tab_8_in
  refine tok_cons (snd_iload_n dX8_in_0 rfl rfl) ?_
  refine tok_cons (snd_iload_n dX8_in_1 rfl rfl) ?_
  refine tok_cons (snd_icmp_lt dX8_in_2 (by decide) rfl) ?_
  refine tok_cons (snd_iload_n dX8_in_5 rfl rfl) ?_
  refine tok_cons (snd_iload_n dX8_in_6 rfl rfl) ?_
  refine tok_cons (snd_icmp_gt dX8_in_7 (by decide) rfl) ?_
  refine tok_cons (snd_iconst dX8_in_10 rfl (inr_d rfl) rfl) ?_
  refine tok_cons (snd_goto dX8_in_11 (by decide)) ?_
  refine tok_cons (snd_iconst dX8_in_14 rfl (inr_d rfl) rfl) ?_
  refine tok_cons (snd_zret dX8_in_15 rfl) ?_
  exact tok_nil
def tab_8_lines (X : XT) : Tab := [(0, false, a_aload 0 1), (1, false, a_gr 8 0 4), (4, false, a_const 1 5), (5, false, a_const 20 7), (7, false, a_iload 2 8), (8, false, a_mul 9), (9, false, a_add 10), (10, false, a_iload 1 11), (11, false, a_add 12), (12, false, a_ald false 13), (13, false, a_iret M_8_lines)]
set_option maxRecDepth 20000 in
theorem t_8_lines (X : XT) : tget (tab_8_lines X) 0 = some (false, a_aload 0 1) ∧ tget (tab_8_lines X) 1 = some (false, a_gr 8 0 4) ∧ tget (tab_8_lines X) 4 = some (false, a_const 1 5) ∧ tget (tab_8_lines X) 5 = some (false, a_const 20 7) ∧ tget (tab_8_lines X) 7 = some (false, a_iload 2 8) ∧ tget (tab_8_lines X) 8 = some (false, a_mul 9) ∧ tget (tab_8_lines X) 9 = some (false, a_add 10) ∧ tget (tab_8_lines X) 10 = some (false, a_iload 1 11) ∧ tget (tab_8_lines X) 11 = some (false, a_add 12) ∧ tget (tab_8_lines X) 12 = some (false, a_ald false 13) ∧ tget (tab_8_lines X) 13 = some (false, a_iret M_8_lines) := ⟨rfl, rfl, rfl, rfl, rfl, rfl, rfl, rfl, rfl, rfl, rfl⟩
theorem tok_8_lines (X : XT) : TabOK X M_8_lines (tab_8_lines X) := by
  unfold tab_8_lines
  refine tok_cons (snd_aload_n dX8_lines_0 rfl rfl) ?_
  refine tok_cons (snd_gr (C := RX8) (T := TX8) (N := 21) dX8_lines_1 rfl (by decide) rfl wf8_7 inX8 rfl) ?_
  refine tok_cons (snd_iconst dX8_lines_4 rfl (inr_d rfl) rfl) ?_
  refine tok_cons (snd_bipush dX8_lines_5 (by decide) (inr_d rfl) rfl) ?_
  refine tok_cons (snd_iload_n dX8_lines_7 rfl rfl) ?_
  refine tok_cons (snd_mul dX8_lines_8 rfl) ?_
  refine tok_cons (snd_add dX8_lines_9 rfl) ?_
  refine tok_cons (snd_iload_n dX8_lines_10 rfl rfl) ?_
  refine tok_cons (snd_add dX8_lines_11 rfl) ?_
  refine tok_cons (snd_iald dX8_lines_12 rfl) ?_
  refine tok_cons (snd_iret dX8_lines_13 rfl) ?_
  exact tok_nil
def tab_8_noteLong (X : XT) : Tab := [(0, false, a_aload 0 1), (1, false, a_gr 8 0 4), (4, false, a_const 249 7), (7, false, a_const 40 9), (9, false, a_iload 1 10), (10, false, a_mul 11), (11, false, a_add 12), (12, false, a_iload 2 13), (13, false, a_add 14), (14, false, a_ald false 15), (15, false, a_iret M_8_noteLong)]
set_option maxRecDepth 20000 in
theorem t_8_noteLong (X : XT) : tget (tab_8_noteLong X) 0 = some (false, a_aload 0 1) ∧ tget (tab_8_noteLong X) 1 = some (false, a_gr 8 0 4) ∧ tget (tab_8_noteLong X) 4 = some (false, a_const 249 7) ∧ tget (tab_8_noteLong X) 7 = some (false, a_const 40 9) ∧ tget (tab_8_noteLong X) 9 = some (false, a_iload 1 10) ∧ tget (tab_8_noteLong X) 10 = some (false, a_mul 11) ∧ tget (tab_8_noteLong X) 11 = some (false, a_add 12) ∧ tget (tab_8_noteLong X) 12 = some (false, a_iload 2 13) ∧ tget (tab_8_noteLong X) 13 = some (false, a_add 14) ∧ tget (tab_8_noteLong X) 14 = some (false, a_ald false 15) ∧ tget (tab_8_noteLong X) 15 = some (false, a_iret M_8_noteLong) := ⟨rfl, rfl, rfl, rfl, rfl, rfl, rfl, rfl, rfl, rfl, rfl⟩
theorem tok_8_noteLong (X : XT) : TabOK X M_8_noteLong (tab_8_noteLong X) := by
  unfold tab_8_noteLong
  refine tok_cons (snd_aload_n dX8_noteLong_0 rfl rfl) ?_
  refine tok_cons (snd_gr (C := RX8) (T := TX8) (N := 21) dX8_noteLong_1 rfl (by decide) rfl wf8_7 inX8 rfl) ?_
  refine tok_cons (snd_sipush dX8_noteLong_4 (by decide) (inr_d rfl) rfl) ?_
  refine tok_cons (snd_bipush dX8_noteLong_7 (by decide) (inr_d rfl) rfl) ?_
  refine tok_cons (snd_iload_n dX8_noteLong_9 rfl rfl) ?_
  refine tok_cons (snd_mul dX8_noteLong_10 rfl) ?_
  refine tok_cons (snd_add dX8_noteLong_11 rfl) ?_
  refine tok_cons (snd_iload_n dX8_noteLong_12 rfl rfl) ?_
  refine tok_cons (snd_add dX8_noteLong_13 rfl) ?_
  refine tok_cons (snd_iald dX8_noteLong_14 rfl) ?_
  refine tok_cons (snd_iret dX8_noteLong_15 rfl) ?_
  exact tok_nil
def tab_8_records (X : XT) : Tab := [(0, false, a_aload 0 1), (1, false, a_gi 8 2 2 4), (4, false, a_const 6 6), (6, false, a_icmp 1 50 9), (9, false, a_const 0 10), (10, false, a_istore 1 11), (11, true, a_iload 1 12), (12, false, a_const 1645 15), (15, false, a_icmp 3 40 18), (18, false, a_aload 0 19), (19, false, a_gr 8 1 22), (22, false, a_iload 1 23), (23, false, a_aload 0 24), (24, false, a_gr 8 1 27), (27, false, a_iload 1 28), (28, false, a_const 329 31), (31, false, a_add 32), (32, false, a_ald false 33), (33, false, a_ast false 34), (34, false, a_iinc 1 1 37), (37, false, a_goto 11), (40, false, a_aload 0 41), (41, false, a_dup 42), (42, false, a_gi 8 2 2 45), (45, false, a_const 1 46), (46, false, a_sub 47), (47, false, a_pi 8 2 2 false 50), (50, false, a_const 0 51), (51, false, a_istore 1 52), (52, true, a_iload 1 53), (53, false, a_const 329 56), (56, false, a_icmp 3 86 59), (59, false, a_aload 0 60), (60, false, a_gr 8 1 63), (63, false, a_const 329 66), (66, false, a_aload 0 67), (67, false, a_gi 8 2 2 70), (70, false, a_mul 71), (71, false, a_iload 1 72), (72, false, a_add 73), (73, false, a_aload 0 74), (74, false, a_gr 8 0 77), (77, false, a_iload 1 78), (78, false, a_ald false 79), (79, false, a_ast false 80), (80, false, a_iinc 1 1 83), (83, false, a_goto 52), (86, false, a_aload 0 87), (87, false, a_dup 88), (88, false, a_gi 8 2 2 91), (91, false, a_const 1 92), (92, false, a_add 93), (93, false, a_pi 8 2 2 false 96), (96, false, a_ret M_8_records)]
set_option maxRecDepth 20000 in
theorem t_8_records (X : XT) : tget (tab_8_records X) 0 = some (false, a_aload 0 1) ∧ tget (tab_8_records X) 1 = some (false, a_gi 8 2 2 4) ∧ tget (tab_8_records X) 4 = some (false, a_const 6 6) ∧ tget (tab_8_records X) 6 = some (false, a_icmp 1 50 9) ∧ tget (tab_8_records X) 9 = some (false, a_const 0 10) ∧ tget (tab_8_records X) 10 = some (false, a_istore 1 11) ∧ tget (tab_8_records X) 11 = some (true, a_iload 1 12) ∧ tget (tab_8_records X) 12 = some (false, a_const 1645 15) ∧ tget (tab_8_records X) 15 = some (false, a_icmp 3 40 18) ∧ tget (tab_8_records X) 18 = some (false, a_aload 0 19) ∧ tget (tab_8_records X) 19 = some (false, a_gr 8 1 22) ∧ tget (tab_8_records X) 22 = some (false, a_iload 1 23) ∧ tget (tab_8_records X) 23 = some (false, a_aload 0 24) ∧ tget (tab_8_records X) 24 = some (false, a_gr 8 1 27) ∧ tget (tab_8_records X) 27 = some (false, a_iload 1 28) ∧ tget (tab_8_records X) 28 = some (false, a_const 329 31) ∧ tget (tab_8_records X) 31 = some (false, a_add 32) ∧ tget (tab_8_records X) 32 = some (false, a_ald false 33) ∧ tget (tab_8_records X) 33 = some (false, a_ast false 34) ∧ tget (tab_8_records X) 34 = some (false, a_iinc 1 1 37) ∧ tget (tab_8_records X) 37 = some (false, a_goto 11) ∧ tget (tab_8_records X) 40 = some (false, a_aload 0 41) ∧ tget (tab_8_records X) 41 = some (false, a_dup 42) ∧ tget (tab_8_records X) 42 = some (false, a_gi 8 2 2 45) ∧ tget (tab_8_records X) 45 = some (false, a_const 1 46) ∧ tget (tab_8_records X) 46 = some (false, a_sub 47) ∧ tget (tab_8_records X) 47 = some (false, a_pi 8 2 2 false 50) ∧ tget (tab_8_records X) 50 = some (false, a_const 0 51) ∧ tget (tab_8_records X) 51 = some (false, a_istore 1 52) ∧ tget (tab_8_records X) 52 = some (true, a_iload 1 53) ∧ tget (tab_8_records X) 53 = some (false, a_const 329 56) ∧ tget (tab_8_records X) 56 = some (false, a_icmp 3 86 59) ∧ tget (tab_8_records X) 59 = some (false, a_aload 0 60) ∧ tget (tab_8_records X) 60 = some (false, a_gr 8 1 63) ∧ tget (tab_8_records X) 63 = some (false, a_const 329 66) ∧ tget (tab_8_records X) 66 = some (false, a_aload 0 67) ∧ tget (tab_8_records X) 67 = some (false, a_gi 8 2 2 70) ∧ tget (tab_8_records X) 70 = some (false, a_mul 71) ∧ tget (tab_8_records X) 71 = some (false, a_iload 1 72) ∧ tget (tab_8_records X) 72 = some (false, a_add 73) ∧ tget (tab_8_records X) 73 = some (false, a_aload 0 74) ∧ tget (tab_8_records X) 74 = some (false, a_gr 8 0 77) ∧ tget (tab_8_records X) 77 = some (false, a_iload 1 78) ∧ tget (tab_8_records X) 78 = some (false, a_ald false 79) ∧ tget (tab_8_records X) 79 = some (false, a_ast false 80) ∧ tget (tab_8_records X) 80 = some (false, a_iinc 1 1 83) ∧ tget (tab_8_records X) 83 = some (false, a_goto 52) ∧ tget (tab_8_records X) 86 = some (false, a_aload 0 87) ∧ tget (tab_8_records X) 87 = some (false, a_dup 88) ∧ tget (tab_8_records X) 88 = some (false, a_gi 8 2 2 91) ∧ tget (tab_8_records X) 91 = some (false, a_const 1 92) ∧ tget (tab_8_records X) 92 = some (false, a_add 93) ∧ tget (tab_8_records X) 93 = some (false, a_pi 8 2 2 false 96) ∧ tget (tab_8_records X) 96 = some (false, a_ret M_8_records) := ⟨rfl, rfl, rfl, rfl, rfl, rfl, rfl, rfl, rfl, rfl, rfl, rfl, rfl, rfl, rfl, rfl, rfl, rfl, rfl, rfl, rfl, rfl, rfl, rfl, rfl, rfl, rfl, rfl, rfl, rfl, rfl, rfl, rfl, rfl, rfl, rfl, rfl, rfl, rfl, rfl, rfl, rfl, rfl, rfl, rfl, rfl, rfl, rfl, rfl, rfl, rfl, rfl, rfl, rfl⟩
theorem tok_8_records (X : XT) : TabOK X M_8_records (tab_8_records X) := by
  unfold tab_8_records
  refine tok_cons (snd_aload_n dX8_records_0 rfl rfl) ?_
  refine tok_cons (snd_gi (C := RX8) (T := TX8) (N := 21) dX8_records_1 rfl (by decide) rfl wf8_77 inX8 rfl rfl) ?_
  refine tok_cons (snd_bipush dX8_records_4 (by decide) (inr_d rfl) rfl) ?_
  refine tok_cons (snd_icmp_ne dX8_records_6 (by decide) rfl) ?_
  refine tok_cons (snd_iconst dX8_records_9 rfl (inr_d rfl) rfl) ?_
  refine tok_cons (snd_istore_n dX8_records_10 rfl rfl (by decide)) ?_
  refine tok_cons (snd_iload_n dX8_records_11 rfl rfl) ?_
  refine tok_cons (snd_sipush dX8_records_12 (by decide) (inr_d rfl) rfl) ?_
  refine tok_cons (snd_icmp_ge dX8_records_15 (by decide) rfl) ?_
  refine tok_cons (snd_aload_n dX8_records_18 rfl rfl) ?_
  refine tok_cons (snd_gr (C := RX8) (T := TX8) (N := 21) dX8_records_19 rfl (by decide) rfl wf8_13 inX8 rfl) ?_
  refine tok_cons (snd_iload_n dX8_records_22 rfl rfl) ?_
  refine tok_cons (snd_aload_n dX8_records_23 rfl rfl) ?_
  refine tok_cons (snd_gr (C := RX8) (T := TX8) (N := 21) dX8_records_24 rfl (by decide) rfl wf8_13 inX8 rfl) ?_
  refine tok_cons (snd_iload_n dX8_records_27 rfl rfl) ?_
  refine tok_cons (snd_sipush dX8_records_28 (by decide) (inr_d rfl) rfl) ?_
  refine tok_cons (snd_add dX8_records_31 rfl) ?_
  refine tok_cons (snd_iald dX8_records_32 rfl) ?_
  refine tok_cons (snd_iast dX8_records_33 rfl) ?_
  refine tok_cons (snd_iinc dX8_records_34 rfl rfl (by decide)) ?_
  refine tok_cons (snd_goto dX8_records_37 (by decide)) ?_
  refine tok_cons (snd_aload_n dX8_records_40 rfl rfl) ?_
  refine tok_cons (snd_dup dX8_records_41 rfl) ?_
  refine tok_cons (snd_gi (C := RX8) (T := TX8) (N := 21) dX8_records_42 rfl (by decide) rfl wf8_77 inX8 rfl rfl) ?_
  refine tok_cons (snd_iconst dX8_records_45 rfl (inr_d rfl) rfl) ?_
  refine tok_cons (snd_sub dX8_records_46 rfl) ?_
  refine tok_cons (snd_pi (C := RX8) (T := TX8) (N := 21) (ty0 := tyX8) dX8_records_47 rfl (by decide) rfl wf8_77 inX8 tyX8_ok nmX8 (by decide +kernel) rfl rfl) ?_
  refine tok_cons (snd_iconst dX8_records_50 rfl (inr_d rfl) rfl) ?_
  refine tok_cons (snd_istore_n dX8_records_51 rfl rfl (by decide)) ?_
  refine tok_cons (snd_iload_n dX8_records_52 rfl rfl) ?_
  refine tok_cons (snd_sipush dX8_records_53 (by decide) (inr_d rfl) rfl) ?_
  refine tok_cons (snd_icmp_ge dX8_records_56 (by decide) rfl) ?_
  refine tok_cons (snd_aload_n dX8_records_59 rfl rfl) ?_
  refine tok_cons (snd_gr (C := RX8) (T := TX8) (N := 21) dX8_records_60 rfl (by decide) rfl wf8_13 inX8 rfl) ?_
  refine tok_cons (snd_sipush dX8_records_63 (by decide) (inr_d rfl) rfl) ?_
  refine tok_cons (snd_aload_n dX8_records_66 rfl rfl) ?_
  refine tok_cons (snd_gi (C := RX8) (T := TX8) (N := 21) dX8_records_67 rfl (by decide) rfl wf8_77 inX8 rfl rfl) ?_
  refine tok_cons (snd_mul dX8_records_70 rfl) ?_
  refine tok_cons (snd_iload_n dX8_records_71 rfl rfl) ?_
  refine tok_cons (snd_add dX8_records_72 rfl) ?_
  refine tok_cons (snd_aload_n dX8_records_73 rfl rfl) ?_
  refine tok_cons (snd_gr (C := RX8) (T := TX8) (N := 21) dX8_records_74 rfl (by decide) rfl wf8_7 inX8 rfl) ?_
  refine tok_cons (snd_iload_n dX8_records_77 rfl rfl) ?_
  refine tok_cons (snd_iald dX8_records_78 rfl) ?_
  refine tok_cons (snd_iast dX8_records_79 rfl) ?_
  refine tok_cons (snd_iinc dX8_records_80 rfl rfl (by decide)) ?_
  refine tok_cons (snd_goto dX8_records_83 (by decide)) ?_
  refine tok_cons (snd_aload_n dX8_records_86 rfl rfl) ?_
  refine tok_cons (snd_dup dX8_records_87 rfl) ?_
  refine tok_cons (snd_gi (C := RX8) (T := TX8) (N := 21) dX8_records_88 rfl (by decide) rfl wf8_77 inX8 rfl rfl) ?_
  refine tok_cons (snd_iconst dX8_records_91 rfl (inr_d rfl) rfl) ?_
  refine tok_cons (snd_add dX8_records_92 rfl) ?_
  refine tok_cons (snd_pi (C := RX8) (T := TX8) (N := 21) (ty0 := tyX8) dX8_records_93 rfl (by decide) rfl wf8_77 inX8 tyX8_ok nmX8 (by decide +kernel) rfl rfl) ?_
  refine tok_cons (snd_ret dX8_records_96 rfl) ?_
  exact tok_nil
def tab_8_dropsNote (X : XT) : Tab := [(0, false, a_aload 0 1), (1, false, a_gr 8 0 4), (4, false, a_const 87 6), (6, false, a_iload 1 7), (7, false, a_add 8), (8, false, a_dup2 9), (9, false, a_ald false 10), (10, false, a_const 1 11), (11, false, a_sub 12), (12, false, a_ast false 13), (13, false, a_const 40 15), (15, false, a_iload 1 16), (16, false, a_mul 17), (17, false, a_iload 2 18), (18, false, a_add 19), (19, false, a_istore 3 20), (20, true, a_iload 3 21), (21, false, a_const 40 23), (23, false, a_iload 1 24), (24, false, a_mul 25), (25, false, a_aload 0 26), (26, false, a_gr 8 0 29), (29, false, a_const 87 31), (31, false, a_iload 1 32), (32, false, a_add 33), (33, false, a_ald false 34), (34, false, a_add 35), (35, false, a_icmp 3 108 38), (38, false, a_aload 0 39), (39, false, a_gr 8 0 42), (42, false, a_const 89 44), (44, false, a_iload 3 45), (45, false, a_add 46), (46, false, a_aload 0 47), (47, false, a_gr 8 0 50), (50, false, a_const 89 52), (52, false, a_iload 3 53), (53, false, a_add 54), (54, false, a_const 1 55), (55, false, a_add 56), (56, false, a_ald false 57), (57, false, a_ast false 58), (58, false, a_aload 0 59), (59, false, a_gr 8 0 62), (62, false, a_const 169 65), (65, false, a_iload 3 66), (66, false, a_add 67), (67, false, a_aload 0 68), (68, false, a_gr 8 0 71), (71, false, a_const 169 74), (74, false, a_iload 3 75), (75, false, a_add 76), (76, false, a_const 1 77), (77, false, a_add 78), (78, false, a_ald false 79), (79, false, a_ast false 80), (80, false, a_aload 0 81), (81, false, a_gr 8 0 84), (84, false, a_const 249 87), (87, false, a_iload 3 88), (88, false, a_add 89), (89, false, a_aload 0 90), (90, false, a_gr 8 0 93), (93, false, a_const 249 96), (96, false, a_iload 3 97), (97, false, a_add 98), (98, false, a_const 1 99), (99, false, a_add 100), (100, false, a_ald false 101), (101, false, a_ast false 102), (102, false, a_iinc 3 1 105), (105, false, a_goto 20), (108, false, a_ret M_8_dropsNote)]
set_option maxRecDepth 20000 in
theorem t_8_dropsNote (X : XT) : tget (tab_8_dropsNote X) 0 = some (false, a_aload 0 1) ∧ tget (tab_8_dropsNote X) 1 = some (false, a_gr 8 0 4) ∧ tget (tab_8_dropsNote X) 4 = some (false, a_const 87 6) ∧ tget (tab_8_dropsNote X) 6 = some (false, a_iload 1 7) ∧ tget (tab_8_dropsNote X) 7 = some (false, a_add 8) ∧ tget (tab_8_dropsNote X) 8 = some (false, a_dup2 9) ∧ tget (tab_8_dropsNote X) 9 = some (false, a_ald false 10) ∧ tget (tab_8_dropsNote X) 10 = some (false, a_const 1 11) ∧ tget (tab_8_dropsNote X) 11 = some (false, a_sub 12) ∧ tget (tab_8_dropsNote X) 12 = some (false, a_ast false 13) ∧ tget (tab_8_dropsNote X) 13 = some (false, a_const 40 15) ∧ tget (tab_8_dropsNote X) 15 = some (false, a_iload 1 16) ∧ tget (tab_8_dropsNote X) 16 = some (false, a_mul 17) ∧ tget (tab_8_dropsNote X) 17 = some (false, a_iload 2 18) ∧ tget (tab_8_dropsNote X) 18 = some (false, a_add 19) ∧ tget (tab_8_dropsNote X) 19 = some (false, a_istore 3 20) ∧ tget (tab_8_dropsNote X) 20 = some (true, a_iload 3 21) ∧ tget (tab_8_dropsNote X) 21 = some (false, a_const 40 23) ∧ tget (tab_8_dropsNote X) 23 = some (false, a_iload 1 24) ∧ tget (tab_8_dropsNote X) 24 = some (false, a_mul 25) ∧ tget (tab_8_dropsNote X) 25 = some (false, a_aload 0 26) ∧ tget (tab_8_dropsNote X) 26 = some (false, a_gr 8 0 29) ∧ tget (tab_8_dropsNote X) 29 = some (false, a_const 87 31) ∧ tget (tab_8_dropsNote X) 31 = some (false, a_iload 1 32) ∧ tget (tab_8_dropsNote X) 32 = some (false, a_add 33) ∧ tget (tab_8_dropsNote X) 33 = some (false, a_ald false 34) ∧ tget (tab_8_dropsNote X) 34 = some (false, a_add 35) ∧ tget (tab_8_dropsNote X) 35 = some (false, a_icmp 3 108 38) ∧ tget (tab_8_dropsNote X) 38 = some (false, a_aload 0 39) ∧ tget (tab_8_dropsNote X) 39 = some (false, a_gr 8 0 42) ∧ tget (tab_8_dropsNote X) 42 = some (false, a_const 89 44) ∧ tget (tab_8_dropsNote X) 44 = some (false, a_iload 3 45) ∧ tget (tab_8_dropsNote X) 45 = some (false, a_add 46) ∧ tget (tab_8_dropsNote X) 46 = some (false, a_aload 0 47) ∧ tget (tab_8_dropsNote X) 47 = some (false, a_gr 8 0 50) ∧ tget (tab_8_dropsNote X) 50 = some (false, a_const 89 52) ∧ tget (tab_8_dropsNote X) 52 = some (false, a_iload 3 53) ∧ tget (tab_8_dropsNote X) 53 = some (false, a_add 54) ∧ tget (tab_8_dropsNote X) 54 = some (false, a_const 1 55) ∧ tget (tab_8_dropsNote X) 55 = some (false, a_add 56) ∧ tget (tab_8_dropsNote X) 56 = some (false, a_ald false 57) ∧ tget (tab_8_dropsNote X) 57 = some (false, a_ast false 58) ∧ tget (tab_8_dropsNote X) 58 = some (false, a_aload 0 59) ∧ tget (tab_8_dropsNote X) 59 = some (false, a_gr 8 0 62) ∧ tget (tab_8_dropsNote X) 62 = some (false, a_const 169 65) ∧ tget (tab_8_dropsNote X) 65 = some (false, a_iload 3 66) ∧ tget (tab_8_dropsNote X) 66 = some (false, a_add 67) ∧ tget (tab_8_dropsNote X) 67 = some (false, a_aload 0 68) ∧ tget (tab_8_dropsNote X) 68 = some (false, a_gr 8 0 71) ∧ tget (tab_8_dropsNote X) 71 = some (false, a_const 169 74) ∧ tget (tab_8_dropsNote X) 74 = some (false, a_iload 3 75) ∧ tget (tab_8_dropsNote X) 75 = some (false, a_add 76) ∧ tget (tab_8_dropsNote X) 76 = some (false, a_const 1 77) ∧ tget (tab_8_dropsNote X) 77 = some (false, a_add 78) ∧ tget (tab_8_dropsNote X) 78 = some (false, a_ald false 79) ∧ tget (tab_8_dropsNote X) 79 = some (false, a_ast false 80) ∧ tget (tab_8_dropsNote X) 80 = some (false, a_aload 0 81) ∧ tget (tab_8_dropsNote X) 81 = some (false, a_gr 8 0 84) ∧ tget (tab_8_dropsNote X) 84 = some (false, a_const 249 87) ∧ tget (tab_8_dropsNote X) 87 = some (false, a_iload 3 88) ∧ tget (tab_8_dropsNote X) 88 = some (false, a_add 89) ∧ tget (tab_8_dropsNote X) 89 = some (false, a_aload 0 90) ∧ tget (tab_8_dropsNote X) 90 = some (false, a_gr 8 0 93) ∧ tget (tab_8_dropsNote X) 93 = some (false, a_const 249 96) ∧ tget (tab_8_dropsNote X) 96 = some (false, a_iload 3 97) ∧ tget (tab_8_dropsNote X) 97 = some (false, a_add 98) ∧ tget (tab_8_dropsNote X) 98 = some (false, a_const 1 99) ∧ tget (tab_8_dropsNote X) 99 = some (false, a_add 100) ∧ tget (tab_8_dropsNote X) 100 = some (false, a_ald false 101) ∧ tget (tab_8_dropsNote X) 101 = some (false, a_ast false 102) ∧ tget (tab_8_dropsNote X) 102 = some (false, a_iinc 3 1 105) ∧ tget (tab_8_dropsNote X) 105 = some (false, a_goto 20) ∧ tget (tab_8_dropsNote X) 108 = some (false, a_ret M_8_dropsNote) := ⟨rfl, rfl, rfl, rfl, rfl, rfl, rfl, rfl, rfl, rfl, rfl, rfl, rfl, rfl, rfl, rfl, rfl, rfl, rfl, rfl, rfl, rfl, rfl, rfl, rfl, rfl, rfl, rfl, rfl, rfl, rfl, rfl, rfl, rfl, rfl, rfl, rfl, rfl, rfl, rfl, rfl, rfl, rfl, rfl, rfl, rfl, rfl, rfl, rfl, rfl, rfl, rfl, rfl, rfl, rfl, rfl, rfl, rfl, rfl, rfl, rfl, rfl, rfl, rfl, rfl, rfl, rfl, rfl, rfl, rfl, rfl, rfl, rfl⟩
theorem tok_8_dropsNote (X : XT) : TabOK X M_8_dropsNote (tab_8_dropsNote X) := by
  unfold tab_8_dropsNote
  refine tok_cons (snd_aload_n dX8_dropsNote_0 rfl rfl) ?_
  refine tok_cons (snd_gr (C := RX8) (T := TX8) (N := 21) dX8_dropsNote_1 rfl (by decide) rfl wf8_7 inX8 rfl) ?_
  refine tok_cons (snd_bipush dX8_dropsNote_4 (by decide) (inr_d rfl) rfl) ?_
  refine tok_cons (snd_iload_n dX8_dropsNote_6 rfl rfl) ?_
  refine tok_cons (snd_add dX8_dropsNote_7 rfl) ?_
  refine tok_cons (snd_dup2 dX8_dropsNote_8 rfl) ?_
  refine tok_cons (snd_iald dX8_dropsNote_9 rfl) ?_
  refine tok_cons (snd_iconst dX8_dropsNote_10 rfl (inr_d rfl) rfl) ?_
  refine tok_cons (snd_sub dX8_dropsNote_11 rfl) ?_
  refine tok_cons (snd_iast dX8_dropsNote_12 rfl) ?_
  refine tok_cons (snd_bipush dX8_dropsNote_13 (by decide) (inr_d rfl) rfl) ?_
  refine tok_cons (snd_iload_n dX8_dropsNote_15 rfl rfl) ?_
  refine tok_cons (snd_mul dX8_dropsNote_16 rfl) ?_
  refine tok_cons (snd_iload_n dX8_dropsNote_17 rfl rfl) ?_
  refine tok_cons (snd_add dX8_dropsNote_18 rfl) ?_
  refine tok_cons (snd_istore_n dX8_dropsNote_19 rfl rfl (by decide)) ?_
  refine tok_cons (snd_iload_n dX8_dropsNote_20 rfl rfl) ?_
  refine tok_cons (snd_bipush dX8_dropsNote_21 (by decide) (inr_d rfl) rfl) ?_
  refine tok_cons (snd_iload_n dX8_dropsNote_23 rfl rfl) ?_
  refine tok_cons (snd_mul dX8_dropsNote_24 rfl) ?_
  refine tok_cons (snd_aload_n dX8_dropsNote_25 rfl rfl) ?_
  refine tok_cons (snd_gr (C := RX8) (T := TX8) (N := 21) dX8_dropsNote_26 rfl (by decide) rfl wf8_7 inX8 rfl) ?_
  refine tok_cons (snd_bipush dX8_dropsNote_29 (by decide) (inr_d rfl) rfl) ?_
  refine tok_cons (snd_iload_n dX8_dropsNote_31 rfl rfl) ?_
  refine tok_cons (snd_add dX8_dropsNote_32 rfl) ?_
  refine tok_cons (snd_iald dX8_dropsNote_33 rfl) ?_
  refine tok_cons (snd_add dX8_dropsNote_34 rfl) ?_
  refine tok_cons (snd_icmp_ge dX8_dropsNote_35 (by decide) rfl) ?_
  refine tok_cons (snd_aload_n dX8_dropsNote_38 rfl rfl) ?_
  refine tok_cons (snd_gr (C := RX8) (T := TX8) (N := 21) dX8_dropsNote_39 rfl (by decide) rfl wf8_7 inX8 rfl) ?_
  refine tok_cons (snd_bipush dX8_dropsNote_42 (by decide) (inr_d rfl) rfl) ?_
  refine tok_cons (snd_iload_n dX8_dropsNote_44 rfl rfl) ?_
  refine tok_cons (snd_add dX8_dropsNote_45 rfl) ?_
  refine tok_cons (snd_aload_n dX8_dropsNote_46 rfl rfl) ?_
  refine tok_cons (snd_gr (C := RX8) (T := TX8) (N := 21) dX8_dropsNote_47 rfl (by decide) rfl wf8_7 inX8 rfl) ?_
  refine tok_cons (snd_bipush dX8_dropsNote_50 (by decide) (inr_d rfl) rfl) ?_
  refine tok_cons (snd_iload_n dX8_dropsNote_52 rfl rfl) ?_
  refine tok_cons (snd_add dX8_dropsNote_53 rfl) ?_
  refine tok_cons (snd_iconst dX8_dropsNote_54 rfl (inr_d rfl) rfl) ?_
  refine tok_cons (snd_add dX8_dropsNote_55 rfl) ?_
  refine tok_cons (snd_iald dX8_dropsNote_56 rfl) ?_
  refine tok_cons (snd_iast dX8_dropsNote_57 rfl) ?_
  refine tok_cons (snd_aload_n dX8_dropsNote_58 rfl rfl) ?_
  refine tok_cons (snd_gr (C := RX8) (T := TX8) (N := 21) dX8_dropsNote_59 rfl (by decide) rfl wf8_7 inX8 rfl) ?_
  refine tok_cons (snd_sipush dX8_dropsNote_62 (by decide) (inr_d rfl) rfl) ?_
  refine tok_cons (snd_iload_n dX8_dropsNote_65 rfl rfl) ?_
  refine tok_cons (snd_add dX8_dropsNote_66 rfl) ?_
  refine tok_cons (snd_aload_n dX8_dropsNote_67 rfl rfl) ?_
  refine tok_cons (snd_gr (C := RX8) (T := TX8) (N := 21) dX8_dropsNote_68 rfl (by decide) rfl wf8_7 inX8 rfl) ?_
  refine tok_cons (snd_sipush dX8_dropsNote_71 (by decide) (inr_d rfl) rfl) ?_
  refine tok_cons (snd_iload_n dX8_dropsNote_74 rfl rfl) ?_
  refine tok_cons (snd_add dX8_dropsNote_75 rfl) ?_
  refine tok_cons (snd_iconst dX8_dropsNote_76 rfl (inr_d rfl) rfl) ?_
  refine tok_cons (snd_add dX8_dropsNote_77 rfl) ?_
  refine tok_cons (snd_iald dX8_dropsNote_78 rfl) ?_
  refine tok_cons (snd_iast dX8_dropsNote_79 rfl) ?_
  refine tok_cons (snd_aload_n dX8_dropsNote_80 rfl rfl) ?_
  refine tok_cons (snd_gr (C := RX8) (T := TX8) (N := 21) dX8_dropsNote_81 rfl (by decide) rfl wf8_7 inX8 rfl) ?_
  refine tok_cons (snd_sipush dX8_dropsNote_84 (by decide) (inr_d rfl) rfl) ?_
  refine tok_cons (snd_iload_n dX8_dropsNote_87 rfl rfl) ?_
  refine tok_cons (snd_add dX8_dropsNote_88 rfl) ?_
  refine tok_cons (snd_aload_n dX8_dropsNote_89 rfl rfl) ?_
  refine tok_cons (snd_gr (C := RX8) (T := TX8) (N := 21) dX8_dropsNote_90 rfl (by decide) rfl wf8_7 inX8 rfl) ?_
  refine tok_cons (snd_sipush dX8_dropsNote_93 (by decide) (inr_d rfl) rfl) ?_
  refine tok_cons (snd_iload_n dX8_dropsNote_96 rfl rfl) ?_
  refine tok_cons (snd_add dX8_dropsNote_97 rfl) ?_
  refine tok_cons (snd_iconst dX8_dropsNote_98 rfl (inr_d rfl) rfl) ?_
  refine tok_cons (snd_add dX8_dropsNote_99 rfl) ?_
  refine tok_cons (snd_iald dX8_dropsNote_100 rfl) ?_
  refine tok_cons (snd_iast dX8_dropsNote_101 rfl) ?_
  refine tok_cons (snd_iinc dX8_dropsNote_102 rfl rfl (by decide)) ?_
  refine tok_cons (snd_goto dX8_dropsNote_105 (by decide)) ?_
  refine tok_cons (snd_ret dX8_dropsNote_108 rfl) ?_
  exact tok_nil
def tab_8_notesAhead (X : XT) : Tab := [(0, false, a_const 0 1), (1, false, a_istore 4 3), (3, false, a_const 0 4), (4, false, a_istore 5 6), (6, true, a_iload 5 8), (8, false, a_aload 0 9), (9, false, a_gr 8 0 12), (12, false, a_const 87 14), (14, false, a_iload 1 15), (15, false, a_add 16), (16, false, a_ald false 17), (17, false, a_icmp 3 85 20), (20, false, a_aload 0 21), (21, false, a_gr 8 0 24), (24, false, a_const 89 26), (26, false, a_const 40 28), (28, false, a_iload 1 29), (29, false, a_mul 30), (30, false, a_add 31), (31, false, a_iload 5 33), (33, false, a_add 34), (34, false, a_ald false 35), (35, false, a_istore 6 37), (37, false, a_iload 4 39), (39, false, a_iload 6 41), (41, false, a_iload 2 42), (42, false, a_icmp 2 71 45), (45, false, a_iload 6 47), (47, false, a_iload 2 48), (48, false, a_icmp 1 75 51), (51, false, a_aload 0 52), (52, false, a_gr 8 0 55), (55, false, a_const 169 58), (58, false, a_const 40 60), (60, false, a_iload 1 61), (61, false, a_mul 62), (62, false, a_add 63), (63, false, a_iload 5 65), (65, false, a_add 66), (66, false, a_ald false 67), (67, false, a_iload 3 68), (68, false, a_icmp 3 75 71), (71, false, a_const 1 72), (72, false, a_goto 76), (75, false, a_const 0 76), (76, false, a_add 77), (77, false, a_istore 4 79), (79, false, a_iinc 5 1 82), (82, false, a_goto 6), (85, false, a_iload 4 87), (87, false, a_iret M_8_notesAhead)]
set_option maxRecDepth 20000 in
theorem t_8_notesAhead (X : XT) : tget (tab_8_notesAhead X) 0 = some (false, a_const 0 1) ∧ tget (tab_8_notesAhead X) 1 = some (false, a_istore 4 3) ∧ tget (tab_8_notesAhead X) 3 = some (false, a_const 0 4) ∧ tget (tab_8_notesAhead X) 4 = some (false, a_istore 5 6) ∧ tget (tab_8_notesAhead X) 6 = some (true, a_iload 5 8) ∧ tget (tab_8_notesAhead X) 8 = some (false, a_aload 0 9) ∧ tget (tab_8_notesAhead X) 9 = some (false, a_gr 8 0 12) ∧ tget (tab_8_notesAhead X) 12 = some (false, a_const 87 14) ∧ tget (tab_8_notesAhead X) 14 = some (false, a_iload 1 15) ∧ tget (tab_8_notesAhead X) 15 = some (false, a_add 16) ∧ tget (tab_8_notesAhead X) 16 = some (false, a_ald false 17) ∧ tget (tab_8_notesAhead X) 17 = some (false, a_icmp 3 85 20) ∧ tget (tab_8_notesAhead X) 20 = some (false, a_aload 0 21) ∧ tget (tab_8_notesAhead X) 21 = some (false, a_gr 8 0 24) ∧ tget (tab_8_notesAhead X) 24 = some (false, a_const 89 26) ∧ tget (tab_8_notesAhead X) 26 = some (false, a_const 40 28) ∧ tget (tab_8_notesAhead X) 28 = some (false, a_iload 1 29) ∧ tget (tab_8_notesAhead X) 29 = some (false, a_mul 30) ∧ tget (tab_8_notesAhead X) 30 = some (false, a_add 31) ∧ tget (tab_8_notesAhead X) 31 = some (false, a_iload 5 33) ∧ tget (tab_8_notesAhead X) 33 = some (false, a_add 34) ∧ tget (tab_8_notesAhead X) 34 = some (false, a_ald false 35) ∧ tget (tab_8_notesAhead X) 35 = some (false, a_istore 6 37) ∧ tget (tab_8_notesAhead X) 37 = some (false, a_iload 4 39) ∧ tget (tab_8_notesAhead X) 39 = some (false, a_iload 6 41) ∧ tget (tab_8_notesAhead X) 41 = some (false, a_iload 2 42) ∧ tget (tab_8_notesAhead X) 42 = some (false, a_icmp 2 71 45) ∧ tget (tab_8_notesAhead X) 45 = some (false, a_iload 6 47) ∧ tget (tab_8_notesAhead X) 47 = some (false, a_iload 2 48) ∧ tget (tab_8_notesAhead X) 48 = some (false, a_icmp 1 75 51) ∧ tget (tab_8_notesAhead X) 51 = some (false, a_aload 0 52) ∧ tget (tab_8_notesAhead X) 52 = some (false, a_gr 8 0 55) ∧ tget (tab_8_notesAhead X) 55 = some (false, a_const 169 58) ∧ tget (tab_8_notesAhead X) 58 = some (false, a_const 40 60) ∧ tget (tab_8_notesAhead X) 60 = some (false, a_iload 1 61) ∧ tget (tab_8_notesAhead X) 61 = some (false, a_mul 62) ∧ tget (tab_8_notesAhead X) 62 = some (false, a_add 63) ∧ tget (tab_8_notesAhead X) 63 = some (false, a_iload 5 65) ∧ tget (tab_8_notesAhead X) 65 = some (false, a_add 66) ∧ tget (tab_8_notesAhead X) 66 = some (false, a_ald false 67) ∧ tget (tab_8_notesAhead X) 67 = some (false, a_iload 3 68) ∧ tget (tab_8_notesAhead X) 68 = some (false, a_icmp 3 75 71) ∧ tget (tab_8_notesAhead X) 71 = some (false, a_const 1 72) ∧ tget (tab_8_notesAhead X) 72 = some (false, a_goto 76) ∧ tget (tab_8_notesAhead X) 75 = some (false, a_const 0 76) ∧ tget (tab_8_notesAhead X) 76 = some (false, a_add 77) ∧ tget (tab_8_notesAhead X) 77 = some (false, a_istore 4 79) ∧ tget (tab_8_notesAhead X) 79 = some (false, a_iinc 5 1 82) ∧ tget (tab_8_notesAhead X) 82 = some (false, a_goto 6) ∧ tget (tab_8_notesAhead X) 85 = some (false, a_iload 4 87) ∧ tget (tab_8_notesAhead X) 87 = some (false, a_iret M_8_notesAhead) := ⟨rfl, rfl, rfl, rfl, rfl, rfl, rfl, rfl, rfl, rfl, rfl, rfl, rfl, rfl, rfl, rfl, rfl, rfl, rfl, rfl, rfl, rfl, rfl, rfl, rfl, rfl, rfl, rfl, rfl, rfl, rfl, rfl, rfl, rfl, rfl, rfl, rfl, rfl, rfl, rfl, rfl, rfl, rfl, rfl, rfl, rfl, rfl, rfl, rfl, rfl, rfl⟩
theorem tok_8_notesAhead (X : XT) : TabOK X M_8_notesAhead (tab_8_notesAhead X) := by
  unfold tab_8_notesAhead
  refine tok_cons (snd_iconst dX8_notesAhead_0 rfl (inr_d rfl) rfl) ?_
  refine tok_cons (snd_istore dX8_notesAhead_1 rfl (by decide)) ?_
  refine tok_cons (snd_iconst dX8_notesAhead_3 rfl (inr_d rfl) rfl) ?_
  refine tok_cons (snd_istore dX8_notesAhead_4 rfl (by decide)) ?_
  refine tok_cons (snd_iload dX8_notesAhead_6 rfl) ?_
  refine tok_cons (snd_aload_n dX8_notesAhead_8 rfl rfl) ?_
  refine tok_cons (snd_gr (C := RX8) (T := TX8) (N := 21) dX8_notesAhead_9 rfl (by decide) rfl wf8_7 inX8 rfl) ?_
  refine tok_cons (snd_bipush dX8_notesAhead_12 (by decide) (inr_d rfl) rfl) ?_
  refine tok_cons (snd_iload_n dX8_notesAhead_14 rfl rfl) ?_
  refine tok_cons (snd_add dX8_notesAhead_15 rfl) ?_
  refine tok_cons (snd_iald dX8_notesAhead_16 rfl) ?_
  refine tok_cons (snd_icmp_ge dX8_notesAhead_17 (by decide) rfl) ?_
  refine tok_cons (snd_aload_n dX8_notesAhead_20 rfl rfl) ?_
  refine tok_cons (snd_gr (C := RX8) (T := TX8) (N := 21) dX8_notesAhead_21 rfl (by decide) rfl wf8_7 inX8 rfl) ?_
  refine tok_cons (snd_bipush dX8_notesAhead_24 (by decide) (inr_d rfl) rfl) ?_
  refine tok_cons (snd_bipush dX8_notesAhead_26 (by decide) (inr_d rfl) rfl) ?_
  refine tok_cons (snd_iload_n dX8_notesAhead_28 rfl rfl) ?_
  refine tok_cons (snd_mul dX8_notesAhead_29 rfl) ?_
  refine tok_cons (snd_add dX8_notesAhead_30 rfl) ?_
  refine tok_cons (snd_iload dX8_notesAhead_31 rfl) ?_
  refine tok_cons (snd_add dX8_notesAhead_33 rfl) ?_
  refine tok_cons (snd_iald dX8_notesAhead_34 rfl) ?_
  refine tok_cons (snd_istore dX8_notesAhead_35 rfl (by decide)) ?_
  refine tok_cons (snd_iload dX8_notesAhead_37 rfl) ?_
  refine tok_cons (snd_iload dX8_notesAhead_39 rfl) ?_
  refine tok_cons (snd_iload_n dX8_notesAhead_41 rfl rfl) ?_
  refine tok_cons (snd_icmp_lt dX8_notesAhead_42 (by decide) rfl) ?_
  refine tok_cons (snd_iload dX8_notesAhead_45 rfl) ?_
  refine tok_cons (snd_iload_n dX8_notesAhead_47 rfl rfl) ?_
  refine tok_cons (snd_icmp_ne dX8_notesAhead_48 (by decide) rfl) ?_
  refine tok_cons (snd_aload_n dX8_notesAhead_51 rfl rfl) ?_
  refine tok_cons (snd_gr (C := RX8) (T := TX8) (N := 21) dX8_notesAhead_52 rfl (by decide) rfl wf8_7 inX8 rfl) ?_
  refine tok_cons (snd_sipush dX8_notesAhead_55 (by decide) (inr_d rfl) rfl) ?_
  refine tok_cons (snd_bipush dX8_notesAhead_58 (by decide) (inr_d rfl) rfl) ?_
  refine tok_cons (snd_iload_n dX8_notesAhead_60 rfl rfl) ?_
  refine tok_cons (snd_mul dX8_notesAhead_61 rfl) ?_
  refine tok_cons (snd_add dX8_notesAhead_62 rfl) ?_
  refine tok_cons (snd_iload dX8_notesAhead_63 rfl) ?_
  refine tok_cons (snd_add dX8_notesAhead_65 rfl) ?_
  refine tok_cons (snd_iald dX8_notesAhead_66 rfl) ?_
  refine tok_cons (snd_iload_n dX8_notesAhead_67 rfl rfl) ?_
  refine tok_cons (snd_icmp_ge dX8_notesAhead_68 (by decide) rfl) ?_
  refine tok_cons (snd_iconst dX8_notesAhead_71 rfl (inr_d rfl) rfl) ?_
  refine tok_cons (snd_goto dX8_notesAhead_72 (by decide)) ?_
  refine tok_cons (snd_iconst dX8_notesAhead_75 rfl (inr_d rfl) rfl) ?_
  refine tok_cons (snd_add dX8_notesAhead_76 rfl) ?_
  refine tok_cons (snd_istore dX8_notesAhead_77 rfl (by decide)) ?_
  refine tok_cons (snd_iinc dX8_notesAhead_79 rfl rfl (by decide)) ?_
  refine tok_cons (snd_goto dX8_notesAhead_82 (by decide)) ?_
  refine tok_cons (snd_iload dX8_notesAhead_85 rfl) ?_
  refine tok_cons (snd_iret dX8_notesAhead_87 rfl) ?_
  exact tok_nil
def tab_8_undo (X : XT) : Tab := [(0, false, a_aload 0 1), (1, false, a_gi 8 2 2 4), (4, false, a_if 1 10 7), (7, false, a_const (-2) 9), (9, false, a_iret M_8_undo), (10, false, a_aload 0 11), (11, false, a_dup 12), (12, false, a_gi 8 2 2 15), (15, false, a_const 1 16), (16, false, a_sub 17), (17, false, a_pi 8 2 2 false 20), (20, false, a_const 0 21), (21, false, a_istore 1 22), (22, true, a_iload 1 23), (23, false, a_const 329 26), (26, false, a_icmp 3 56 29), (29, false, a_aload 0 30), (30, false, a_gr 8 0 33), (33, false, a_iload 1 34), (34, false, a_aload 0 35), (35, false, a_gr 8 1 38), (38, false, a_const 329 41), (41, false, a_aload 0 42), (42, false, a_gi 8 2 2 45), (45, false, a_mul 46), (46, false, a_iload 1 47), (47, false, a_add 48), (48, false, a_ald false 49), (49, false, a_ast false 50), (50, false, a_iinc 1 1 53), (53, false, a_goto 22), (56, false, a_aload 0 57), (57, false, a_gi 8 2 2 60), (60, false, a_iret M_8_undo)]
set_option maxRecDepth 20000 in
theorem t_8_undo (X : XT) : tget (tab_8_undo X) 0 = some (false, a_aload 0 1) ∧ tget (tab_8_undo X) 1 = some (false, a_gi 8 2 2 4) ∧ tget (tab_8_undo X) 4 = some (false, a_if 1 10 7) ∧ tget (tab_8_undo X) 7 = some (false, a_const (-2) 9) ∧ tget (tab_8_undo X) 9 = some (false, a_iret M_8_undo) ∧ tget (tab_8_undo X) 10 = some (false, a_aload 0 11) ∧ tget (tab_8_undo X) 11 = some (false, a_dup 12) ∧ tget (tab_8_undo X) 12 = some (false, a_gi 8 2 2 15) ∧ tget (tab_8_undo X) 15 = some (false, a_const 1 16) ∧ tget (tab_8_undo X) 16 = some (false, a_sub 17) ∧ tget (tab_8_undo X) 17 = some (false, a_pi 8 2 2 false 20) ∧ tget (tab_8_undo X) 20 = some (false, a_const 0 21) ∧ tget (tab_8_undo X) 21 = some (false, a_istore 1 22) ∧ tget (tab_8_undo X) 22 = some (true, a_iload 1 23) ∧ tget (tab_8_undo X) 23 = some (false, a_const 329 26) ∧ tget (tab_8_undo X) 26 = some (false, a_icmp 3 56 29) ∧ tget (tab_8_undo X) 29 = some (false, a_aload 0 30) ∧ tget (tab_8_undo X) 30 = some (false, a_gr 8 0 33) ∧ tget (tab_8_undo X) 33 = some (false, a_iload 1 34) ∧ tget (tab_8_undo X) 34 = some (false, a_aload 0 35) ∧ tget (tab_8_undo X) 35 = some (false, a_gr 8 1 38) ∧ tget (tab_8_undo X) 38 = some (false, a_const 329 41) ∧ tget (tab_8_undo X) 41 = some (false, a_aload 0 42) ∧ tget (tab_8_undo X) 42 = some (false, a_gi 8 2 2 45) ∧ tget (tab_8_undo X) 45 = some (false, a_mul 46) ∧ tget (tab_8_undo X) 46 = some (false, a_iload 1 47) ∧ tget (tab_8_undo X) 47 = some (false, a_add 48) ∧ tget (tab_8_undo X) 48 = some (false, a_ald false 49) ∧ tget (tab_8_undo X) 49 = some (false, a_ast false 50) ∧ tget (tab_8_undo X) 50 = some (false, a_iinc 1 1 53) ∧ tget (tab_8_undo X) 53 = some (false, a_goto 22) ∧ tget (tab_8_undo X) 56 = some (false, a_aload 0 57) ∧ tget (tab_8_undo X) 57 = some (false, a_gi 8 2 2 60) ∧ tget (tab_8_undo X) 60 = some (false, a_iret M_8_undo) := ⟨rfl, rfl, rfl, rfl, rfl, rfl, rfl, rfl, rfl, rfl, rfl, rfl, rfl, rfl, rfl, rfl, rfl, rfl, rfl, rfl, rfl, rfl, rfl, rfl, rfl, rfl, rfl, rfl, rfl, rfl, rfl, rfl, rfl, rfl⟩
theorem tok_8_undo (X : XT) : TabOK X M_8_undo (tab_8_undo X) := by
  unfold tab_8_undo
  refine tok_cons (snd_aload_n dX8_undo_0 rfl rfl) ?_
  refine tok_cons (snd_gi (C := RX8) (T := TX8) (N := 21) dX8_undo_1 rfl (by decide) rfl wf8_77 inX8 rfl rfl) ?_
  refine tok_cons (snd_if_ne dX8_undo_4 (by decide) rfl) ?_
  refine tok_cons (snd_bipush dX8_undo_7 (by decide) (inr_d rfl) rfl) ?_
  refine tok_cons (snd_iret dX8_undo_9 rfl) ?_
  refine tok_cons (snd_aload_n dX8_undo_10 rfl rfl) ?_
  refine tok_cons (snd_dup dX8_undo_11 rfl) ?_
  refine tok_cons (snd_gi (C := RX8) (T := TX8) (N := 21) dX8_undo_12 rfl (by decide) rfl wf8_77 inX8 rfl rfl) ?_
  refine tok_cons (snd_iconst dX8_undo_15 rfl (inr_d rfl) rfl) ?_
  refine tok_cons (snd_sub dX8_undo_16 rfl) ?_
  refine tok_cons (snd_pi (C := RX8) (T := TX8) (N := 21) (ty0 := tyX8) dX8_undo_17 rfl (by decide) rfl wf8_77 inX8 tyX8_ok nmX8 (by decide +kernel) rfl rfl) ?_
  refine tok_cons (snd_iconst dX8_undo_20 rfl (inr_d rfl) rfl) ?_
  refine tok_cons (snd_istore_n dX8_undo_21 rfl rfl (by decide)) ?_
  refine tok_cons (snd_iload_n dX8_undo_22 rfl rfl) ?_
  refine tok_cons (snd_sipush dX8_undo_23 (by decide) (inr_d rfl) rfl) ?_
  refine tok_cons (snd_icmp_ge dX8_undo_26 (by decide) rfl) ?_
  refine tok_cons (snd_aload_n dX8_undo_29 rfl rfl) ?_
  refine tok_cons (snd_gr (C := RX8) (T := TX8) (N := 21) dX8_undo_30 rfl (by decide) rfl wf8_7 inX8 rfl) ?_
  refine tok_cons (snd_iload_n dX8_undo_33 rfl rfl) ?_
  refine tok_cons (snd_aload_n dX8_undo_34 rfl rfl) ?_
  refine tok_cons (snd_gr (C := RX8) (T := TX8) (N := 21) dX8_undo_35 rfl (by decide) rfl wf8_13 inX8 rfl) ?_
  refine tok_cons (snd_sipush dX8_undo_38 (by decide) (inr_d rfl) rfl) ?_
  refine tok_cons (snd_aload_n dX8_undo_41 rfl rfl) ?_
  refine tok_cons (snd_gi (C := RX8) (T := TX8) (N := 21) dX8_undo_42 rfl (by decide) rfl wf8_77 inX8 rfl rfl) ?_
  refine tok_cons (snd_mul dX8_undo_45 rfl) ?_
  refine tok_cons (snd_iload_n dX8_undo_46 rfl rfl) ?_
  refine tok_cons (snd_add dX8_undo_47 rfl) ?_
  refine tok_cons (snd_iald dX8_undo_48 rfl) ?_
  refine tok_cons (snd_iast dX8_undo_49 rfl) ?_
  refine tok_cons (snd_iinc dX8_undo_50 rfl rfl (by decide)) ?_
  refine tok_cons (snd_goto dX8_undo_53 (by decide)) ?_
  refine tok_cons (snd_aload_n dX8_undo_56 rfl rfl) ?_
  refine tok_cons (snd_gi (C := RX8) (T := TX8) (N := 21) dX8_undo_57 rfl (by decide) rfl wf8_77 inX8 rfl rfl) ?_
  refine tok_cons (snd_iret dX8_undo_60 rfl) ?_
  exact tok_nil
def tab_8_pairCount (X : XT) : Tab := [(0, false, a_aload 0 1), (1, false, a_gr 8 0 4), (4, false, a_const 0 5), (5, false, a_ald false 6), (6, false, a_iret M_8_pairCount)]
set_option maxRecDepth 20000 in
theorem t_8_pairCount (X : XT) : tget (tab_8_pairCount X) 0 = some (false, a_aload 0 1) ∧ tget (tab_8_pairCount X) 1 = some (false, a_gr 8 0 4) ∧ tget (tab_8_pairCount X) 4 = some (false, a_const 0 5) ∧ tget (tab_8_pairCount X) 5 = some (false, a_ald false 6) ∧ tget (tab_8_pairCount X) 6 = some (false, a_iret M_8_pairCount) := ⟨rfl, rfl, rfl, rfl, rfl⟩
theorem tok_8_pairCount (X : XT) : TabOK X M_8_pairCount (tab_8_pairCount X) := by
  unfold tab_8_pairCount
  refine tok_cons (snd_aload_n dX8_pairCount_0 rfl rfl) ?_
  refine tok_cons (snd_gr (C := RX8) (T := TX8) (N := 21) dX8_pairCount_1 rfl (by decide) rfl wf8_7 inX8 rfl) ?_
  refine tok_cons (snd_iconst dX8_pairCount_4 rfl (inr_d rfl) rfl) ?_
  refine tok_cons (snd_iald dX8_pairCount_5 rfl) ?_
  refine tok_cons (snd_iret dX8_pairCount_6 rfl) ?_
  exact tok_nil
def tab_8_segmentsOfLast (X : XT) : Tab := [(0, false, a_aload 0 1), (1, false, a_gi 8 5 5 4), (4, false, a_aload 0 5), (5, false, a_gr 8 11 8), (8, false, a_aload 0 9), (9, false, a_gi 8 10 10 12), (12, false, a_ald false 13), (13, false, a_sub 14), (14, false, a_iret M_8_segmentsOfLast)]
set_option maxRecDepth 20000 in
theorem t_8_segmentsOfLast (X : XT) : tget (tab_8_segmentsOfLast X) 0 = some (false, a_aload 0 1) ∧ tget (tab_8_segmentsOfLast X) 1 = some (false, a_gi 8 5 5 4) ∧ tget (tab_8_segmentsOfLast X) 4 = some (false, a_aload 0 5) ∧ tget (tab_8_segmentsOfLast X) 5 = some (false, a_gr 8 11 8) ∧ tget (tab_8_segmentsOfLast X) 8 = some (false, a_aload 0 9) ∧ tget (tab_8_segmentsOfLast X) 9 = some (false, a_gi 8 10 10 12) ∧ tget (tab_8_segmentsOfLast X) 12 = some (false, a_ald false 13) ∧ tget (tab_8_segmentsOfLast X) 13 = some (false, a_sub 14) ∧ tget (tab_8_segmentsOfLast X) 14 = some (false, a_iret M_8_segmentsOfLast) := ⟨rfl, rfl, rfl, rfl, rfl, rfl, rfl, rfl, rfl⟩
theorem tok_8_segmentsOfLast (X : XT) : TabOK X M_8_segmentsOfLast (tab_8_segmentsOfLast X) := by
  unfold tab_8_segmentsOfLast
  refine tok_cons (snd_aload_n dX8_segmentsOfLast_0 rfl rfl) ?_
  refine tok_cons (snd_gi (C := RX8) (T := TX8) (N := 21) dX8_segmentsOfLast_1 rfl (by decide) rfl wf8_95 inX8 rfl rfl) ?_
  refine tok_cons (snd_aload_n dX8_segmentsOfLast_4 rfl rfl) ?_
  refine tok_cons (snd_gr (C := RX8) (T := TX8) (N := 21) dX8_segmentsOfLast_5 rfl (by decide) rfl wf8_34 inX8 rfl) ?_
  refine tok_cons (snd_aload_n dX8_segmentsOfLast_8 rfl rfl) ?_
  refine tok_cons (snd_gi (C := RX8) (T := TX8) (N := 21) dX8_segmentsOfLast_9 rfl (by decide) rfl wf8_98 inX8 rfl rfl) ?_
  refine tok_cons (snd_iald dX8_segmentsOfLast_12 rfl) ?_
  refine tok_cons (snd_sub dX8_segmentsOfLast_13 rfl) ?_
  refine tok_cons (snd_iret dX8_segmentsOfLast_14 rfl) ?_
  exact tok_nil
def tab_8_rowsOf (X : XT) : Tab := [(0, false, a_iload 1 1), (1, false, a_if 5 16 4), (4, false, a_aload 0 5), (5, false, a_gr 8 0 8), (8, false, a_const 83 10), (10, false, a_ald false 11), (11, false, a_iload 1 12), (12, false, a_add 13), (13, false, a_goto 17), (16, false, a_const 0 17), (17, false, a_iret M_8_rowsOf)]
set_option maxRecDepth 20000 in
theorem t_8_rowsOf (X : XT) : tget (tab_8_rowsOf X) 0 = some (false, a_iload 1 1) ∧ tget (tab_8_rowsOf X) 1 = some (false, a_if 5 16 4) ∧ tget (tab_8_rowsOf X) 4 = some (false, a_aload 0 5) ∧ tget (tab_8_rowsOf X) 5 = some (false, a_gr 8 0 8) ∧ tget (tab_8_rowsOf X) 8 = some (false, a_const 83 10) ∧ tget (tab_8_rowsOf X) 10 = some (false, a_ald false 11) ∧ tget (tab_8_rowsOf X) 11 = some (false, a_iload 1 12) ∧ tget (tab_8_rowsOf X) 12 = some (false, a_add 13) ∧ tget (tab_8_rowsOf X) 13 = some (false, a_goto 17) ∧ tget (tab_8_rowsOf X) 16 = some (false, a_const 0 17) ∧ tget (tab_8_rowsOf X) 17 = some (false, a_iret M_8_rowsOf) := ⟨rfl, rfl, rfl, rfl, rfl, rfl, rfl, rfl, rfl, rfl, rfl⟩
theorem tok_8_rowsOf (X : XT) : TabOK X M_8_rowsOf (tab_8_rowsOf X) := by
  unfold tab_8_rowsOf
  refine tok_cons (snd_iload_n dX8_rowsOf_0 rfl rfl) ?_
  refine tok_cons (snd_if_le dX8_rowsOf_1 (by decide) rfl) ?_
  refine tok_cons (snd_aload_n dX8_rowsOf_4 rfl rfl) ?_
  refine tok_cons (snd_gr (C := RX8) (T := TX8) (N := 21) dX8_rowsOf_5 rfl (by decide) rfl wf8_7 inX8 rfl) ?_
  refine tok_cons (snd_bipush dX8_rowsOf_8 (by decide) (inr_d rfl) rfl) ?_
  refine tok_cons (snd_iald dX8_rowsOf_10 rfl) ?_
  refine tok_cons (snd_iload_n dX8_rowsOf_11 rfl rfl) ?_
  refine tok_cons (snd_add dX8_rowsOf_12 rfl) ?_
  refine tok_cons (snd_goto dX8_rowsOf_13 (by decide)) ?_
  refine tok_cons (snd_iconst dX8_rowsOf_16 rfl (inr_d rfl) rfl) ?_
  refine tok_cons (snd_iret dX8_rowsOf_17 rfl) ?_
  exact tok_nil
def tab_8_carriedTo (X : XT) : Tab := [(0, false, a_iload 1 1), (1, false, a_if 1 8 4), (4, false, a_const 0 5), (5, false, a_goto 20), (8, false, a_aload 0 9), (9, false, a_gr 8 15 12), (12, false, a_const 2 13), (13, false, a_iload 1 14), (14, false, a_const 1 15), (15, false, a_sub 16), (16, false, a_mul 17), (17, false, a_iload 2 18), (18, false, a_add 19), (19, false, a_ald false 20), (20, false, a_iret M_8_carriedTo)]
set_option maxRecDepth 20000 in
theorem t_8_carriedTo (X : XT) : tget (tab_8_carriedTo X) 0 = some (false, a_iload 1 1) ∧ tget (tab_8_carriedTo X) 1 = some (false, a_if 1 8 4) ∧ tget (tab_8_carriedTo X) 4 = some (false, a_const 0 5) ∧ tget (tab_8_carriedTo X) 5 = some (false, a_goto 20) ∧ tget (tab_8_carriedTo X) 8 = some (false, a_aload 0 9) ∧ tget (tab_8_carriedTo X) 9 = some (false, a_gr 8 15 12) ∧ tget (tab_8_carriedTo X) 12 = some (false, a_const 2 13) ∧ tget (tab_8_carriedTo X) 13 = some (false, a_iload 1 14) ∧ tget (tab_8_carriedTo X) 14 = some (false, a_const 1 15) ∧ tget (tab_8_carriedTo X) 15 = some (false, a_sub 16) ∧ tget (tab_8_carriedTo X) 16 = some (false, a_mul 17) ∧ tget (tab_8_carriedTo X) 17 = some (false, a_iload 2 18) ∧ tget (tab_8_carriedTo X) 18 = some (false, a_add 19) ∧ tget (tab_8_carriedTo X) 19 = some (false, a_ald false 20) ∧ tget (tab_8_carriedTo X) 20 = some (false, a_iret M_8_carriedTo) := ⟨rfl, rfl, rfl, rfl, rfl, rfl, rfl, rfl, rfl, rfl, rfl, rfl, rfl, rfl, rfl⟩
theorem tok_8_carriedTo (X : XT) : TabOK X M_8_carriedTo (tab_8_carriedTo X) := by
  unfold tab_8_carriedTo
  refine tok_cons (snd_iload_n dX8_carriedTo_0 rfl rfl) ?_
  refine tok_cons (snd_if_ne dX8_carriedTo_1 (by decide) rfl) ?_
  refine tok_cons (snd_iconst dX8_carriedTo_4 rfl (inr_d rfl) rfl) ?_
  refine tok_cons (snd_goto dX8_carriedTo_5 (by decide)) ?_
  refine tok_cons (snd_aload_n dX8_carriedTo_8 rfl rfl) ?_
  refine tok_cons (snd_gr (C := RX8) (T := TX8) (N := 21) dX8_carriedTo_9 rfl (by decide) rfl wf8_47 inX8 rfl) ?_
  refine tok_cons (snd_iconst dX8_carriedTo_12 rfl (inr_d rfl) rfl) ?_
  refine tok_cons (snd_iload_n dX8_carriedTo_13 rfl rfl) ?_
  refine tok_cons (snd_iconst dX8_carriedTo_14 rfl (inr_d rfl) rfl) ?_
  refine tok_cons (snd_sub dX8_carriedTo_15 rfl) ?_
  refine tok_cons (snd_mul dX8_carriedTo_16 rfl) ?_
  refine tok_cons (snd_iload_n dX8_carriedTo_17 rfl rfl) ?_
  refine tok_cons (snd_add dX8_carriedTo_18 rfl) ?_
  refine tok_cons (snd_iald dX8_carriedTo_19 rfl) ?_
  refine tok_cons (snd_iret dX8_carriedTo_20 rfl) ?_
  exact tok_nil
def tab_8_segmentOf (X : XT) : Tab := [(0, false, a_const 0 1), (1, false, a_istore 4 3), (3, true, a_aload 0 4), (4, false, a_gr 8 6 7), (7, false, a_iload 4 9), (9, false, a_ald false 10), (10, false, a_iload 1 11), (11, false, a_icmp 1 56 14), (14, false, a_iload 3 15), (15, false, a_aload 0 16), (16, false, a_gr 8 7 19), (19, false, a_const 2 20), (20, false, a_iload 4 22), (22, false, a_mul 23), (23, false, a_iload 2 24), (24, false, a_add 25), (25, false, a_ald false 26), (26, false, a_icmp 2 56 29), (29, false, a_iload 3 30), (30, false, a_aload 0 31), (31, false, a_gr 8 7 34), (34, false, a_const 2 35), (35, false, a_iload 4 37), (37, false, a_mul 38), (38, false, a_iload 2 39), (39, false, a_add 40), (40, false, a_ald false 41), (41, false, a_aload 0 42), (42, false, a_gr 8 8 45), (45, false, a_const 2 46), (46, false, a_iload 4 48), (48, false, a_mul 49), (49, false, a_iload 2 50), (50, false, a_add 51), (51, false, a_ald false 52), (52, false, a_add 53), (53, false, a_icmp 2 62 56), (56, false, a_iinc 4 1 59), (59, false, a_goto 3), (62, false, a_iload 4 64), (64, false, a_iret M_8_segmentOf)]
set_option maxRecDepth 20000 in
theorem t_8_segmentOf (X : XT) : tget (tab_8_segmentOf X) 0 = some (false, a_const 0 1) ∧ tget (tab_8_segmentOf X) 1 = some (false, a_istore 4 3) ∧ tget (tab_8_segmentOf X) 3 = some (true, a_aload 0 4) ∧ tget (tab_8_segmentOf X) 4 = some (false, a_gr 8 6 7) ∧ tget (tab_8_segmentOf X) 7 = some (false, a_iload 4 9) ∧ tget (tab_8_segmentOf X) 9 = some (false, a_ald false 10) ∧ tget (tab_8_segmentOf X) 10 = some (false, a_iload 1 11) ∧ tget (tab_8_segmentOf X) 11 = some (false, a_icmp 1 56 14) ∧ tget (tab_8_segmentOf X) 14 = some (false, a_iload 3 15) ∧ tget (tab_8_segmentOf X) 15 = some (false, a_aload 0 16) ∧ tget (tab_8_segmentOf X) 16 = some (false, a_gr 8 7 19) ∧ tget (tab_8_segmentOf X) 19 = some (false, a_const 2 20) ∧ tget (tab_8_segmentOf X) 20 = some (false, a_iload 4 22) ∧ tget (tab_8_segmentOf X) 22 = some (false, a_mul 23) ∧ tget (tab_8_segmentOf X) 23 = some (false, a_iload 2 24) ∧ tget (tab_8_segmentOf X) 24 = some (false, a_add 25) ∧ tget (tab_8_segmentOf X) 25 = some (false, a_ald false 26) ∧ tget (tab_8_segmentOf X) 26 = some (false, a_icmp 2 56 29) ∧ tget (tab_8_segmentOf X) 29 = some (false, a_iload 3 30) ∧ tget (tab_8_segmentOf X) 30 = some (false, a_aload 0 31) ∧ tget (tab_8_segmentOf X) 31 = some (false, a_gr 8 7 34) ∧ tget (tab_8_segmentOf X) 34 = some (false, a_const 2 35) ∧ tget (tab_8_segmentOf X) 35 = some (false, a_iload 4 37) ∧ tget (tab_8_segmentOf X) 37 = some (false, a_mul 38) ∧ tget (tab_8_segmentOf X) 38 = some (false, a_iload 2 39) ∧ tget (tab_8_segmentOf X) 39 = some (false, a_add 40) ∧ tget (tab_8_segmentOf X) 40 = some (false, a_ald false 41) ∧ tget (tab_8_segmentOf X) 41 = some (false, a_aload 0 42) ∧ tget (tab_8_segmentOf X) 42 = some (false, a_gr 8 8 45) ∧ tget (tab_8_segmentOf X) 45 = some (false, a_const 2 46) ∧ tget (tab_8_segmentOf X) 46 = some (false, a_iload 4 48) ∧ tget (tab_8_segmentOf X) 48 = some (false, a_mul 49) ∧ tget (tab_8_segmentOf X) 49 = some (false, a_iload 2 50) ∧ tget (tab_8_segmentOf X) 50 = some (false, a_add 51) ∧ tget (tab_8_segmentOf X) 51 = some (false, a_ald false 52) ∧ tget (tab_8_segmentOf X) 52 = some (false, a_add 53) ∧ tget (tab_8_segmentOf X) 53 = some (false, a_icmp 2 62 56) ∧ tget (tab_8_segmentOf X) 56 = some (false, a_iinc 4 1 59) ∧ tget (tab_8_segmentOf X) 59 = some (false, a_goto 3) ∧ tget (tab_8_segmentOf X) 62 = some (false, a_iload 4 64) ∧ tget (tab_8_segmentOf X) 64 = some (false, a_iret M_8_segmentOf) := ⟨rfl, rfl, rfl, rfl, rfl, rfl, rfl, rfl, rfl, rfl, rfl, rfl, rfl, rfl, rfl, rfl, rfl, rfl, rfl, rfl, rfl, rfl, rfl, rfl, rfl, rfl, rfl, rfl, rfl, rfl, rfl, rfl, rfl, rfl, rfl, rfl, rfl, rfl, rfl, rfl, rfl⟩
theorem tok_8_segmentOf (X : XT) : TabOK X M_8_segmentOf (tab_8_segmentOf X) := by
  unfold tab_8_segmentOf
  refine tok_cons (snd_iconst dX8_segmentOf_0 rfl (inr_d rfl) rfl) ?_
  refine tok_cons (snd_istore dX8_segmentOf_1 rfl (by decide)) ?_
  refine tok_cons (snd_aload_n dX8_segmentOf_3 rfl rfl) ?_
  refine tok_cons (snd_gr (C := RX8) (T := TX8) (N := 21) dX8_segmentOf_4 rfl (by decide) rfl wf8_22 inX8 rfl) ?_
  refine tok_cons (snd_iload dX8_segmentOf_7 rfl) ?_
  refine tok_cons (snd_iald dX8_segmentOf_9 rfl) ?_
  refine tok_cons (snd_iload_n dX8_segmentOf_10 rfl rfl) ?_
  refine tok_cons (snd_icmp_ne dX8_segmentOf_11 (by decide) rfl) ?_
  refine tok_cons (snd_iload_n dX8_segmentOf_14 rfl rfl) ?_
  refine tok_cons (snd_aload_n dX8_segmentOf_15 rfl rfl) ?_
  refine tok_cons (snd_gr (C := RX8) (T := TX8) (N := 21) dX8_segmentOf_16 rfl (by decide) rfl wf8_25 inX8 rfl) ?_
  refine tok_cons (snd_iconst dX8_segmentOf_19 rfl (inr_d rfl) rfl) ?_
  refine tok_cons (snd_iload dX8_segmentOf_20 rfl) ?_
  refine tok_cons (snd_mul dX8_segmentOf_22 rfl) ?_
  refine tok_cons (snd_iload_n dX8_segmentOf_23 rfl rfl) ?_
  refine tok_cons (snd_add dX8_segmentOf_24 rfl) ?_
  refine tok_cons (snd_iald dX8_segmentOf_25 rfl) ?_
  refine tok_cons (snd_icmp_lt dX8_segmentOf_26 (by decide) rfl) ?_
  refine tok_cons (snd_iload_n dX8_segmentOf_29 rfl rfl) ?_
  refine tok_cons (snd_aload_n dX8_segmentOf_30 rfl rfl) ?_
  refine tok_cons (snd_gr (C := RX8) (T := TX8) (N := 21) dX8_segmentOf_31 rfl (by decide) rfl wf8_25 inX8 rfl) ?_
  refine tok_cons (snd_iconst dX8_segmentOf_34 rfl (inr_d rfl) rfl) ?_
  refine tok_cons (snd_iload dX8_segmentOf_35 rfl) ?_
  refine tok_cons (snd_mul dX8_segmentOf_37 rfl) ?_
  refine tok_cons (snd_iload_n dX8_segmentOf_38 rfl rfl) ?_
  refine tok_cons (snd_add dX8_segmentOf_39 rfl) ?_
  refine tok_cons (snd_iald dX8_segmentOf_40 rfl) ?_
  refine tok_cons (snd_aload_n dX8_segmentOf_41 rfl rfl) ?_
  refine tok_cons (snd_gr (C := RX8) (T := TX8) (N := 21) dX8_segmentOf_42 rfl (by decide) rfl wf8_28 inX8 rfl) ?_
  refine tok_cons (snd_iconst dX8_segmentOf_45 rfl (inr_d rfl) rfl) ?_
  refine tok_cons (snd_iload dX8_segmentOf_46 rfl) ?_
  refine tok_cons (snd_mul dX8_segmentOf_48 rfl) ?_
  refine tok_cons (snd_iload_n dX8_segmentOf_49 rfl rfl) ?_
  refine tok_cons (snd_add dX8_segmentOf_50 rfl) ?_
  refine tok_cons (snd_iald dX8_segmentOf_51 rfl) ?_
  refine tok_cons (snd_add dX8_segmentOf_52 rfl) ?_
  refine tok_cons (snd_icmp_lt dX8_segmentOf_53 (by decide) rfl) ?_
  refine tok_cons (snd_iinc dX8_segmentOf_56 rfl rfl (by decide)) ?_
  refine tok_cons (snd_goto dX8_segmentOf_59 (by decide)) ?_
  refine tok_cons (snd_iload dX8_segmentOf_62 rfl) ?_
  refine tok_cons (snd_iret dX8_segmentOf_64 rfl) ?_
  exact tok_nil
def tab_8_isPair (X : XT) : Tab := [(0, false, a_iload 1 1), (1, false, a_const 0 2), (2, false, a_aload 0 3), (3, false, a_gr 8 0 6), (6, false, a_const 0 7), (7, false, a_ald false 8), (8, false, a_const 1 9), (9, false, a_sub 10), (10, false, a_sv X M_8_isPair M_8_in 3 13), (13, false, a_zret M_8_isPair)]
set_option maxRecDepth 20000 in
theorem t_8_isPair (X : XT) : tget (tab_8_isPair X) 0 = some (false, a_iload 1 1) ∧ tget (tab_8_isPair X) 1 = some (false, a_const 0 2) ∧ tget (tab_8_isPair X) 2 = some (false, a_aload 0 3) ∧ tget (tab_8_isPair X) 3 = some (false, a_gr 8 0 6) ∧ tget (tab_8_isPair X) 6 = some (false, a_const 0 7) ∧ tget (tab_8_isPair X) 7 = some (false, a_ald false 8) ∧ tget (tab_8_isPair X) 8 = some (false, a_const 1 9) ∧ tget (tab_8_isPair X) 9 = some (false, a_sub 10) ∧ tget (tab_8_isPair X) 10 = some (false, a_sv X M_8_isPair M_8_in 3 13) ∧ tget (tab_8_isPair X) 13 = some (false, a_zret M_8_isPair) := ⟨rfl, rfl, rfl, rfl, rfl, rfl, rfl, rfl, rfl, rfl⟩
theorem tok_8_isPair (X : XT) : TabOK X M_8_isPair (tab_8_isPair X) := by
  unfold tab_8_isPair
  refine tok_cons (snd_iload_n dX8_isPair_0 rfl rfl) ?_
  refine tok_cons (snd_iconst dX8_isPair_1 rfl (inr_d rfl) rfl) ?_
  refine tok_cons (snd_aload_n dX8_isPair_2 rfl rfl) ?_
  refine tok_cons (snd_gr (C := RX8) (T := TX8) (N := 21) dX8_isPair_3 rfl (by decide) rfl wf8_7 inX8 rfl) ?_
  refine tok_cons (snd_iconst dX8_isPair_6 rfl (inr_d rfl) rfl) ?_
  refine tok_cons (snd_iald dX8_isPair_7 rfl) ?_
  refine tok_cons (snd_iconst dX8_isPair_8 rfl (inr_d rfl) rfl) ?_
  refine tok_cons (snd_sub dX8_isPair_9 rfl) ?_
  refine tok_cons (snd_sv dX8_isPair_10 mok_8_in ⟨ws_8_in, Or.inl ⟨wm8_62, rfl⟩⟩ pn_8_in (by decide) ⟨rfl, rfl⟩ rfl) ?_
  refine tok_cons (snd_zret dX8_isPair_13 rfl) ?_
  exact tok_nil
def tab_8_isSide (X : XT) : Tab := [(0, false, a_iload 0 1), (1, false, a_const 0 2), (2, false, a_const 1 3), (3, false, a_sv X M_8_isSide M_8_in 3 6), (6, false, a_zret M_8_isSide)]
set_option maxRecDepth 20000 in
theorem t_8_isSide (X : XT) : tget (tab_8_isSide X) 0 = some (false, a_iload 0 1) ∧ tget (tab_8_isSide X) 1 = some (false, a_const 0 2) ∧ tget (tab_8_isSide X) 2 = some (false, a_const 1 3) ∧ tget (tab_8_isSide X) 3 = some (false, a_sv X M_8_isSide M_8_in 3 6) ∧ tget (tab_8_isSide X) 6 = some (false, a_zret M_8_isSide) := ⟨rfl, rfl, rfl, rfl, rfl⟩
theorem tok_8_isSide (X : XT) : TabOK X M_8_isSide (tab_8_isSide X) := by
  unfold tab_8_isSide
  refine tok_cons (snd_iload_n dX8_isSide_0 rfl rfl) ?_
  refine tok_cons (snd_iconst dX8_isSide_1 rfl (inr_d rfl) rfl) ?_
  refine tok_cons (snd_iconst dX8_isSide_2 rfl (inr_d rfl) rfl) ?_
  refine tok_cons (snd_sv dX8_isSide_3 mok_8_in ⟨ws_8_in, Or.inl ⟨wm8_62, rfl⟩⟩ pn_8_in (by decide) ⟨rfl, rfl⟩ rfl) ?_
  refine tok_cons (snd_zret dX8_isSide_6 rfl) ?_
  exact tok_nil
def tab_8_insert (X : XT) : Tab := [(0, false, a_iload 1 1), (1, false, a_const 0 2), (2, false, a_aload 0 3), (3, false, a_gr 8 0 6), (6, false, a_const 0 7), (7, false, a_ald false 8), (8, false, a_sv X M_8_insert M_8_in 3 11), (11, false, a_if 0 34 14), (14, false, a_iload 2 15), (15, false, a_const 1 16), (16, false, a_const 30 18), (18, false, a_sv X M_8_insert M_8_in 3 21), (21, false, a_if 0 34 24), (24, false, a_iload 3 25), (25, false, a_const 1 26), (26, false, a_const 30 28), (28, false, a_sv X M_8_insert M_8_in 3 31), (31, false, a_if 1 36 34), (34, false, a_const (-1) 35), (35, false, a_iret M_8_insert), (36, false, a_aload 0 37), (37, false, a_gr 8 0 40), (40, false, a_const 0 41), (41, false, a_ald false 42), (42, false, a_const 20 44), (44, false, a_icmp 1 50 47), (47, false, a_const (-3) 49), (49, false, a_iret M_8_insert), (50, false, a_aload 0 51), (51, false, a_cn X M_8_insert M_8_records 8 1 54), (54, false, a_const 0 55), (55, false, a_istore 4 57), (57, false, a_iload 4 59), (59, false, a_const 4 60), (60, false, a_icmp 3 121 63), (63, false, a_aload 0 64), (64, false, a_gr 8 0 67), (67, false, a_const 0 68), (68, false, a_ald false 69), (69, false, a_istore 5 71), (71, true, a_iload 5 73), (73, false, a_iload 1 74), (74, false, a_icmp 5 115 77), (77, false, a_aload 0 78), (78, false, a_gr 8 0 81), (81, false, a_const 1 82), (82, false, a_const 20 84), (84, false, a_iload 4 86), (86, false, a_mul 87), (87, false, a_add 88), (88, false, a_iload 5 90), (90, false, a_add 91), (91, false, a_aload 0 92), (92, false, a_gr 8 0 95), (95, false, a_const 1 96), (96, false, a_const 20 98), (98, false, a_iload 4 100), (100, false, a_mul 101), (101, false, a_add 102), (102, false, a_iload 5 104), (104, false, a_add 105), (105, false, a_const 1 106), (106, false, a_sub 107), (107, false, a_ald false 108), (108, false, a_ast false 109), (109, false, a_iinc 5 (-1) 112), (112, false, a_goto 71), (115, false, a_iinc 4 1 118), (118, false, a_goto 57), (121, false, a_aload 0 122), (122, false, a_gr 8 0 125), (125, false, a_const 1 126), (126, false, a_iload 1 127), (127, false, a_add 128), (128, false, a_iload 2 129), (129, false, a_ast false 130), (130, false, a_aload 0 131), (131, false, a_gr 8 0 134), (134, false, a_const 21 136), (136, false, a_iload 1 137), (137, false, a_add 138), (138, false, a_iload 3 139), (139, false, a_ast false 140), (140, false, a_aload 0 141), (141, false, a_gr 8 0 144), (144, false, a_const 41 146), (146, false, a_iload 1 147), (147, false, a_add 148), (148, false, a_const 0 149), (149, false, a_ast false 150), (150, false, a_aload 0 151), (151, false, a_gr 8 0 154), (154, false, a_const 61 156), (156, false, a_iload 1 157), (157, false, a_add 158), (158, false, a_const 0 159), (159, false, a_ast false 160), (160, false, a_const 0 161), (161, false, a_istore 4 163), (163, true, a_iload 4 165), (165, false, a_const 80 167), (167, false, a_icmp 3 229 170), (170, false, a_aload 0 171), (171, false, a_gr 8 0 174), (174, false, a_const 89 176), (176, false, a_iload 4 178), (178, false, a_add 179), (179, false, a_dup2 180), (180, false, a_ald false 181), (181, false, a_iload 4 183), (183, false, a_const 40 185), (185, false, a_rem 186), (186, false, a_aload 0 187), (187, false, a_gr 8 0 190), (190, false, a_const 87 192), (192, false, a_iload 4 194), (194, false, a_const 40 196), (196, false, a_div 197), (197, false, a_add 198), (198, false, a_ald false 199), (199, false, a_icmp 3 220 202), (202, false, a_aload 0 203), (203, false, a_gr 8 0 206), (206, false, a_const 89 208), (208, false, a_iload 4 210), (210, false, a_add 211), (211, false, a_ald false 212), (212, false, a_iload 1 213), (213, false, a_icmp 2 220 216), (216, false, a_const 1 217), (217, false, a_goto 221), (220, false, a_const 0 221), (221, false, a_add 222), (222, false, a_ast false 223), (223, false, a_iinc 4 1 226), (226, false, a_goto 163), (229, false, a_aload 0 230), (230, false, a_gr 8 0 233), (233, false, a_const 0 234), (234, false, a_dup2 235), (235, false, a_ald false 236), (236, false, a_const 1 237), (237, false, a_add 238), (238, false, a_ast false 239), (239, false, a_aload 0 240), (240, false, a_gr 8 0 243), (243, false, a_const 0 244), (244, false, a_ald false 245), (245, false, a_iret M_8_insert)]
set_option maxRecDepth 20000 in
theorem t_8_insert (X : XT) : tget (tab_8_insert X) 0 = some (false, a_iload 1 1) ∧ tget (tab_8_insert X) 1 = some (false, a_const 0 2) ∧ tget (tab_8_insert X) 2 = some (false, a_aload 0 3) ∧ tget (tab_8_insert X) 3 = some (false, a_gr 8 0 6) ∧ tget (tab_8_insert X) 6 = some (false, a_const 0 7) ∧ tget (tab_8_insert X) 7 = some (false, a_ald false 8) ∧ tget (tab_8_insert X) 8 = some (false, a_sv X M_8_insert M_8_in 3 11) ∧ tget (tab_8_insert X) 11 = some (false, a_if 0 34 14) ∧ tget (tab_8_insert X) 14 = some (false, a_iload 2 15) ∧ tget (tab_8_insert X) 15 = some (false, a_const 1 16) ∧ tget (tab_8_insert X) 16 = some (false, a_const 30 18) ∧ tget (tab_8_insert X) 18 = some (false, a_sv X M_8_insert M_8_in 3 21) ∧ tget (tab_8_insert X) 21 = some (false, a_if 0 34 24) ∧ tget (tab_8_insert X) 24 = some (false, a_iload 3 25) ∧ tget (tab_8_insert X) 25 = some (false, a_const 1 26) ∧ tget (tab_8_insert X) 26 = some (false, a_const 30 28) ∧ tget (tab_8_insert X) 28 = some (false, a_sv X M_8_insert M_8_in 3 31) ∧ tget (tab_8_insert X) 31 = some (false, a_if 1 36 34) ∧ tget (tab_8_insert X) 34 = some (false, a_const (-1) 35) ∧ tget (tab_8_insert X) 35 = some (false, a_iret M_8_insert) ∧ tget (tab_8_insert X) 36 = some (false, a_aload 0 37) ∧ tget (tab_8_insert X) 37 = some (false, a_gr 8 0 40) ∧ tget (tab_8_insert X) 40 = some (false, a_const 0 41) ∧ tget (tab_8_insert X) 41 = some (false, a_ald false 42) ∧ tget (tab_8_insert X) 42 = some (false, a_const 20 44) ∧ tget (tab_8_insert X) 44 = some (false, a_icmp 1 50 47) ∧ tget (tab_8_insert X) 47 = some (false, a_const (-3) 49) ∧ tget (tab_8_insert X) 49 = some (false, a_iret M_8_insert) ∧ tget (tab_8_insert X) 50 = some (false, a_aload 0 51) ∧ tget (tab_8_insert X) 51 = some (false, a_cn X M_8_insert M_8_records 8 1 54) ∧ tget (tab_8_insert X) 54 = some (false, a_const 0 55) ∧ tget (tab_8_insert X) 55 = some (false, a_istore 4 57) ∧ tget (tab_8_insert X) 57 = some (false, a_iload 4 59) ∧ tget (tab_8_insert X) 59 = some (false, a_const 4 60) ∧ tget (tab_8_insert X) 60 = some (false, a_icmp 3 121 63) ∧ tget (tab_8_insert X) 63 = some (false, a_aload 0 64) ∧ tget (tab_8_insert X) 64 = some (false, a_gr 8 0 67) ∧ tget (tab_8_insert X) 67 = some (false, a_const 0 68) ∧ tget (tab_8_insert X) 68 = some (false, a_ald false 69) ∧ tget (tab_8_insert X) 69 = some (false, a_istore 5 71) ∧ tget (tab_8_insert X) 71 = some (true, a_iload 5 73) ∧ tget (tab_8_insert X) 73 = some (false, a_iload 1 74) ∧ tget (tab_8_insert X) 74 = some (false, a_icmp 5 115 77) ∧ tget (tab_8_insert X) 77 = some (false, a_aload 0 78) ∧ tget (tab_8_insert X) 78 = some (false, a_gr 8 0 81) ∧ tget (tab_8_insert X) 81 = some (false, a_const 1 82) ∧ tget (tab_8_insert X) 82 = some (false, a_const 20 84) ∧ tget (tab_8_insert X) 84 = some (false, a_iload 4 86) ∧ tget (tab_8_insert X) 86 = some (false, a_mul 87) ∧ tget (tab_8_insert X) 87 = some (false, a_add 88) ∧ tget (tab_8_insert X) 88 = some (false, a_iload 5 90) ∧ tget (tab_8_insert X) 90 = some (false, a_add 91) ∧ tget (tab_8_insert X) 91 = some (false, a_aload 0 92) ∧ tget (tab_8_insert X) 92 = some (false, a_gr 8 0 95) ∧ tget (tab_8_insert X) 95 = some (false, a_const 1 96) ∧ tget (tab_8_insert X) 96 = some (false, a_const 20 98) ∧ tget (tab_8_insert X) 98 = some (false, a_iload 4 100) ∧ tget (tab_8_insert X) 100 = some (false, a_mul 101) ∧ tget (tab_8_insert X) 101 = some (false, a_add 102) ∧ tget (tab_8_insert X) 102 = some (false, a_iload 5 104) ∧ tget (tab_8_insert X) 104 = some (false, a_add 105) ∧ tget (tab_8_insert X) 105 = some (false, a_const 1 106) ∧ tget (tab_8_insert X) 106 = some (false, a_sub 107) ∧ tget (tab_8_insert X) 107 = some (false, a_ald false 108) ∧ tget (tab_8_insert X) 108 = some (false, a_ast false 109) ∧ tget (tab_8_insert X) 109 = some (false, a_iinc 5 (-1) 112) ∧ tget (tab_8_insert X) 112 = some (false, a_goto 71) ∧ tget (tab_8_insert X) 115 = some (false, a_iinc 4 1 118) ∧ tget (tab_8_insert X) 118 = some (false, a_goto 57) ∧ tget (tab_8_insert X) 121 = some (false, a_aload 0 122) ∧ tget (tab_8_insert X) 122 = some (false, a_gr 8 0 125) ∧ tget (tab_8_insert X) 125 = some (false, a_const 1 126) ∧ tget (tab_8_insert X) 126 = some (false, a_iload 1 127) ∧ tget (tab_8_insert X) 127 = some (false, a_add 128) ∧ tget (tab_8_insert X) 128 = some (false, a_iload 2 129) ∧ tget (tab_8_insert X) 129 = some (false, a_ast false 130) ∧ tget (tab_8_insert X) 130 = some (false, a_aload 0 131) ∧ tget (tab_8_insert X) 131 = some (false, a_gr 8 0 134) ∧ tget (tab_8_insert X) 134 = some (false, a_const 21 136) ∧ tget (tab_8_insert X) 136 = some (false, a_iload 1 137) ∧ tget (tab_8_insert X) 137 = some (false, a_add 138) ∧ tget (tab_8_insert X) 138 = some (false, a_iload 3 139) ∧ tget (tab_8_insert X) 139 = some (false, a_ast false 140) ∧ tget (tab_8_insert X) 140 = some (false, a_aload 0 141) ∧ tget (tab_8_insert X) 141 = some (false, a_gr 8 0 144) ∧ tget (tab_8_insert X) 144 = some (false, a_const 41 146) ∧ tget (tab_8_insert X) 146 = some (false, a_iload 1 147) ∧ tget (tab_8_insert X) 147 = some (false, a_add 148) ∧ tget (tab_8_insert X) 148 = some (false, a_const 0 149) ∧ tget (tab_8_insert X) 149 = some (false, a_ast false 150) ∧ tget (tab_8_insert X) 150 = some (false, a_aload 0 151) ∧ tget (tab_8_insert X) 151 = some (false, a_gr 8 0 154) ∧ tget (tab_8_insert X) 154 = some (false, a_const 61 156) ∧ tget (tab_8_insert X) 156 = some (false, a_iload 1 157) ∧ tget (tab_8_insert X) 157 = some (false, a_add 158) ∧ tget (tab_8_insert X) 158 = some (false, a_const 0 159) ∧ tget (tab_8_insert X) 159 = some (false, a_ast false 160) ∧ tget (tab_8_insert X) 160 = some (false, a_const 0 161) ∧ tget (tab_8_insert X) 161 = some (false, a_istore 4 163) ∧ tget (tab_8_insert X) 163 = some (true, a_iload 4 165) ∧ tget (tab_8_insert X) 165 = some (false, a_const 80 167) ∧ tget (tab_8_insert X) 167 = some (false, a_icmp 3 229 170) ∧ tget (tab_8_insert X) 170 = some (false, a_aload 0 171) ∧ tget (tab_8_insert X) 171 = some (false, a_gr 8 0 174) ∧ tget (tab_8_insert X) 174 = some (false, a_const 89 176) ∧ tget (tab_8_insert X) 176 = some (false, a_iload 4 178) ∧ tget (tab_8_insert X) 178 = some (false, a_add 179) ∧ tget (tab_8_insert X) 179 = some (false, a_dup2 180) ∧ tget (tab_8_insert X) 180 = some (false, a_ald false 181) ∧ tget (tab_8_insert X) 181 = some (false, a_iload 4 183) ∧ tget (tab_8_insert X) 183 = some (false, a_const 40 185) ∧ tget (tab_8_insert X) 185 = some (false, a_rem 186) ∧ tget (tab_8_insert X) 186 = some (false, a_aload 0 187) ∧ tget (tab_8_insert X) 187 = some (false, a_gr 8 0 190) ∧ tget (tab_8_insert X) 190 = some (false, a_const 87 192) ∧ tget (tab_8_insert X) 192 = some (false, a_iload 4 194) ∧ tget (tab_8_insert X) 194 = some (false, a_const 40 196) ∧ tget (tab_8_insert X) 196 = some (false, a_div 197) ∧ tget (tab_8_insert X) 197 = some (false, a_add 198) ∧ tget (tab_8_insert X) 198 = some (false, a_ald false 199) ∧ tget (tab_8_insert X) 199 = some (false, a_icmp 3 220 202) ∧ tget (tab_8_insert X) 202 = some (false, a_aload 0 203) ∧ tget (tab_8_insert X) 203 = some (false, a_gr 8 0 206) ∧ tget (tab_8_insert X) 206 = some (false, a_const 89 208) ∧ tget (tab_8_insert X) 208 = some (false, a_iload 4 210) ∧ tget (tab_8_insert X) 210 = some (false, a_add 211) ∧ tget (tab_8_insert X) 211 = some (false, a_ald false 212) ∧ tget (tab_8_insert X) 212 = some (false, a_iload 1 213) ∧ tget (tab_8_insert X) 213 = some (false, a_icmp 2 220 216) ∧ tget (tab_8_insert X) 216 = some (false, a_const 1 217) ∧ tget (tab_8_insert X) 217 = some (false, a_goto 221) ∧ tget (tab_8_insert X) 220 = some (false, a_const 0 221) ∧ tget (tab_8_insert X) 221 = some (false, a_add 222) ∧ tget (tab_8_insert X) 222 = some (false, a_ast false 223) ∧ tget (tab_8_insert X) 223 = some (false, a_iinc 4 1 226) ∧ tget (tab_8_insert X) 226 = some (false, a_goto 163) ∧ tget (tab_8_insert X) 229 = some (false, a_aload 0 230) ∧ tget (tab_8_insert X) 230 = some (false, a_gr 8 0 233) ∧ tget (tab_8_insert X) 233 = some (false, a_const 0 234) ∧ tget (tab_8_insert X) 234 = some (false, a_dup2 235) ∧ tget (tab_8_insert X) 235 = some (false, a_ald false 236) ∧ tget (tab_8_insert X) 236 = some (false, a_const 1 237) ∧ tget (tab_8_insert X) 237 = some (false, a_add 238) ∧ tget (tab_8_insert X) 238 = some (false, a_ast false 239) ∧ tget (tab_8_insert X) 239 = some (false, a_aload 0 240) ∧ tget (tab_8_insert X) 240 = some (false, a_gr 8 0 243) ∧ tget (tab_8_insert X) 243 = some (false, a_const 0 244) ∧ tget (tab_8_insert X) 244 = some (false, a_ald false 245) ∧ tget (tab_8_insert X) 245 = some (false, a_iret M_8_insert) := ⟨rfl, rfl, rfl, rfl, rfl, rfl, rfl, rfl, rfl, rfl, rfl, rfl, rfl, rfl, rfl, rfl, rfl, rfl, rfl, rfl, rfl, rfl, rfl, rfl, rfl, rfl, rfl, rfl, rfl, rfl, rfl, rfl, rfl, rfl, rfl, rfl, rfl, rfl, rfl, rfl, rfl, rfl, rfl, rfl, rfl, rfl, rfl, rfl, rfl, rfl, rfl, rfl, rfl, rfl, rfl, rfl, rfl, rfl, rfl, rfl, rfl, rfl, rfl, rfl, rfl, rfl, rfl, rfl, rfl, rfl, rfl, rfl, rfl, rfl, rfl, rfl, rfl, rfl, rfl, rfl, rfl, rfl, rfl, rfl, rfl, rfl, rfl, rfl, rfl, rfl, rfl, rfl, rfl, rfl, rfl, rfl, rfl, rfl, rfl, rfl, rfl, rfl, rfl, rfl, rfl, rfl, rfl, rfl, rfl, rfl, rfl, rfl, rfl, rfl, rfl, rfl, rfl, rfl, rfl, rfl, rfl, rfl, rfl, rfl, rfl, rfl, rfl, rfl, rfl, rfl, rfl, rfl, rfl, rfl, rfl, rfl, rfl, rfl, rfl, rfl, rfl, rfl, rfl, rfl, rfl, rfl, rfl, rfl, rfl⟩
theorem tok_8_insert (X : XT) : TabOK X M_8_insert (tab_8_insert X) := by
  unfold tab_8_insert
  refine tok_cons (snd_iload_n dX8_insert_0 rfl rfl) ?_
  refine tok_cons (snd_iconst dX8_insert_1 rfl (inr_d rfl) rfl) ?_
  refine tok_cons (snd_aload_n dX8_insert_2 rfl rfl) ?_
  refine tok_cons (snd_gr (C := RX8) (T := TX8) (N := 21) dX8_insert_3 rfl (by decide) rfl wf8_7 inX8 rfl) ?_
  refine tok_cons (snd_iconst dX8_insert_6 rfl (inr_d rfl) rfl) ?_
  refine tok_cons (snd_iald dX8_insert_7 rfl) ?_
  refine tok_cons (snd_sv dX8_insert_8 mok_8_in ⟨ws_8_in, Or.inl ⟨wm8_62, rfl⟩⟩ pn_8_in (by decide) ⟨rfl, rfl⟩ rfl) ?_
  refine tok_cons (snd_if_eq dX8_insert_11 (by decide) rfl) ?_
  refine tok_cons (snd_iload_n dX8_insert_14 rfl rfl) ?_
  refine tok_cons (snd_iconst dX8_insert_15 rfl (inr_d rfl) rfl) ?_
  refine tok_cons (snd_bipush dX8_insert_16 (by decide) (inr_d rfl) rfl) ?_
  refine tok_cons (snd_sv dX8_insert_18 mok_8_in ⟨ws_8_in, Or.inl ⟨wm8_62, rfl⟩⟩ pn_8_in (by decide) ⟨rfl, rfl⟩ rfl) ?_
  refine tok_cons (snd_if_eq dX8_insert_21 (by decide) rfl) ?_
  refine tok_cons (snd_iload_n dX8_insert_24 rfl rfl) ?_
  refine tok_cons (snd_iconst dX8_insert_25 rfl (inr_d rfl) rfl) ?_
  refine tok_cons (snd_bipush dX8_insert_26 (by decide) (inr_d rfl) rfl) ?_
  refine tok_cons (snd_sv dX8_insert_28 mok_8_in ⟨ws_8_in, Or.inl ⟨wm8_62, rfl⟩⟩ pn_8_in (by decide) ⟨rfl, rfl⟩ rfl) ?_
  refine tok_cons (snd_if_ne dX8_insert_31 (by decide) rfl) ?_
  refine tok_cons (snd_iconst dX8_insert_34 rfl (inr_d rfl) rfl) ?_
  refine tok_cons (snd_iret dX8_insert_35 rfl) ?_
  refine tok_cons (snd_aload_n dX8_insert_36 rfl rfl) ?_
  refine tok_cons (snd_gr (C := RX8) (T := TX8) (N := 21) dX8_insert_37 rfl (by decide) rfl wf8_7 inX8 rfl) ?_
  refine tok_cons (snd_iconst dX8_insert_40 rfl (inr_d rfl) rfl) ?_
  refine tok_cons (snd_iald dX8_insert_41 rfl) ?_
  refine tok_cons (snd_bipush dX8_insert_42 (by decide) (inr_d rfl) rfl) ?_
  refine tok_cons (snd_icmp_ne dX8_insert_44 (by decide) rfl) ?_
  refine tok_cons (snd_bipush dX8_insert_47 (by decide) (inr_d rfl) rfl) ?_
  refine tok_cons (snd_iret dX8_insert_49 rfl) ?_
  refine tok_cons (snd_aload_n dX8_insert_50 rfl rfl) ?_
  refine tok_cons (snd_cn dX8_insert_51 mok_8_records ⟨wm8_81, wi_8_records, wl_8_records⟩ (rc := (RX8, TX8, 21)) rfl rfl pn_8_records (by decide) ⟨rfl, rfl⟩ rfl) ?_
  refine tok_cons (snd_iconst dX8_insert_54 rfl (inr_d rfl) rfl) ?_
  refine tok_cons (snd_istore dX8_insert_55 rfl (by decide)) ?_
  refine tok_cons (snd_iload dX8_insert_57 rfl) ?_
  refine tok_cons (snd_iconst dX8_insert_59 rfl (inr_d rfl) rfl) ?_
  refine tok_cons (snd_icmp_ge dX8_insert_60 (by decide) rfl) ?_
  refine tok_cons (snd_aload_n dX8_insert_63 rfl rfl) ?_
  refine tok_cons (snd_gr (C := RX8) (T := TX8) (N := 21) dX8_insert_64 rfl (by decide) rfl wf8_7 inX8 rfl) ?_
  refine tok_cons (snd_iconst dX8_insert_67 rfl (inr_d rfl) rfl) ?_
  refine tok_cons (snd_iald dX8_insert_68 rfl) ?_
  refine tok_cons (snd_istore dX8_insert_69 rfl (by decide)) ?_
  refine tok_cons (snd_iload dX8_insert_71 rfl) ?_
  refine tok_cons (snd_iload_n dX8_insert_73 rfl rfl) ?_
  refine tok_cons (snd_icmp_le dX8_insert_74 (by decide) rfl) ?_
  refine tok_cons (snd_aload_n dX8_insert_77 rfl rfl) ?_
  refine tok_cons (snd_gr (C := RX8) (T := TX8) (N := 21) dX8_insert_78 rfl (by decide) rfl wf8_7 inX8 rfl) ?_
  refine tok_cons (snd_iconst dX8_insert_81 rfl (inr_d rfl) rfl) ?_
  refine tok_cons (snd_bipush dX8_insert_82 (by decide) (inr_d rfl) rfl) ?_
  refine tok_cons (snd_iload dX8_insert_84 rfl) ?_
  refine tok_cons (snd_mul dX8_insert_86 rfl) ?_
  refine tok_cons (snd_add dX8_insert_87 rfl) ?_
  refine tok_cons (snd_iload dX8_insert_88 rfl) ?_
  refine tok_cons (snd_add dX8_insert_90 rfl) ?_
  refine tok_cons (snd_aload_n dX8_insert_91 rfl rfl) ?_
  refine tok_cons (snd_gr (C := RX8) (T := TX8) (N := 21) dX8_insert_92 rfl (by decide) rfl wf8_7 inX8 rfl) ?_
  refine tok_cons (snd_iconst dX8_insert_95 rfl (inr_d rfl) rfl) ?_
  refine tok_cons (snd_bipush dX8_insert_96 (by decide) (inr_d rfl) rfl) ?_
  refine tok_cons (snd_iload dX8_insert_98 rfl) ?_
  refine tok_cons (snd_mul dX8_insert_100 rfl) ?_
  refine tok_cons (snd_add dX8_insert_101 rfl) ?_
  refine tok_cons (snd_iload dX8_insert_102 rfl) ?_
  refine tok_cons (snd_add dX8_insert_104 rfl) ?_
  refine tok_cons (snd_iconst dX8_insert_105 rfl (inr_d rfl) rfl) ?_
  refine tok_cons (snd_sub dX8_insert_106 rfl) ?_
  refine tok_cons (snd_iald dX8_insert_107 rfl) ?_
  refine tok_cons (snd_iast dX8_insert_108 rfl) ?_
  refine tok_cons (snd_iinc dX8_insert_109 rfl rfl (by decide)) ?_
  refine tok_cons (snd_goto dX8_insert_112 (by decide)) ?_
  refine tok_cons (snd_iinc dX8_insert_115 rfl rfl (by decide)) ?_
  refine tok_cons (snd_goto dX8_insert_118 (by decide)) ?_
  refine tok_cons (snd_aload_n dX8_insert_121 rfl rfl) ?_
  refine tok_cons (snd_gr (C := RX8) (T := TX8) (N := 21) dX8_insert_122 rfl (by decide) rfl wf8_7 inX8 rfl) ?_
  refine tok_cons (snd_iconst dX8_insert_125 rfl (inr_d rfl) rfl) ?_
  refine tok_cons (snd_iload_n dX8_insert_126 rfl rfl) ?_
  refine tok_cons (snd_add dX8_insert_127 rfl) ?_
  refine tok_cons (snd_iload_n dX8_insert_128 rfl rfl) ?_
  refine tok_cons (snd_iast dX8_insert_129 rfl) ?_
  refine tok_cons (snd_aload_n dX8_insert_130 rfl rfl) ?_
  refine tok_cons (snd_gr (C := RX8) (T := TX8) (N := 21) dX8_insert_131 rfl (by decide) rfl wf8_7 inX8 rfl) ?_
  refine tok_cons (snd_bipush dX8_insert_134 (by decide) (inr_d rfl) rfl) ?_
  refine tok_cons (snd_iload_n dX8_insert_136 rfl rfl) ?_
  refine tok_cons (snd_add dX8_insert_137 rfl) ?_
  refine tok_cons (snd_iload_n dX8_insert_138 rfl rfl) ?_
  refine tok_cons (snd_iast dX8_insert_139 rfl) ?_
  refine tok_cons (snd_aload_n dX8_insert_140 rfl rfl) ?_
  refine tok_cons (snd_gr (C := RX8) (T := TX8) (N := 21) dX8_insert_141 rfl (by decide) rfl wf8_7 inX8 rfl) ?_
  refine tok_cons (snd_bipush dX8_insert_144 (by decide) (inr_d rfl) rfl) ?_
  refine tok_cons (snd_iload_n dX8_insert_146 rfl rfl) ?_
  refine tok_cons (snd_add dX8_insert_147 rfl) ?_
  refine tok_cons (snd_iconst dX8_insert_148 rfl (inr_d rfl) rfl) ?_
  refine tok_cons (snd_iast dX8_insert_149 rfl) ?_
  refine tok_cons (snd_aload_n dX8_insert_150 rfl rfl) ?_
  refine tok_cons (snd_gr (C := RX8) (T := TX8) (N := 21) dX8_insert_151 rfl (by decide) rfl wf8_7 inX8 rfl) ?_
  refine tok_cons (snd_bipush dX8_insert_154 (by decide) (inr_d rfl) rfl) ?_
  refine tok_cons (snd_iload_n dX8_insert_156 rfl rfl) ?_
  refine tok_cons (snd_add dX8_insert_157 rfl) ?_
  refine tok_cons (snd_iconst dX8_insert_158 rfl (inr_d rfl) rfl) ?_
  refine tok_cons (snd_iast dX8_insert_159 rfl) ?_
  refine tok_cons (snd_iconst dX8_insert_160 rfl (inr_d rfl) rfl) ?_
  refine tok_cons (snd_istore dX8_insert_161 rfl (by decide)) ?_
  refine tok_cons (snd_iload dX8_insert_163 rfl) ?_
  refine tok_cons (snd_bipush dX8_insert_165 (by decide) (inr_d rfl) rfl) ?_
  refine tok_cons (snd_icmp_ge dX8_insert_167 (by decide) rfl) ?_
  refine tok_cons (snd_aload_n dX8_insert_170 rfl rfl) ?_
  refine tok_cons (snd_gr (C := RX8) (T := TX8) (N := 21) dX8_insert_171 rfl (by decide) rfl wf8_7 inX8 rfl) ?_
  refine tok_cons (snd_bipush dX8_insert_174 (by decide) (inr_d rfl) rfl) ?_
  refine tok_cons (snd_iload dX8_insert_176 rfl) ?_
  refine tok_cons (snd_add dX8_insert_178 rfl) ?_
  refine tok_cons (snd_dup2 dX8_insert_179 rfl) ?_
  refine tok_cons (snd_iald dX8_insert_180 rfl) ?_
  refine tok_cons (snd_iload dX8_insert_181 rfl) ?_
  refine tok_cons (snd_bipush dX8_insert_183 (by decide) (inr_d rfl) rfl) ?_
  refine tok_cons (snd_rem dX8_insert_185 rfl) ?_
  refine tok_cons (snd_aload_n dX8_insert_186 rfl rfl) ?_
  refine tok_cons (snd_gr (C := RX8) (T := TX8) (N := 21) dX8_insert_187 rfl (by decide) rfl wf8_7 inX8 rfl) ?_
  refine tok_cons (snd_bipush dX8_insert_190 (by decide) (inr_d rfl) rfl) ?_
  refine tok_cons (snd_iload dX8_insert_192 rfl) ?_
  refine tok_cons (snd_bipush dX8_insert_194 (by decide) (inr_d rfl) rfl) ?_
  refine tok_cons (snd_div dX8_insert_196 rfl) ?_
  refine tok_cons (snd_add dX8_insert_197 rfl) ?_
  refine tok_cons (snd_iald dX8_insert_198 rfl) ?_
  refine tok_cons (snd_icmp_ge dX8_insert_199 (by decide) rfl) ?_
  refine tok_cons (snd_aload_n dX8_insert_202 rfl rfl) ?_
  refine tok_cons (snd_gr (C := RX8) (T := TX8) (N := 21) dX8_insert_203 rfl (by decide) rfl wf8_7 inX8 rfl) ?_
  refine tok_cons (snd_bipush dX8_insert_206 (by decide) (inr_d rfl) rfl) ?_
  refine tok_cons (snd_iload dX8_insert_208 rfl) ?_
  refine tok_cons (snd_add dX8_insert_210 rfl) ?_
  refine tok_cons (snd_iald dX8_insert_211 rfl) ?_
  refine tok_cons (snd_iload_n dX8_insert_212 rfl rfl) ?_
  refine tok_cons (snd_icmp_lt dX8_insert_213 (by decide) rfl) ?_
  refine tok_cons (snd_iconst dX8_insert_216 rfl (inr_d rfl) rfl) ?_
  refine tok_cons (snd_goto dX8_insert_217 (by decide)) ?_
  refine tok_cons (snd_iconst dX8_insert_220 rfl (inr_d rfl) rfl) ?_
  refine tok_cons (snd_add dX8_insert_221 rfl) ?_
  refine tok_cons (snd_iast dX8_insert_222 rfl) ?_
  refine tok_cons (snd_iinc dX8_insert_223 rfl rfl (by decide)) ?_
  refine tok_cons (snd_goto dX8_insert_226 (by decide)) ?_
  refine tok_cons (snd_aload_n dX8_insert_229 rfl rfl) ?_
  refine tok_cons (snd_gr (C := RX8) (T := TX8) (N := 21) dX8_insert_230 rfl (by decide) rfl wf8_7 inX8 rfl) ?_
  refine tok_cons (snd_iconst dX8_insert_233 rfl (inr_d rfl) rfl) ?_
  refine tok_cons (snd_dup2 dX8_insert_234 rfl) ?_
  refine tok_cons (snd_iald dX8_insert_235 rfl) ?_
  refine tok_cons (snd_iconst dX8_insert_236 rfl (inr_d rfl) rfl) ?_
  refine tok_cons (snd_add dX8_insert_237 rfl) ?_
  refine tok_cons (snd_iast dX8_insert_238 rfl) ?_
  refine tok_cons (snd_aload_n dX8_insert_239 rfl rfl) ?_
  refine tok_cons (snd_gr (C := RX8) (T := TX8) (N := 21) dX8_insert_240 rfl (by decide) rfl wf8_7 inX8 rfl) ?_
  refine tok_cons (snd_iconst dX8_insert_243 rfl (inr_d rfl) rfl) ?_
  refine tok_cons (snd_iald dX8_insert_244 rfl) ?_
  refine tok_cons (snd_iret dX8_insert_245 rfl) ?_
  exact tok_nil
def tab_8_set (X : XT) : Tab := [(0, false, a_iload 1 1), (1, false, a_const 0 2), (2, false, a_const 5 3), (3, false, a_sv X M_8_set M_8_in 3 6), (6, false, a_if 0 28 9), (9, false, a_iload 2 10), (10, false, a_aload 0 11), (11, false, a_gr 8 3 14), (14, false, a_iload 1 15), (15, false, a_ald false 16), (16, false, a_aload 0 17), (17, false, a_gr 8 4 20), (20, false, a_iload 1 21), (21, false, a_ald false 22), (22, false, a_sv X M_8_set M_8_in 3 25), (25, false, a_if 1 30 28), (28, false, a_const (-1) 29), (29, false, a_iret M_8_set), (30, false, a_aload 0 31), (31, false, a_cn X M_8_set M_8_records 8 1 34), (34, false, a_aload 0 35), (35, false, a_gr 8 0 38), (38, false, a_const 81 40), (40, false, a_iload 1 41), (41, false, a_add 42), (42, false, a_ald false 43), (43, false, a_istore 3 44), (44, false, a_aload 0 45), (45, false, a_gr 8 0 48), (48, false, a_const 81 50), (50, false, a_iload 1 51), (51, false, a_add 52), (52, false, a_iload 2 53), (53, false, a_ast false 54), (54, false, a_iload 3 55), (55, false, a_iret M_8_set)]
set_option maxRecDepth 20000 in
theorem t_8_set (X : XT) : tget (tab_8_set X) 0 = some (false, a_iload 1 1) ∧ tget (tab_8_set X) 1 = some (false, a_const 0 2) ∧ tget (tab_8_set X) 2 = some (false, a_const 5 3) ∧ tget (tab_8_set X) 3 = some (false, a_sv X M_8_set M_8_in 3 6) ∧ tget (tab_8_set X) 6 = some (false, a_if 0 28 9) ∧ tget (tab_8_set X) 9 = some (false, a_iload 2 10) ∧ tget (tab_8_set X) 10 = some (false, a_aload 0 11) ∧ tget (tab_8_set X) 11 = some (false, a_gr 8 3 14) ∧ tget (tab_8_set X) 14 = some (false, a_iload 1 15) ∧ tget (tab_8_set X) 15 = some (false, a_ald false 16) ∧ tget (tab_8_set X) 16 = some (false, a_aload 0 17) ∧ tget (tab_8_set X) 17 = some (false, a_gr 8 4 20) ∧ tget (tab_8_set X) 20 = some (false, a_iload 1 21) ∧ tget (tab_8_set X) 21 = some (false, a_ald false 22) ∧ tget (tab_8_set X) 22 = some (false, a_sv X M_8_set M_8_in 3 25) ∧ tget (tab_8_set X) 25 = some (false, a_if 1 30 28) ∧ tget (tab_8_set X) 28 = some (false, a_const (-1) 29) ∧ tget (tab_8_set X) 29 = some (false, a_iret M_8_set) ∧ tget (tab_8_set X) 30 = some (false, a_aload 0 31) ∧ tget (tab_8_set X) 31 = some (false, a_cn X M_8_set M_8_records 8 1 34) ∧ tget (tab_8_set X) 34 = some (false, a_aload 0 35) ∧ tget (tab_8_set X) 35 = some (false, a_gr 8 0 38) ∧ tget (tab_8_set X) 38 = some (false, a_const 81 40) ∧ tget (tab_8_set X) 40 = some (false, a_iload 1 41) ∧ tget (tab_8_set X) 41 = some (false, a_add 42) ∧ tget (tab_8_set X) 42 = some (false, a_ald false 43) ∧ tget (tab_8_set X) 43 = some (false, a_istore 3 44) ∧ tget (tab_8_set X) 44 = some (false, a_aload 0 45) ∧ tget (tab_8_set X) 45 = some (false, a_gr 8 0 48) ∧ tget (tab_8_set X) 48 = some (false, a_const 81 50) ∧ tget (tab_8_set X) 50 = some (false, a_iload 1 51) ∧ tget (tab_8_set X) 51 = some (false, a_add 52) ∧ tget (tab_8_set X) 52 = some (false, a_iload 2 53) ∧ tget (tab_8_set X) 53 = some (false, a_ast false 54) ∧ tget (tab_8_set X) 54 = some (false, a_iload 3 55) ∧ tget (tab_8_set X) 55 = some (false, a_iret M_8_set) := ⟨rfl, rfl, rfl, rfl, rfl, rfl, rfl, rfl, rfl, rfl, rfl, rfl, rfl, rfl, rfl, rfl, rfl, rfl, rfl, rfl, rfl, rfl, rfl, rfl, rfl, rfl, rfl, rfl, rfl, rfl, rfl, rfl, rfl, rfl, rfl, rfl⟩
theorem tok_8_set (X : XT) : TabOK X M_8_set (tab_8_set X) := by
  unfold tab_8_set
  refine tok_cons (snd_iload_n dX8_set_0 rfl rfl) ?_
  refine tok_cons (snd_iconst dX8_set_1 rfl (inr_d rfl) rfl) ?_
  refine tok_cons (snd_iconst dX8_set_2 rfl (inr_d rfl) rfl) ?_
  refine tok_cons (snd_sv dX8_set_3 mok_8_in ⟨ws_8_in, Or.inl ⟨wm8_62, rfl⟩⟩ pn_8_in (by decide) ⟨rfl, rfl⟩ rfl) ?_
  refine tok_cons (snd_if_eq dX8_set_6 (by decide) rfl) ?_
  refine tok_cons (snd_iload_n dX8_set_9 rfl rfl) ?_
  refine tok_cons (snd_aload_n dX8_set_10 rfl rfl) ?_
  refine tok_cons (snd_gr (C := RX8) (T := TX8) (N := 21) dX8_set_11 rfl (by decide) rfl wf8_16 inX8 rfl) ?_
  refine tok_cons (snd_iload_n dX8_set_14 rfl rfl) ?_
  refine tok_cons (snd_iald dX8_set_15 rfl) ?_
  refine tok_cons (snd_aload_n dX8_set_16 rfl rfl) ?_
  refine tok_cons (snd_gr (C := RX8) (T := TX8) (N := 21) dX8_set_17 rfl (by decide) rfl wf8_19 inX8 rfl) ?_
  refine tok_cons (snd_iload_n dX8_set_20 rfl rfl) ?_
  refine tok_cons (snd_iald dX8_set_21 rfl) ?_
  refine tok_cons (snd_sv dX8_set_22 mok_8_in ⟨ws_8_in, Or.inl ⟨wm8_62, rfl⟩⟩ pn_8_in (by decide) ⟨rfl, rfl⟩ rfl) ?_
  refine tok_cons (snd_if_ne dX8_set_25 (by decide) rfl) ?_
  refine tok_cons (snd_iconst dX8_set_28 rfl (inr_d rfl) rfl) ?_
  refine tok_cons (snd_iret dX8_set_29 rfl) ?_
  refine tok_cons (snd_aload_n dX8_set_30 rfl rfl) ?_
  refine tok_cons (snd_cn dX8_set_31 mok_8_records ⟨wm8_81, wi_8_records, wl_8_records⟩ (rc := (RX8, TX8, 21)) rfl rfl pn_8_records (by decide) ⟨rfl, rfl⟩ rfl) ?_
  refine tok_cons (snd_aload_n dX8_set_34 rfl rfl) ?_
  refine tok_cons (snd_gr (C := RX8) (T := TX8) (N := 21) dX8_set_35 rfl (by decide) rfl wf8_7 inX8 rfl) ?_
  refine tok_cons (snd_bipush dX8_set_38 (by decide) (inr_d rfl) rfl) ?_
  refine tok_cons (snd_iload_n dX8_set_40 rfl rfl) ?_
  refine tok_cons (snd_add dX8_set_41 rfl) ?_
  refine tok_cons (snd_iald dX8_set_42 rfl) ?_
  refine tok_cons (snd_istore_n dX8_set_43 rfl rfl (by decide)) ?_
  refine tok_cons (snd_aload_n dX8_set_44 rfl rfl) ?_
  refine tok_cons (snd_gr (C := RX8) (T := TX8) (N := 21) dX8_set_45 rfl (by decide) rfl wf8_7 inX8 rfl) ?_
  refine tok_cons (snd_bipush dX8_set_48 (by decide) (inr_d rfl) rfl) ?_
  refine tok_cons (snd_iload_n dX8_set_50 rfl rfl) ?_
  refine tok_cons (snd_add dX8_set_51 rfl) ?_
  refine tok_cons (snd_iload_n dX8_set_52 rfl rfl) ?_
  refine tok_cons (snd_iast dX8_set_53 rfl) ?_
  refine tok_cons (snd_iload_n dX8_set_54 rfl rfl) ?_
  refine tok_cons (snd_iret dX8_set_55 rfl) ?_
  exact tok_nil
def tab_8_beginning (X : XT) : Tab := [(0, false, a_aload 0 1), (1, false, a_cv X M_8_beginning M_8_segmentsOfLast 8 1 4), (4, false, a_if 1 9 7), (7, false, a_const 0 8), (8, false, a_iret M_8_beginning), (9, false, a_aload 0 10), (10, false, a_gi 8 5 5 13), (13, false, a_const 1 14), (14, false, a_sub 15), (15, false, a_istore 2 16), (16, false, a_aload 0 17), (17, false, a_gr 8 8 20), (20, false, a_const 2 21), (21, false, a_iload 2 22), (22, false, a_mul 23), (23, false, a_iload 1 24), (24, false, a_add 25), (25, false, a_ald false 26), (26, false, a_istore 3 27), (27, false, a_aload 0 28), (28, false, a_gr 8 8 31), (31, false, a_const 2 32), (32, false, a_iload 2 33), (33, false, a_mul 34), (34, false, a_const 1 35), (35, false, a_add 36), (36, false, a_iload 1 37), (37, false, a_sub 38), (38, false, a_ald false 39), (39, false, a_istore 4 41), (41, false, a_aload 0 42), (42, false, a_gr 8 0 45), (45, false, a_const 86 47), (47, false, a_ald false 48), (48, false, a_const 1 49), (49, false, a_icmp 1 63 52), (52, false, a_iload 4 54), (54, false, a_iload 3 55), (55, false, a_icmp 5 63 58), (58, false, a_iload 4 60), (60, false, a_goto 64), (63, false, a_iload 3 64), (64, false, a_istore 5 66), (66, false, a_aload 0 67), (67, false, a_gr 8 9 70), (70, false, a_const 2 71), (71, false, a_iload 2 72), (72, false, a_mul 73), (73, false, a_iload 1 74), (74, false, a_add 75), (75, false, a_ald false 76), (76, false, a_iload 5 78), (78, false, a_add 79), (79, false, a_aload 0 80), (80, false, a_gr 8 0 83), (83, false, a_const 82 85), (85, false, a_ald false 86), (86, false, a_add 87), (87, false, a_iret M_8_beginning)]
set_option maxRecDepth 20000 in
theorem t_8_beginning (X : XT) : tget (tab_8_beginning X) 0 = some (false, a_aload 0 1) ∧ tget (tab_8_beginning X) 1 = some (false, a_cv X M_8_beginning M_8_segmentsOfLast 8 1 4) ∧ tget (tab_8_beginning X) 4 = some (false, a_if 1 9 7) ∧ tget (tab_8_beginning X) 7 = some (false, a_const 0 8) ∧ tget (tab_8_beginning X) 8 = some (false, a_iret M_8_beginning) ∧ tget (tab_8_beginning X) 9 = some (false, a_aload 0 10) ∧ tget (tab_8_beginning X) 10 = some (false, a_gi 8 5 5 13) ∧ tget (tab_8_beginning X) 13 = some (false, a_const 1 14) ∧ tget (tab_8_beginning X) 14 = some (false, a_sub 15) ∧ tget (tab_8_beginning X) 15 = some (false, a_istore 2 16) ∧ tget (tab_8_beginning X) 16 = some (false, a_aload 0 17) ∧ tget (tab_8_beginning X) 17 = some (false, a_gr 8 8 20) ∧ tget (tab_8_beginning X) 20 = some (false, a_const 2 21) ∧ tget (tab_8_beginning X) 21 = some (false, a_iload 2 22) ∧ tget (tab_8_beginning X) 22 = some (false, a_mul 23) ∧ tget (tab_8_beginning X) 23 = some (false, a_iload 1 24) ∧ tget (tab_8_beginning X) 24 = some (false, a_add 25) ∧ tget (tab_8_beginning X) 25 = some (false, a_ald false 26) ∧ tget (tab_8_beginning X) 26 = some (false, a_istore 3 27) ∧ tget (tab_8_beginning X) 27 = some (false, a_aload 0 28) ∧ tget (tab_8_beginning X) 28 = some (false, a_gr 8 8 31) ∧ tget (tab_8_beginning X) 31 = some (false, a_const 2 32) ∧ tget (tab_8_beginning X) 32 = some (false, a_iload 2 33) ∧ tget (tab_8_beginning X) 33 = some (false, a_mul 34) ∧ tget (tab_8_beginning X) 34 = some (false, a_const 1 35) ∧ tget (tab_8_beginning X) 35 = some (false, a_add 36) ∧ tget (tab_8_beginning X) 36 = some (false, a_iload 1 37) ∧ tget (tab_8_beginning X) 37 = some (false, a_sub 38) ∧ tget (tab_8_beginning X) 38 = some (false, a_ald false 39) ∧ tget (tab_8_beginning X) 39 = some (false, a_istore 4 41) ∧ tget (tab_8_beginning X) 41 = some (false, a_aload 0 42) ∧ tget (tab_8_beginning X) 42 = some (false, a_gr 8 0 45) ∧ tget (tab_8_beginning X) 45 = some (false, a_const 86 47) ∧ tget (tab_8_beginning X) 47 = some (false, a_ald false 48) ∧ tget (tab_8_beginning X) 48 = some (false, a_const 1 49) ∧ tget (tab_8_beginning X) 49 = some (false, a_icmp 1 63 52) ∧ tget (tab_8_beginning X) 52 = some (false, a_iload 4 54) ∧ tget (tab_8_beginning X) 54 = some (false, a_iload 3 55) ∧ tget (tab_8_beginning X) 55 = some (false, a_icmp 5 63 58) ∧ tget (tab_8_beginning X) 58 = some (false, a_iload 4 60) ∧ tget (tab_8_beginning X) 60 = some (false, a_goto 64) ∧ tget (tab_8_beginning X) 63 = some (false, a_iload 3 64) ∧ tget (tab_8_beginning X) 64 = some (false, a_istore 5 66) ∧ tget (tab_8_beginning X) 66 = some (false, a_aload 0 67) ∧ tget (tab_8_beginning X) 67 = some (false, a_gr 8 9 70) ∧ tget (tab_8_beginning X) 70 = some (false, a_const 2 71) ∧ tget (tab_8_beginning X) 71 = some (false, a_iload 2 72) ∧ tget (tab_8_beginning X) 72 = some (false, a_mul 73) ∧ tget (tab_8_beginning X) 73 = some (false, a_iload 1 74) ∧ tget (tab_8_beginning X) 74 = some (false, a_add 75) ∧ tget (tab_8_beginning X) 75 = some (false, a_ald false 76) ∧ tget (tab_8_beginning X) 76 = some (false, a_iload 5 78) ∧ tget (tab_8_beginning X) 78 = some (false, a_add 79) ∧ tget (tab_8_beginning X) 79 = some (false, a_aload 0 80) ∧ tget (tab_8_beginning X) 80 = some (false, a_gr 8 0 83) ∧ tget (tab_8_beginning X) 83 = some (false, a_const 82 85) ∧ tget (tab_8_beginning X) 85 = some (false, a_ald false 86) ∧ tget (tab_8_beginning X) 86 = some (false, a_add 87) ∧ tget (tab_8_beginning X) 87 = some (false, a_iret M_8_beginning) := ⟨rfl, rfl, rfl, rfl, rfl, rfl, rfl, rfl, rfl, rfl, rfl, rfl, rfl, rfl, rfl, rfl, rfl, rfl, rfl, rfl, rfl, rfl, rfl, rfl, rfl, rfl, rfl, rfl, rfl, rfl, rfl, rfl, rfl, rfl, rfl, rfl, rfl, rfl, rfl, rfl, rfl, rfl, rfl, rfl, rfl, rfl, rfl, rfl, rfl, rfl, rfl, rfl, rfl, rfl, rfl, rfl, rfl, rfl, rfl⟩
theorem tok_8_beginning (X : XT) : TabOK X M_8_beginning (tab_8_beginning X) := by
  unfold tab_8_beginning
  refine tok_cons (snd_aload_n dX8_beginning_0 rfl rfl) ?_
  refine tok_cons (snd_cv dX8_beginning_1 mok_8_segmentsOfLast ⟨wm8_101, wi_8_segmentsOfLast, wl_8_segmentsOfLast⟩ (rc := (RX8, TX8, 21)) rfl rfl pn_8_segmentsOfLast (by decide) ⟨rfl, rfl⟩ rfl) ?_
  refine tok_cons (snd_if_ne dX8_beginning_4 (by decide) rfl) ?_
  refine tok_cons (snd_iconst dX8_beginning_7 rfl (inr_d rfl) rfl) ?_
  refine tok_cons (snd_iret dX8_beginning_8 rfl) ?_
  refine tok_cons (snd_aload_n dX8_beginning_9 rfl rfl) ?_
  refine tok_cons (snd_gi (C := RX8) (T := TX8) (N := 21) dX8_beginning_10 rfl (by decide) rfl wf8_95 inX8 rfl rfl) ?_
  refine tok_cons (snd_iconst dX8_beginning_13 rfl (inr_d rfl) rfl) ?_
  refine tok_cons (snd_sub dX8_beginning_14 rfl) ?_
  refine tok_cons (snd_istore_n dX8_beginning_15 rfl rfl (by decide)) ?_
  refine tok_cons (snd_aload_n dX8_beginning_16 rfl rfl) ?_
  refine tok_cons (snd_gr (C := RX8) (T := TX8) (N := 21) dX8_beginning_17 rfl (by decide) rfl wf8_28 inX8 rfl) ?_
  refine tok_cons (snd_iconst dX8_beginning_20 rfl (inr_d rfl) rfl) ?_
  refine tok_cons (snd_iload_n dX8_beginning_21 rfl rfl) ?_
  refine tok_cons (snd_mul dX8_beginning_22 rfl) ?_
  refine tok_cons (snd_iload_n dX8_beginning_23 rfl rfl) ?_
  refine tok_cons (snd_add dX8_beginning_24 rfl) ?_
  refine tok_cons (snd_iald dX8_beginning_25 rfl) ?_
  refine tok_cons (snd_istore_n dX8_beginning_26 rfl rfl (by decide)) ?_
  refine tok_cons (snd_aload_n dX8_beginning_27 rfl rfl) ?_
  refine tok_cons (snd_gr (C := RX8) (T := TX8) (N := 21) dX8_beginning_28 rfl (by decide) rfl wf8_28 inX8 rfl) ?_
  refine tok_cons (snd_iconst dX8_beginning_31 rfl (inr_d rfl) rfl) ?_
  refine tok_cons (snd_iload_n dX8_beginning_32 rfl rfl) ?_
  refine tok_cons (snd_mul dX8_beginning_33 rfl) ?_
  refine tok_cons (snd_iconst dX8_beginning_34 rfl (inr_d rfl) rfl) ?_
  refine tok_cons (snd_add dX8_beginning_35 rfl) ?_
  refine tok_cons (snd_iload_n dX8_beginning_36 rfl rfl) ?_
  refine tok_cons (snd_sub dX8_beginning_37 rfl) ?_
  refine tok_cons (snd_iald dX8_beginning_38 rfl) ?_
  refine tok_cons (snd_istore dX8_beginning_39 rfl (by decide)) ?_
  refine tok_cons (snd_aload_n dX8_beginning_41 rfl rfl) ?_
  refine tok_cons (snd_gr (C := RX8) (T := TX8) (N := 21) dX8_beginning_42 rfl (by decide) rfl wf8_7 inX8 rfl) ?_
  refine tok_cons (snd_bipush dX8_beginning_45 (by decide) (inr_d rfl) rfl) ?_
  refine tok_cons (snd_iald dX8_beginning_47 rfl) ?_
  refine tok_cons (snd_iconst dX8_beginning_48 rfl (inr_d rfl) rfl) ?_
  refine tok_cons (snd_icmp_ne dX8_beginning_49 (by decide) rfl) ?_
  refine tok_cons (snd_iload dX8_beginning_52 rfl) ?_
  refine tok_cons (snd_iload_n dX8_beginning_54 rfl rfl) ?_
  refine tok_cons (snd_icmp_le dX8_beginning_55 (by decide) rfl) ?_
  refine tok_cons (snd_iload dX8_beginning_58 rfl) ?_
  refine tok_cons (snd_goto dX8_beginning_60 (by decide)) ?_
  refine tok_cons (snd_iload_n dX8_beginning_63 rfl rfl) ?_
  refine tok_cons (snd_istore dX8_beginning_64 rfl (by decide)) ?_
  refine tok_cons (snd_aload_n dX8_beginning_66 rfl rfl) ?_
  refine tok_cons (snd_gr (C := RX8) (T := TX8) (N := 21) dX8_beginning_67 rfl (by decide) rfl wf8_31 inX8 rfl) ?_
  refine tok_cons (snd_iconst dX8_beginning_70 rfl (inr_d rfl) rfl) ?_
  refine tok_cons (snd_iload_n dX8_beginning_71 rfl rfl) ?_
  refine tok_cons (snd_mul dX8_beginning_72 rfl) ?_
  refine tok_cons (snd_iload_n dX8_beginning_73 rfl rfl) ?_
  refine tok_cons (snd_add dX8_beginning_74 rfl) ?_
  refine tok_cons (snd_iald dX8_beginning_75 rfl) ?_
  refine tok_cons (snd_iload dX8_beginning_76 rfl) ?_
  refine tok_cons (snd_add dX8_beginning_78 rfl) ?_
  refine tok_cons (snd_aload_n dX8_beginning_79 rfl rfl) ?_
  refine tok_cons (snd_gr (C := RX8) (T := TX8) (N := 21) dX8_beginning_80 rfl (by decide) rfl wf8_7 inX8 rfl) ?_
  refine tok_cons (snd_bipush dX8_beginning_83 (by decide) (inr_d rfl) rfl) ?_
  refine tok_cons (snd_iald dX8_beginning_85 rfl) ?_
  refine tok_cons (snd_add dX8_beginning_86 rfl) ?_
  refine tok_cons (snd_iret dX8_beginning_87 rfl) ?_
  exact tok_nil
def tab_8_notedLines (X : XT) : Tab := [(0, false, a_aload 0 1), (1, false, a_aload 0 2), (2, false, a_gi 8 10 10 5), (5, false, a_iload 1 6), (6, false, a_cv X M_8_notedLines M_8_carriedTo 8 3 9), (9, false, a_istore 3 10), (10, false, a_aload 0 11), (11, false, a_gr 8 16 14), (14, false, a_const 2 15), (15, false, a_aload 0 16), (16, false, a_gi 8 10 10 19), (19, false, a_mul 20), (20, false, a_iload 1 21), (21, false, a_add 22), (22, false, a_ald false 23), (23, false, a_istore 4 25), (25, true, a_iload 4 27), (27, false, a_iload 2 28), (28, false, a_icmp 3 47 31), (31, false, a_iload 3 32), (32, false, a_aload 0 33), (33, false, a_iload 1 34), (34, false, a_iload 4 36), (36, false, a_cv X M_8_notedLines M_8_noteLong 8 3 39), (39, false, a_add 40), (40, false, a_istore 3 41), (41, false, a_iinc 4 1 44), (44, false, a_goto 25), (47, false, a_iload 3 48), (48, false, a_iret M_8_notedLines)]
set_option maxRecDepth 20000 in
theorem t_8_notedLines (X : XT) : tget (tab_8_notedLines X) 0 = some (false, a_aload 0 1) ∧ tget (tab_8_notedLines X) 1 = some (false, a_aload 0 2) ∧ tget (tab_8_notedLines X) 2 = some (false, a_gi 8 10 10 5) ∧ tget (tab_8_notedLines X) 5 = some (false, a_iload 1 6) ∧ tget (tab_8_notedLines X) 6 = some (false, a_cv X M_8_notedLines M_8_carriedTo 8 3 9) ∧ tget (tab_8_notedLines X) 9 = some (false, a_istore 3 10) ∧ tget (tab_8_notedLines X) 10 = some (false, a_aload 0 11) ∧ tget (tab_8_notedLines X) 11 = some (false, a_gr 8 16 14) ∧ tget (tab_8_notedLines X) 14 = some (false, a_const 2 15) ∧ tget (tab_8_notedLines X) 15 = some (false, a_aload 0 16) ∧ tget (tab_8_notedLines X) 16 = some (false, a_gi 8 10 10 19) ∧ tget (tab_8_notedLines X) 19 = some (false, a_mul 20) ∧ tget (tab_8_notedLines X) 20 = some (false, a_iload 1 21) ∧ tget (tab_8_notedLines X) 21 = some (false, a_add 22) ∧ tget (tab_8_notedLines X) 22 = some (false, a_ald false 23) ∧ tget (tab_8_notedLines X) 23 = some (false, a_istore 4 25) ∧ tget (tab_8_notedLines X) 25 = some (true, a_iload 4 27) ∧ tget (tab_8_notedLines X) 27 = some (false, a_iload 2 28) ∧ tget (tab_8_notedLines X) 28 = some (false, a_icmp 3 47 31) ∧ tget (tab_8_notedLines X) 31 = some (false, a_iload 3 32) ∧ tget (tab_8_notedLines X) 32 = some (false, a_aload 0 33) ∧ tget (tab_8_notedLines X) 33 = some (false, a_iload 1 34) ∧ tget (tab_8_notedLines X) 34 = some (false, a_iload 4 36) ∧ tget (tab_8_notedLines X) 36 = some (false, a_cv X M_8_notedLines M_8_noteLong 8 3 39) ∧ tget (tab_8_notedLines X) 39 = some (false, a_add 40) ∧ tget (tab_8_notedLines X) 40 = some (false, a_istore 3 41) ∧ tget (tab_8_notedLines X) 41 = some (false, a_iinc 4 1 44) ∧ tget (tab_8_notedLines X) 44 = some (false, a_goto 25) ∧ tget (tab_8_notedLines X) 47 = some (false, a_iload 3 48) ∧ tget (tab_8_notedLines X) 48 = some (false, a_iret M_8_notedLines) := ⟨rfl, rfl, rfl, rfl, rfl, rfl, rfl, rfl, rfl, rfl, rfl, rfl, rfl, rfl, rfl, rfl, rfl, rfl, rfl, rfl, rfl, rfl, rfl, rfl, rfl, rfl, rfl, rfl, rfl, rfl⟩
theorem tok_8_notedLines (X : XT) : TabOK X M_8_notedLines (tab_8_notedLines X) := by
  unfold tab_8_notedLines
  refine tok_cons (snd_aload_n dX8_notedLines_0 rfl rfl) ?_
  refine tok_cons (snd_aload_n dX8_notedLines_1 rfl rfl) ?_
  refine tok_cons (snd_gi (C := RX8) (T := TX8) (N := 21) dX8_notedLines_2 rfl (by decide) rfl wf8_98 inX8 rfl rfl) ?_
  refine tok_cons (snd_iload_n dX8_notedLines_5 rfl rfl) ?_
  refine tok_cons (snd_cv dX8_notedLines_6 mok_8_carriedTo ⟨wm8_105, wi_8_carriedTo, wl_8_carriedTo⟩ (rc := (RX8, TX8, 21)) rfl rfl pn_8_carriedTo (by decide) ⟨rfl, rfl⟩ rfl) ?_
  refine tok_cons (snd_istore_n dX8_notedLines_9 rfl rfl (by decide)) ?_
  refine tok_cons (snd_aload_n dX8_notedLines_10 rfl rfl) ?_
  refine tok_cons (snd_gr (C := RX8) (T := TX8) (N := 21) dX8_notedLines_11 rfl (by decide) rfl wf8_50 inX8 rfl) ?_
  refine tok_cons (snd_iconst dX8_notedLines_14 rfl (inr_d rfl) rfl) ?_
  refine tok_cons (snd_aload_n dX8_notedLines_15 rfl rfl) ?_
  refine tok_cons (snd_gi (C := RX8) (T := TX8) (N := 21) dX8_notedLines_16 rfl (by decide) rfl wf8_98 inX8 rfl rfl) ?_
  refine tok_cons (snd_mul dX8_notedLines_19 rfl) ?_
  refine tok_cons (snd_iload_n dX8_notedLines_20 rfl rfl) ?_
  refine tok_cons (snd_add dX8_notedLines_21 rfl) ?_
  refine tok_cons (snd_iald dX8_notedLines_22 rfl) ?_
  refine tok_cons (snd_istore dX8_notedLines_23 rfl (by decide)) ?_
  refine tok_cons (snd_iload dX8_notedLines_25 rfl) ?_
  refine tok_cons (snd_iload_n dX8_notedLines_27 rfl rfl) ?_
  refine tok_cons (snd_icmp_ge dX8_notedLines_28 (by decide) rfl) ?_
  refine tok_cons (snd_iload_n dX8_notedLines_31 rfl rfl) ?_
  refine tok_cons (snd_aload_n dX8_notedLines_32 rfl rfl) ?_
  refine tok_cons (snd_iload_n dX8_notedLines_33 rfl rfl) ?_
  refine tok_cons (snd_iload dX8_notedLines_34 rfl) ?_
  refine tok_cons (snd_cv dX8_notedLines_36 mok_8_noteLong ⟨wm8_108, wi_8_noteLong, wl_8_noteLong⟩ (rc := (RX8, TX8, 21)) rfl rfl pn_8_noteLong (by decide) ⟨rfl, rfl⟩ rfl) ?_
  refine tok_cons (snd_add dX8_notedLines_39 rfl) ?_
  refine tok_cons (snd_istore_n dX8_notedLines_40 rfl rfl (by decide)) ?_
  refine tok_cons (snd_iinc dX8_notedLines_41 rfl rfl (by decide)) ?_
  refine tok_cons (snd_goto dX8_notedLines_44 (by decide)) ?_
  refine tok_cons (snd_iload_n dX8_notedLines_47 rfl rfl) ?_
  refine tok_cons (snd_iret dX8_notedLines_48 rfl) ?_
  exact tok_nil
def tab_8_mostCarried (X : XT) : Tab := [(0, false, a_iload 2 1), (1, false, a_aload 0 2), (2, false, a_gr 8 16 5), (5, false, a_const 2 6), (6, false, a_aload 0 7), (7, false, a_gi 8 10 10 10), (10, false, a_mul 11), (11, false, a_iload 1 12), (12, false, a_add 13), (13, false, a_ald false 14), (14, false, a_icmp 1 19 17), (17, false, a_const 0 18), (18, false, a_iret M_8_mostCarried), (19, false, a_aload 0 20), (20, false, a_iload 1 21), (21, false, a_iload 2 22), (22, false, a_const 1 23), (23, false, a_sub 24), (24, false, a_cv X M_8_mostCarried M_8_noteLong 8 3 27), (27, false, a_const 1 28), (28, false, a_sub 29), (29, false, a_istore 3 30), (30, false, a_iload 3 31), (31, false, a_aload 0 32), (32, false, a_gr 8 0 35), (35, false, a_const 85 37), (37, false, a_ald false 38), (38, false, a_icmp 3 45 41), (41, false, a_iload 3 42), (42, false, a_goto 52), (45, false, a_aload 0 46), (46, false, a_gr 8 0 49), (49, false, a_const 85 51), (51, false, a_ald false 52), (52, false, a_iret M_8_mostCarried)]
set_option maxRecDepth 20000 in
theorem t_8_mostCarried (X : XT) : tget (tab_8_mostCarried X) 0 = some (false, a_iload 2 1) ∧ tget (tab_8_mostCarried X) 1 = some (false, a_aload 0 2) ∧ tget (tab_8_mostCarried X) 2 = some (false, a_gr 8 16 5) ∧ tget (tab_8_mostCarried X) 5 = some (false, a_const 2 6) ∧ tget (tab_8_mostCarried X) 6 = some (false, a_aload 0 7) ∧ tget (tab_8_mostCarried X) 7 = some (false, a_gi 8 10 10 10) ∧ tget (tab_8_mostCarried X) 10 = some (false, a_mul 11) ∧ tget (tab_8_mostCarried X) 11 = some (false, a_iload 1 12) ∧ tget (tab_8_mostCarried X) 12 = some (false, a_add 13) ∧ tget (tab_8_mostCarried X) 13 = some (false, a_ald false 14) ∧ tget (tab_8_mostCarried X) 14 = some (false, a_icmp 1 19 17) ∧ tget (tab_8_mostCarried X) 17 = some (false, a_const 0 18) ∧ tget (tab_8_mostCarried X) 18 = some (false, a_iret M_8_mostCarried) ∧ tget (tab_8_mostCarried X) 19 = some (false, a_aload 0 20) ∧ tget (tab_8_mostCarried X) 20 = some (false, a_iload 1 21) ∧ tget (tab_8_mostCarried X) 21 = some (false, a_iload 2 22) ∧ tget (tab_8_mostCarried X) 22 = some (false, a_const 1 23) ∧ tget (tab_8_mostCarried X) 23 = some (false, a_sub 24) ∧ tget (tab_8_mostCarried X) 24 = some (false, a_cv X M_8_mostCarried M_8_noteLong 8 3 27) ∧ tget (tab_8_mostCarried X) 27 = some (false, a_const 1 28) ∧ tget (tab_8_mostCarried X) 28 = some (false, a_sub 29) ∧ tget (tab_8_mostCarried X) 29 = some (false, a_istore 3 30) ∧ tget (tab_8_mostCarried X) 30 = some (false, a_iload 3 31) ∧ tget (tab_8_mostCarried X) 31 = some (false, a_aload 0 32) ∧ tget (tab_8_mostCarried X) 32 = some (false, a_gr 8 0 35) ∧ tget (tab_8_mostCarried X) 35 = some (false, a_const 85 37) ∧ tget (tab_8_mostCarried X) 37 = some (false, a_ald false 38) ∧ tget (tab_8_mostCarried X) 38 = some (false, a_icmp 3 45 41) ∧ tget (tab_8_mostCarried X) 41 = some (false, a_iload 3 42) ∧ tget (tab_8_mostCarried X) 42 = some (false, a_goto 52) ∧ tget (tab_8_mostCarried X) 45 = some (false, a_aload 0 46) ∧ tget (tab_8_mostCarried X) 46 = some (false, a_gr 8 0 49) ∧ tget (tab_8_mostCarried X) 49 = some (false, a_const 85 51) ∧ tget (tab_8_mostCarried X) 51 = some (false, a_ald false 52) ∧ tget (tab_8_mostCarried X) 52 = some (false, a_iret M_8_mostCarried) := ⟨rfl, rfl, rfl, rfl, rfl, rfl, rfl, rfl, rfl, rfl, rfl, rfl, rfl, rfl, rfl, rfl, rfl, rfl, rfl, rfl, rfl, rfl, rfl, rfl, rfl, rfl, rfl, rfl, rfl, rfl, rfl, rfl, rfl, rfl, rfl⟩
theorem tok_8_mostCarried (X : XT) : TabOK X M_8_mostCarried (tab_8_mostCarried X) := by
  unfold tab_8_mostCarried
  refine tok_cons (snd_iload_n dX8_mostCarried_0 rfl rfl) ?_
  refine tok_cons (snd_aload_n dX8_mostCarried_1 rfl rfl) ?_
  refine tok_cons (snd_gr (C := RX8) (T := TX8) (N := 21) dX8_mostCarried_2 rfl (by decide) rfl wf8_50 inX8 rfl) ?_
  refine tok_cons (snd_iconst dX8_mostCarried_5 rfl (inr_d rfl) rfl) ?_
  refine tok_cons (snd_aload_n dX8_mostCarried_6 rfl rfl) ?_
  refine tok_cons (snd_gi (C := RX8) (T := TX8) (N := 21) dX8_mostCarried_7 rfl (by decide) rfl wf8_98 inX8 rfl rfl) ?_
  refine tok_cons (snd_mul dX8_mostCarried_10 rfl) ?_
  refine tok_cons (snd_iload_n dX8_mostCarried_11 rfl rfl) ?_
  refine tok_cons (snd_add dX8_mostCarried_12 rfl) ?_
  refine tok_cons (snd_iald dX8_mostCarried_13 rfl) ?_
  refine tok_cons (snd_icmp_ne dX8_mostCarried_14 (by decide) rfl) ?_
  refine tok_cons (snd_iconst dX8_mostCarried_17 rfl (inr_d rfl) rfl) ?_
  refine tok_cons (snd_iret dX8_mostCarried_18 rfl) ?_
  refine tok_cons (snd_aload_n dX8_mostCarried_19 rfl rfl) ?_
  refine tok_cons (snd_iload_n dX8_mostCarried_20 rfl rfl) ?_
  refine tok_cons (snd_iload_n dX8_mostCarried_21 rfl rfl) ?_
  refine tok_cons (snd_iconst dX8_mostCarried_22 rfl (inr_d rfl) rfl) ?_
  refine tok_cons (snd_sub dX8_mostCarried_23 rfl) ?_
  refine tok_cons (snd_cv dX8_mostCarried_24 mok_8_noteLong ⟨wm8_108, wi_8_noteLong, wl_8_noteLong⟩ (rc := (RX8, TX8, 21)) rfl rfl pn_8_noteLong (by decide) ⟨rfl, rfl⟩ rfl) ?_
  refine tok_cons (snd_iconst dX8_mostCarried_27 rfl (inr_d rfl) rfl) ?_
  refine tok_cons (snd_sub dX8_mostCarried_28 rfl) ?_
  refine tok_cons (snd_istore_n dX8_mostCarried_29 rfl rfl (by decide)) ?_
  refine tok_cons (snd_iload_n dX8_mostCarried_30 rfl rfl) ?_
  refine tok_cons (snd_aload_n dX8_mostCarried_31 rfl rfl) ?_
  refine tok_cons (snd_gr (C := RX8) (T := TX8) (N := 21) dX8_mostCarried_32 rfl (by decide) rfl wf8_7 inX8 rfl) ?_
  refine tok_cons (snd_bipush dX8_mostCarried_35 (by decide) (inr_d rfl) rfl) ?_
  refine tok_cons (snd_iald dX8_mostCarried_37 rfl) ?_
  refine tok_cons (snd_icmp_ge dX8_mostCarried_38 (by decide) rfl) ?_
  refine tok_cons (snd_iload_n dX8_mostCarried_41 rfl rfl) ?_
  refine tok_cons (snd_goto dX8_mostCarried_42 (by decide)) ?_
  refine tok_cons (snd_aload_n dX8_mostCarried_45 rfl rfl) ?_
  refine tok_cons (snd_gr (C := RX8) (T := TX8) (N := 21) dX8_mostCarried_46 rfl (by decide) rfl wf8_7 inX8 rfl) ?_
  refine tok_cons (snd_bipush dX8_mostCarried_49 (by decide) (inr_d rfl) rfl) ?_
  refine tok_cons (snd_iald dX8_mostCarried_51 rfl) ?_
  refine tok_cons (snd_iret dX8_mostCarried_52 rfl) ?_
  exact tok_nil
def tab_8_blank (X : XT) : Tab := [(0, false, a_aload 0 1), (1, false, a_gr 8 0 4), (4, false, a_const 81 6), (6, false, a_ald false 7), (7, false, a_aload 0 8), (8, false, a_gr 8 13 11), (11, false, a_iload 1 12), (12, false, a_ald false 13), (13, false, a_sub 14), (14, false, a_aload 0 15), (15, false, a_aload 0 16), (16, false, a_gr 8 14 19), (19, false, a_iload 1 20), (20, false, a_ald false 21), (21, false, a_cv X M_8_blank M_8_rowsOf 8 2 24), (24, false, a_sub 25), (25, false, a_istore 2 26), (26, false, a_iload 2 27), (27, false, a_if 5 34 30), (30, false, a_iload 2 31), (31, false, a_goto 35), (34, false, a_const 0 35), (35, false, a_iret M_8_blank)]
set_option maxRecDepth 20000 in
theorem t_8_blank (X : XT) : tget (tab_8_blank X) 0 = some (false, a_aload 0 1) ∧ tget (tab_8_blank X) 1 = some (false, a_gr 8 0 4) ∧ tget (tab_8_blank X) 4 = some (false, a_const 81 6) ∧ tget (tab_8_blank X) 6 = some (false, a_ald false 7) ∧ tget (tab_8_blank X) 7 = some (false, a_aload 0 8) ∧ tget (tab_8_blank X) 8 = some (false, a_gr 8 13 11) ∧ tget (tab_8_blank X) 11 = some (false, a_iload 1 12) ∧ tget (tab_8_blank X) 12 = some (false, a_ald false 13) ∧ tget (tab_8_blank X) 13 = some (false, a_sub 14) ∧ tget (tab_8_blank X) 14 = some (false, a_aload 0 15) ∧ tget (tab_8_blank X) 15 = some (false, a_aload 0 16) ∧ tget (tab_8_blank X) 16 = some (false, a_gr 8 14 19) ∧ tget (tab_8_blank X) 19 = some (false, a_iload 1 20) ∧ tget (tab_8_blank X) 20 = some (false, a_ald false 21) ∧ tget (tab_8_blank X) 21 = some (false, a_cv X M_8_blank M_8_rowsOf 8 2 24) ∧ tget (tab_8_blank X) 24 = some (false, a_sub 25) ∧ tget (tab_8_blank X) 25 = some (false, a_istore 2 26) ∧ tget (tab_8_blank X) 26 = some (false, a_iload 2 27) ∧ tget (tab_8_blank X) 27 = some (false, a_if 5 34 30) ∧ tget (tab_8_blank X) 30 = some (false, a_iload 2 31) ∧ tget (tab_8_blank X) 31 = some (false, a_goto 35) ∧ tget (tab_8_blank X) 34 = some (false, a_const 0 35) ∧ tget (tab_8_blank X) 35 = some (false, a_iret M_8_blank) := ⟨rfl, rfl, rfl, rfl, rfl, rfl, rfl, rfl, rfl, rfl, rfl, rfl, rfl, rfl, rfl, rfl, rfl, rfl, rfl, rfl, rfl, rfl, rfl⟩
theorem tok_8_blank (X : XT) : TabOK X M_8_blank (tab_8_blank X) := by
  unfold tab_8_blank
  refine tok_cons (snd_aload_n dX8_blank_0 rfl rfl) ?_
  refine tok_cons (snd_gr (C := RX8) (T := TX8) (N := 21) dX8_blank_1 rfl (by decide) rfl wf8_7 inX8 rfl) ?_
  refine tok_cons (snd_bipush dX8_blank_4 (by decide) (inr_d rfl) rfl) ?_
  refine tok_cons (snd_iald dX8_blank_6 rfl) ?_
  refine tok_cons (snd_aload_n dX8_blank_7 rfl rfl) ?_
  refine tok_cons (snd_gr (C := RX8) (T := TX8) (N := 21) dX8_blank_8 rfl (by decide) rfl wf8_41 inX8 rfl) ?_
  refine tok_cons (snd_iload_n dX8_blank_11 rfl rfl) ?_
  refine tok_cons (snd_iald dX8_blank_12 rfl) ?_
  refine tok_cons (snd_sub dX8_blank_13 rfl) ?_
  refine tok_cons (snd_aload_n dX8_blank_14 rfl rfl) ?_
  refine tok_cons (snd_aload_n dX8_blank_15 rfl rfl) ?_
  refine tok_cons (snd_gr (C := RX8) (T := TX8) (N := 21) dX8_blank_16 rfl (by decide) rfl wf8_44 inX8 rfl) ?_
  refine tok_cons (snd_iload_n dX8_blank_19 rfl rfl) ?_
  refine tok_cons (snd_iald dX8_blank_20 rfl) ?_
  refine tok_cons (snd_cv dX8_blank_21 mok_8_rowsOf ⟨wm8_124, wi_8_rowsOf, wl_8_rowsOf⟩ (rc := (RX8, TX8, 21)) rfl rfl pn_8_rowsOf (by decide) ⟨rfl, rfl⟩ rfl) ?_
  refine tok_cons (snd_sub dX8_blank_24 rfl) ?_
  refine tok_cons (snd_istore_n dX8_blank_25 rfl rfl (by decide)) ?_
  refine tok_cons (snd_iload_n dX8_blank_26 rfl rfl) ?_
  refine tok_cons (snd_if_le dX8_blank_27 (by decide) rfl) ?_
  refine tok_cons (snd_iload_n dX8_blank_30 rfl rfl) ?_
  refine tok_cons (snd_goto dX8_blank_31 (by decide)) ?_
  refine tok_cons (snd_iconst dX8_blank_34 rfl (inr_d rfl) rfl) ?_
  refine tok_cons (snd_iret dX8_blank_35 rfl) ?_
  exact tok_nil
def tab_8_noteAt (X : XT) : Tab := [(0, false, a_aload 0 1), (1, false, a_gr 8 16 4), (4, false, a_const 2 5), (5, false, a_iload 1 6), (6, false, a_mul 7), (7, false, a_iload 2 8), (8, false, a_add 9), (9, false, a_ald false 10), (10, false, a_istore 4 12), (12, false, a_aload 0 13), (13, false, a_iload 1 14), (14, false, a_iload 2 15), (15, false, a_cv X M_8_noteAt M_8_carriedTo 8 3 18), (18, false, a_istore 5 20), (20, false, a_iload 3 21), (21, false, a_iload 5 23), (23, false, a_icmp 3 53 26), (26, false, a_const 20000 29), (29, false, a_const 100 31), (31, false, a_iload 4 33), (33, false, a_const 1 34), (34, false, a_sub 35), (35, false, a_mul 36), (36, false, a_add 37), (37, false, a_aload 0 38), (38, false, a_iload 2 39), (39, false, a_iload 4 41), (41, false, a_const 1 42), (42, false, a_sub 43), (43, false, a_cv X M_8_noteAt M_8_noteLong 8 3 46), (46, false, a_add 47), (47, false, a_iload 5 49), (49, false, a_sub 50), (50, false, a_iload 3 51), (51, false, a_add 52), (52, false, a_iret M_8_noteAt), (53, false, a_iload 3 54), (54, false, a_iload 5 56), (56, false, a_sub 57), (57, false, a_istore 6 59), (59, true, a_iload 6 61), (61, false, a_aload 0 62), (62, false, a_iload 2 63), (63, false, a_iload 4 65), (65, false, a_cv X M_8_noteAt M_8_noteLong 8 3 68), (68, false, a_icmp 2 89 71), (71, false, a_iload 6 73), (73, false, a_aload 0 74), (74, false, a_iload 2 75), (75, false, a_iload 4 77), (77, false, a_cv X M_8_noteAt M_8_noteLong 8 3 80), (80, false, a_sub 81), (81, false, a_istore 6 83), (83, false, a_iinc 4 1 86), (86, false, a_goto 59), (89, false, a_const 20000 92), (92, false, a_const 100 94), (94, false, a_iload 4 96), (96, false, a_mul 97), (97, false, a_add 98), (98, false, a_iload 6 100), (100, false, a_add 101), (101, false, a_iret M_8_noteAt)]
set_option maxRecDepth 20000 in
theorem t_8_noteAt (X : XT) : tget (tab_8_noteAt X) 0 = some (false, a_aload 0 1) ∧ tget (tab_8_noteAt X) 1 = some (false, a_gr 8 16 4) ∧ tget (tab_8_noteAt X) 4 = some (false, a_const 2 5) ∧ tget (tab_8_noteAt X) 5 = some (false, a_iload 1 6) ∧ tget (tab_8_noteAt X) 6 = some (false, a_mul 7) ∧ tget (tab_8_noteAt X) 7 = some (false, a_iload 2 8) ∧ tget (tab_8_noteAt X) 8 = some (false, a_add 9) ∧ tget (tab_8_noteAt X) 9 = some (false, a_ald false 10) ∧ tget (tab_8_noteAt X) 10 = some (false, a_istore 4 12) ∧ tget (tab_8_noteAt X) 12 = some (false, a_aload 0 13) ∧ tget (tab_8_noteAt X) 13 = some (false, a_iload 1 14) ∧ tget (tab_8_noteAt X) 14 = some (false, a_iload 2 15) ∧ tget (tab_8_noteAt X) 15 = some (false, a_cv X M_8_noteAt M_8_carriedTo 8 3 18) ∧ tget (tab_8_noteAt X) 18 = some (false, a_istore 5 20) ∧ tget (tab_8_noteAt X) 20 = some (false, a_iload 3 21) ∧ tget (tab_8_noteAt X) 21 = some (false, a_iload 5 23) ∧ tget (tab_8_noteAt X) 23 = some (false, a_icmp 3 53 26) ∧ tget (tab_8_noteAt X) 26 = some (false, a_const 20000 29) ∧ tget (tab_8_noteAt X) 29 = some (false, a_const 100 31) ∧ tget (tab_8_noteAt X) 31 = some (false, a_iload 4 33) ∧ tget (tab_8_noteAt X) 33 = some (false, a_const 1 34) ∧ tget (tab_8_noteAt X) 34 = some (false, a_sub 35) ∧ tget (tab_8_noteAt X) 35 = some (false, a_mul 36) ∧ tget (tab_8_noteAt X) 36 = some (false, a_add 37) ∧ tget (tab_8_noteAt X) 37 = some (false, a_aload 0 38) ∧ tget (tab_8_noteAt X) 38 = some (false, a_iload 2 39) ∧ tget (tab_8_noteAt X) 39 = some (false, a_iload 4 41) ∧ tget (tab_8_noteAt X) 41 = some (false, a_const 1 42) ∧ tget (tab_8_noteAt X) 42 = some (false, a_sub 43) ∧ tget (tab_8_noteAt X) 43 = some (false, a_cv X M_8_noteAt M_8_noteLong 8 3 46) ∧ tget (tab_8_noteAt X) 46 = some (false, a_add 47) ∧ tget (tab_8_noteAt X) 47 = some (false, a_iload 5 49) ∧ tget (tab_8_noteAt X) 49 = some (false, a_sub 50) ∧ tget (tab_8_noteAt X) 50 = some (false, a_iload 3 51) ∧ tget (tab_8_noteAt X) 51 = some (false, a_add 52) ∧ tget (tab_8_noteAt X) 52 = some (false, a_iret M_8_noteAt) ∧ tget (tab_8_noteAt X) 53 = some (false, a_iload 3 54) ∧ tget (tab_8_noteAt X) 54 = some (false, a_iload 5 56) ∧ tget (tab_8_noteAt X) 56 = some (false, a_sub 57) ∧ tget (tab_8_noteAt X) 57 = some (false, a_istore 6 59) ∧ tget (tab_8_noteAt X) 59 = some (true, a_iload 6 61) ∧ tget (tab_8_noteAt X) 61 = some (false, a_aload 0 62) ∧ tget (tab_8_noteAt X) 62 = some (false, a_iload 2 63) ∧ tget (tab_8_noteAt X) 63 = some (false, a_iload 4 65) ∧ tget (tab_8_noteAt X) 65 = some (false, a_cv X M_8_noteAt M_8_noteLong 8 3 68) ∧ tget (tab_8_noteAt X) 68 = some (false, a_icmp 2 89 71) ∧ tget (tab_8_noteAt X) 71 = some (false, a_iload 6 73) ∧ tget (tab_8_noteAt X) 73 = some (false, a_aload 0 74) ∧ tget (tab_8_noteAt X) 74 = some (false, a_iload 2 75) ∧ tget (tab_8_noteAt X) 75 = some (false, a_iload 4 77) ∧ tget (tab_8_noteAt X) 77 = some (false, a_cv X M_8_noteAt M_8_noteLong 8 3 80) ∧ tget (tab_8_noteAt X) 80 = some (false, a_sub 81) ∧ tget (tab_8_noteAt X) 81 = some (false, a_istore 6 83) ∧ tget (tab_8_noteAt X) 83 = some (false, a_iinc 4 1 86) ∧ tget (tab_8_noteAt X) 86 = some (false, a_goto 59) ∧ tget (tab_8_noteAt X) 89 = some (false, a_const 20000 92) ∧ tget (tab_8_noteAt X) 92 = some (false, a_const 100 94) ∧ tget (tab_8_noteAt X) 94 = some (false, a_iload 4 96) ∧ tget (tab_8_noteAt X) 96 = some (false, a_mul 97) ∧ tget (tab_8_noteAt X) 97 = some (false, a_add 98) ∧ tget (tab_8_noteAt X) 98 = some (false, a_iload 6 100) ∧ tget (tab_8_noteAt X) 100 = some (false, a_add 101) ∧ tget (tab_8_noteAt X) 101 = some (false, a_iret M_8_noteAt) := ⟨rfl, rfl, rfl, rfl, rfl, rfl, rfl, rfl, rfl, rfl, rfl, rfl, rfl, rfl, rfl, rfl, rfl, rfl, rfl, rfl, rfl, rfl, rfl, rfl, rfl, rfl, rfl, rfl, rfl, rfl, rfl, rfl, rfl, rfl, rfl, rfl, rfl, rfl, rfl, rfl, rfl, rfl, rfl, rfl, rfl, rfl, rfl, rfl, rfl, rfl, rfl, rfl, rfl, rfl, rfl, rfl, rfl, rfl, rfl, rfl, rfl, rfl, rfl⟩
theorem tok_8_noteAt (X : XT) : TabOK X M_8_noteAt (tab_8_noteAt X) := by
  unfold tab_8_noteAt
  refine tok_cons (snd_aload_n dX8_noteAt_0 rfl rfl) ?_
  refine tok_cons (snd_gr (C := RX8) (T := TX8) (N := 21) dX8_noteAt_1 rfl (by decide) rfl wf8_50 inX8 rfl) ?_
  refine tok_cons (snd_iconst dX8_noteAt_4 rfl (inr_d rfl) rfl) ?_
  refine tok_cons (snd_iload_n dX8_noteAt_5 rfl rfl) ?_
  refine tok_cons (snd_mul dX8_noteAt_6 rfl) ?_
  refine tok_cons (snd_iload_n dX8_noteAt_7 rfl rfl) ?_
  refine tok_cons (snd_add dX8_noteAt_8 rfl) ?_
  refine tok_cons (snd_iald dX8_noteAt_9 rfl) ?_
  refine tok_cons (snd_istore dX8_noteAt_10 rfl (by decide)) ?_
  refine tok_cons (snd_aload_n dX8_noteAt_12 rfl rfl) ?_
  refine tok_cons (snd_iload_n dX8_noteAt_13 rfl rfl) ?_
  refine tok_cons (snd_iload_n dX8_noteAt_14 rfl rfl) ?_
  refine tok_cons (snd_cv dX8_noteAt_15 mok_8_carriedTo ⟨wm8_105, wi_8_carriedTo, wl_8_carriedTo⟩ (rc := (RX8, TX8, 21)) rfl rfl pn_8_carriedTo (by decide) ⟨rfl, rfl⟩ rfl) ?_
  refine tok_cons (snd_istore dX8_noteAt_18 rfl (by decide)) ?_
  refine tok_cons (snd_iload_n dX8_noteAt_20 rfl rfl) ?_
  refine tok_cons (snd_iload dX8_noteAt_21 rfl) ?_
  refine tok_cons (snd_icmp_ge dX8_noteAt_23 (by decide) rfl) ?_
  refine tok_cons (snd_sipush dX8_noteAt_26 (by decide) (inr_d rfl) rfl) ?_
  refine tok_cons (snd_bipush dX8_noteAt_29 (by decide) (inr_d rfl) rfl) ?_
  refine tok_cons (snd_iload dX8_noteAt_31 rfl) ?_
  refine tok_cons (snd_iconst dX8_noteAt_33 rfl (inr_d rfl) rfl) ?_
  refine tok_cons (snd_sub dX8_noteAt_34 rfl) ?_
  refine tok_cons (snd_mul dX8_noteAt_35 rfl) ?_
  refine tok_cons (snd_add dX8_noteAt_36 rfl) ?_
  refine tok_cons (snd_aload_n dX8_noteAt_37 rfl rfl) ?_
  refine tok_cons (snd_iload_n dX8_noteAt_38 rfl rfl) ?_
  refine tok_cons (snd_iload dX8_noteAt_39 rfl) ?_
  refine tok_cons (snd_iconst dX8_noteAt_41 rfl (inr_d rfl) rfl) ?_
  refine tok_cons (snd_sub dX8_noteAt_42 rfl) ?_
  refine tok_cons (snd_cv dX8_noteAt_43 mok_8_noteLong ⟨wm8_108, wi_8_noteLong, wl_8_noteLong⟩ (rc := (RX8, TX8, 21)) rfl rfl pn_8_noteLong (by decide) ⟨rfl, rfl⟩ rfl) ?_
  refine tok_cons (snd_add dX8_noteAt_46 rfl) ?_
  refine tok_cons (snd_iload dX8_noteAt_47 rfl) ?_
  refine tok_cons (snd_sub dX8_noteAt_49 rfl) ?_
  refine tok_cons (snd_iload_n dX8_noteAt_50 rfl rfl) ?_
  refine tok_cons (snd_add dX8_noteAt_51 rfl) ?_
  refine tok_cons (snd_iret dX8_noteAt_52 rfl) ?_
  refine tok_cons (snd_iload_n dX8_noteAt_53 rfl rfl) ?_
  refine tok_cons (snd_iload dX8_noteAt_54 rfl) ?_
  refine tok_cons (snd_sub dX8_noteAt_56 rfl) ?_
  refine tok_cons (snd_istore dX8_noteAt_57 rfl (by decide)) ?_
  refine tok_cons (snd_iload dX8_noteAt_59 rfl) ?_
  refine tok_cons (snd_aload_n dX8_noteAt_61 rfl rfl) ?_
  refine tok_cons (snd_iload_n dX8_noteAt_62 rfl rfl) ?_
  refine tok_cons (snd_iload dX8_noteAt_63 rfl) ?_
  refine tok_cons (snd_cv dX8_noteAt_65 mok_8_noteLong ⟨wm8_108, wi_8_noteLong, wl_8_noteLong⟩ (rc := (RX8, TX8, 21)) rfl rfl pn_8_noteLong (by decide) ⟨rfl, rfl⟩ rfl) ?_
  refine tok_cons (snd_icmp_lt dX8_noteAt_68 (by decide) rfl) ?_
  refine tok_cons (snd_iload dX8_noteAt_71 rfl) ?_
  refine tok_cons (snd_aload_n dX8_noteAt_73 rfl rfl) ?_
  refine tok_cons (snd_iload_n dX8_noteAt_74 rfl rfl) ?_
  refine tok_cons (snd_iload dX8_noteAt_75 rfl) ?_
  refine tok_cons (snd_cv dX8_noteAt_77 mok_8_noteLong ⟨wm8_108, wi_8_noteLong, wl_8_noteLong⟩ (rc := (RX8, TX8, 21)) rfl rfl pn_8_noteLong (by decide) ⟨rfl, rfl⟩ rfl) ?_
  refine tok_cons (snd_sub dX8_noteAt_80 rfl) ?_
  refine tok_cons (snd_istore dX8_noteAt_81 rfl (by decide)) ?_
  refine tok_cons (snd_iinc dX8_noteAt_83 rfl rfl (by decide)) ?_
  refine tok_cons (snd_goto dX8_noteAt_86 (by decide)) ?_
  refine tok_cons (snd_sipush dX8_noteAt_89 (by decide) (inr_d rfl) rfl) ?_
  refine tok_cons (snd_bipush dX8_noteAt_92 (by decide) (inr_d rfl) rfl) ?_
  refine tok_cons (snd_iload dX8_noteAt_94 rfl) ?_
  refine tok_cons (snd_mul dX8_noteAt_96 rfl) ?_
  refine tok_cons (snd_add dX8_noteAt_97 rfl) ?_
  refine tok_cons (snd_iload dX8_noteAt_98 rfl) ?_
  refine tok_cons (snd_add dX8_noteAt_100 rfl) ?_
  refine tok_cons (snd_iret dX8_noteAt_101 rfl) ?_
  exact tok_nil
def tab_8_rowsOfGroup (X : XT) : Tab := [(0, false, a_const 0 1), (1, false, a_istore 4 3), (3, false, a_iload 2 4), (4, false, a_istore 5 6), (6, true, a_iload 5 8), (8, false, a_iload 3 9), (9, false, a_const 1 10), (10, false, a_sub 11), (11, false, a_icmp 3 78 14), (14, false, a_aload 0 15), (15, false, a_iload 5 17), (17, false, a_iload 1 18), (18, false, a_cv X M_8_rowsOfGroup M_8_lines 8 3 21), (21, false, a_istore 6 23), (23, false, a_aload 0 24), (24, false, a_iload 5 26), (26, false, a_const 1 27), (27, false, a_iload 1 28), (28, false, a_sub 29), (29, false, a_cv X M_8_rowsOfGroup M_8_lines 8 3 32), (32, false, a_istore 7 34), (34, false, a_iload 4 36), (36, false, a_aload 0 37), (37, false, a_gr 8 0 40), (40, false, a_const 86 42), (42, false, a_ald false 43), (43, false, a_const 1 44), (44, false, a_icmp 1 59 47), (47, false, a_iload 7 49), (49, false, a_iload 6 51), (51, false, a_icmp 5 59 54), (54, false, a_iload 7 56), (56, false, a_goto 61), (59, false, a_iload 6 61), (61, false, a_aload 0 62), (62, false, a_gr 8 0 65), (65, false, a_const 82 67), (67, false, a_ald false 68), (68, false, a_add 69), (69, false, a_add 70), (70, false, a_istore 4 72), (72, false, a_iinc 5 1 75), (75, false, a_goto 6), (78, false, a_const 0 79), (79, false, a_istore 5 81), (81, false, a_const 0 82), (82, false, a_istore 6 84), (84, true, a_iload 6 86), (86, false, a_aload 0 87), (87, false, a_gr 8 0 90), (90, false, a_const 87 92), (92, false, a_iload 1 93), (93, false, a_add 94), (94, false, a_ald false 95), (95, false, a_icmp 3 145 98), (98, false, a_iload 5 100), (100, false, a_aload 0 101), (101, false, a_gr 8 0 104), (104, false, a_const 89 106), (106, false, a_const 40 108), (108, false, a_iload 1 109), (109, false, a_mul 110), (110, false, a_add 111), (111, false, a_iload 6 113), (113, false, a_add 114), (114, false, a_ald false 115), (115, false, a_iload 2 116), (116, false, a_iload 3 117), (117, false, a_const 1 118), (118, false, a_sub 119), (119, false, a_sv X M_8_rowsOfGroup M_8_in 3 122), (122, false, a_if 0 135 125), (125, false, a_aload 0 126), (126, false, a_iload 1 127), (127, false, a_iload 6 129), (129, false, a_cv X M_8_rowsOfGroup M_8_noteLong 8 3 132), (132, false, a_goto 136), (135, false, a_const 0 136), (136, false, a_add 137), (137, false, a_istore 5 139), (139, false, a_iinc 6 1 142), (142, false, a_goto 84), (145, false, a_iload 4 147), (147, false, a_aload 0 148), (148, false, a_iload 3 149), (149, false, a_const 1 150), (150, false, a_sub 151), (151, false, a_iload 1 152), (152, false, a_cv X M_8_rowsOfGroup M_8_lines 8 3 155), (155, false, a_add 156), (156, false, a_aload 0 157), (157, false, a_iload 5 159), (159, false, a_cv X M_8_rowsOfGroup M_8_rowsOf 8 2 162), (162, false, a_add 163), (163, false, a_iret M_8_rowsOfGroup)]
set_option maxRecDepth 20000 in
theorem t_8_rowsOfGroup (X : XT) : tget (tab_8_rowsOfGroup X) 0 = some (false, a_const 0 1) ∧ tget (tab_8_rowsOfGroup X) 1 = some (false, a_istore 4 3) ∧ tget (tab_8_rowsOfGroup X) 3 = some (false, a_iload 2 4) ∧ tget (tab_8_rowsOfGroup X) 4 = some (false, a_istore 5 6) ∧ tget (tab_8_rowsOfGroup X) 6 = some (true, a_iload 5 8) ∧ tget (tab_8_rowsOfGroup X) 8 = some (false, a_iload 3 9) ∧ tget (tab_8_rowsOfGroup X) 9 = some (false, a_const 1 10) ∧ tget (tab_8_rowsOfGroup X) 10 = some (false, a_sub 11) ∧ tget (tab_8_rowsOfGroup X) 11 = some (false, a_icmp 3 78 14) ∧ tget (tab_8_rowsOfGroup X) 14 = some (false, a_aload 0 15) ∧ tget (tab_8_rowsOfGroup X) 15 = some (false, a_iload 5 17) ∧ tget (tab_8_rowsOfGroup X) 17 = some (false, a_iload 1 18) ∧ tget (tab_8_rowsOfGroup X) 18 = some (false, a_cv X M_8_rowsOfGroup M_8_lines 8 3 21) ∧ tget (tab_8_rowsOfGroup X) 21 = some (false, a_istore 6 23) ∧ tget (tab_8_rowsOfGroup X) 23 = some (false, a_aload 0 24) ∧ tget (tab_8_rowsOfGroup X) 24 = some (false, a_iload 5 26) ∧ tget (tab_8_rowsOfGroup X) 26 = some (false, a_const 1 27) ∧ tget (tab_8_rowsOfGroup X) 27 = some (false, a_iload 1 28) ∧ tget (tab_8_rowsOfGroup X) 28 = some (false, a_sub 29) ∧ tget (tab_8_rowsOfGroup X) 29 = some (false, a_cv X M_8_rowsOfGroup M_8_lines 8 3 32) ∧ tget (tab_8_rowsOfGroup X) 32 = some (false, a_istore 7 34) ∧ tget (tab_8_rowsOfGroup X) 34 = some (false, a_iload 4 36) ∧ tget (tab_8_rowsOfGroup X) 36 = some (false, a_aload 0 37) ∧ tget (tab_8_rowsOfGroup X) 37 = some (false, a_gr 8 0 40) ∧ tget (tab_8_rowsOfGroup X) 40 = some (false, a_const 86 42) ∧ tget (tab_8_rowsOfGroup X) 42 = some (false, a_ald false 43) ∧ tget (tab_8_rowsOfGroup X) 43 = some (false, a_const 1 44) ∧ tget (tab_8_rowsOfGroup X) 44 = some (false, a_icmp 1 59 47) ∧ tget (tab_8_rowsOfGroup X) 47 = some (false, a_iload 7 49) ∧ tget (tab_8_rowsOfGroup X) 49 = some (false, a_iload 6 51) ∧ tget (tab_8_rowsOfGroup X) 51 = some (false, a_icmp 5 59 54) ∧ tget (tab_8_rowsOfGroup X) 54 = some (false, a_iload 7 56) ∧ tget (tab_8_rowsOfGroup X) 56 = some (false, a_goto 61) ∧ tget (tab_8_rowsOfGroup X) 59 = some (false, a_iload 6 61) ∧ tget (tab_8_rowsOfGroup X) 61 = some (false, a_aload 0 62) ∧ tget (tab_8_rowsOfGroup X) 62 = some (false, a_gr 8 0 65) ∧ tget (tab_8_rowsOfGroup X) 65 = some (false, a_const 82 67) ∧ tget (tab_8_rowsOfGroup X) 67 = some (false, a_ald false 68) ∧ tget (tab_8_rowsOfGroup X) 68 = some (false, a_add 69) ∧ tget (tab_8_rowsOfGroup X) 69 = some (false, a_add 70) ∧ tget (tab_8_rowsOfGroup X) 70 = some (false, a_istore 4 72) ∧ tget (tab_8_rowsOfGroup X) 72 = some (false, a_iinc 5 1 75) ∧ tget (tab_8_rowsOfGroup X) 75 = some (false, a_goto 6) ∧ tget (tab_8_rowsOfGroup X) 78 = some (false, a_const 0 79) ∧ tget (tab_8_rowsOfGroup X) 79 = some (false, a_istore 5 81) ∧ tget (tab_8_rowsOfGroup X) 81 = some (false, a_const 0 82) ∧ tget (tab_8_rowsOfGroup X) 82 = some (false, a_istore 6 84) ∧ tget (tab_8_rowsOfGroup X) 84 = some (true, a_iload 6 86) ∧ tget (tab_8_rowsOfGroup X) 86 = some (false, a_aload 0 87) ∧ tget (tab_8_rowsOfGroup X) 87 = some (false, a_gr 8 0 90) ∧ tget (tab_8_rowsOfGroup X) 90 = some (false, a_const 87 92) ∧ tget (tab_8_rowsOfGroup X) 92 = some (false, a_iload 1 93) ∧ tget (tab_8_rowsOfGroup X) 93 = some (false, a_add 94) ∧ tget (tab_8_rowsOfGroup X) 94 = some (false, a_ald false 95) ∧ tget (tab_8_rowsOfGroup X) 95 = some (false, a_icmp 3 145 98) ∧ tget (tab_8_rowsOfGroup X) 98 = some (false, a_iload 5 100) ∧ tget (tab_8_rowsOfGroup X) 100 = some (false, a_aload 0 101) ∧ tget (tab_8_rowsOfGroup X) 101 = some (false, a_gr 8 0 104) ∧ tget (tab_8_rowsOfGroup X) 104 = some (false, a_const 89 106) ∧ tget (tab_8_rowsOfGroup X) 106 = some (false, a_const 40 108) ∧ tget (tab_8_rowsOfGroup X) 108 = some (false, a_iload 1 109) ∧ tget (tab_8_rowsOfGroup X) 109 = some (false, a_mul 110) ∧ tget (tab_8_rowsOfGroup X) 110 = some (false, a_add 111) ∧ tget (tab_8_rowsOfGroup X) 111 = some (false, a_iload 6 113) ∧ tget (tab_8_rowsOfGroup X) 113 = some (false, a_add 114) ∧ tget (tab_8_rowsOfGroup X) 114 = some (false, a_ald false 115) ∧ tget (tab_8_rowsOfGroup X) 115 = some (false, a_iload 2 116) ∧ tget (tab_8_rowsOfGroup X) 116 = some (false, a_iload 3 117) ∧ tget (tab_8_rowsOfGroup X) 117 = some (false, a_const 1 118) ∧ tget (tab_8_rowsOfGroup X) 118 = some (false, a_sub 119) ∧ tget (tab_8_rowsOfGroup X) 119 = some (false, a_sv X M_8_rowsOfGroup M_8_in 3 122) ∧ tget (tab_8_rowsOfGroup X) 122 = some (false, a_if 0 135 125) ∧ tget (tab_8_rowsOfGroup X) 125 = some (false, a_aload 0 126) ∧ tget (tab_8_rowsOfGroup X) 126 = some (false, a_iload 1 127) ∧ tget (tab_8_rowsOfGroup X) 127 = some (false, a_iload 6 129) ∧ tget (tab_8_rowsOfGroup X) 129 = some (false, a_cv X M_8_rowsOfGroup M_8_noteLong 8 3 132) ∧ tget (tab_8_rowsOfGroup X) 132 = some (false, a_goto 136) ∧ tget (tab_8_rowsOfGroup X) 135 = some (false, a_const 0 136) ∧ tget (tab_8_rowsOfGroup X) 136 = some (false, a_add 137) ∧ tget (tab_8_rowsOfGroup X) 137 = some (false, a_istore 5 139) ∧ tget (tab_8_rowsOfGroup X) 139 = some (false, a_iinc 6 1 142) ∧ tget (tab_8_rowsOfGroup X) 142 = some (false, a_goto 84) ∧ tget (tab_8_rowsOfGroup X) 145 = some (false, a_iload 4 147) ∧ tget (tab_8_rowsOfGroup X) 147 = some (false, a_aload 0 148) ∧ tget (tab_8_rowsOfGroup X) 148 = some (false, a_iload 3 149) ∧ tget (tab_8_rowsOfGroup X) 149 = some (false, a_const 1 150) ∧ tget (tab_8_rowsOfGroup X) 150 = some (false, a_sub 151) ∧ tget (tab_8_rowsOfGroup X) 151 = some (false, a_iload 1 152) ∧ tget (tab_8_rowsOfGroup X) 152 = some (false, a_cv X M_8_rowsOfGroup M_8_lines 8 3 155) ∧ tget (tab_8_rowsOfGroup X) 155 = some (false, a_add 156) ∧ tget (tab_8_rowsOfGroup X) 156 = some (false, a_aload 0 157) ∧ tget (tab_8_rowsOfGroup X) 157 = some (false, a_iload 5 159) ∧ tget (tab_8_rowsOfGroup X) 159 = some (false, a_cv X M_8_rowsOfGroup M_8_rowsOf 8 2 162) ∧ tget (tab_8_rowsOfGroup X) 162 = some (false, a_add 163) ∧ tget (tab_8_rowsOfGroup X) 163 = some (false, a_iret M_8_rowsOfGroup) := ⟨rfl, rfl, rfl, rfl, rfl, rfl, rfl, rfl, rfl, rfl, rfl, rfl, rfl, rfl, rfl, rfl, rfl, rfl, rfl, rfl, rfl, rfl, rfl, rfl, rfl, rfl, rfl, rfl, rfl, rfl, rfl, rfl, rfl, rfl, rfl, rfl, rfl, rfl, rfl, rfl, rfl, rfl, rfl, rfl, rfl, rfl, rfl, rfl, rfl, rfl, rfl, rfl, rfl, rfl, rfl, rfl, rfl, rfl, rfl, rfl, rfl, rfl, rfl, rfl, rfl, rfl, rfl, rfl, rfl, rfl, rfl, rfl, rfl, rfl, rfl, rfl, rfl, rfl, rfl, rfl, rfl, rfl, rfl, rfl, rfl, rfl, rfl, rfl, rfl, rfl, rfl, rfl, rfl, rfl, rfl⟩
theorem tok_8_rowsOfGroup (X : XT) : TabOK X M_8_rowsOfGroup (tab_8_rowsOfGroup X) := by
  unfold tab_8_rowsOfGroup
  refine tok_cons (snd_iconst dX8_rowsOfGroup_0 rfl (inr_d rfl) rfl) ?_
  refine tok_cons (snd_istore dX8_rowsOfGroup_1 rfl (by decide)) ?_
  refine tok_cons (snd_iload_n dX8_rowsOfGroup_3 rfl rfl) ?_
  refine tok_cons (snd_istore dX8_rowsOfGroup_4 rfl (by decide)) ?_
  refine tok_cons (snd_iload dX8_rowsOfGroup_6 rfl) ?_
  refine tok_cons (snd_iload_n dX8_rowsOfGroup_8 rfl rfl) ?_
  refine tok_cons (snd_iconst dX8_rowsOfGroup_9 rfl (inr_d rfl) rfl) ?_
  refine tok_cons (snd_sub dX8_rowsOfGroup_10 rfl) ?_
  refine tok_cons (snd_icmp_ge dX8_rowsOfGroup_11 (by decide) rfl) ?_
  refine tok_cons (snd_aload_n dX8_rowsOfGroup_14 rfl rfl) ?_
  refine tok_cons (snd_iload dX8_rowsOfGroup_15 rfl) ?_
  refine tok_cons (snd_iload_n dX8_rowsOfGroup_17 rfl rfl) ?_
  refine tok_cons (snd_cv dX8_rowsOfGroup_18 mok_8_lines ⟨wm8_73, wi_8_lines, wl_8_lines⟩ (rc := (RX8, TX8, 21)) rfl rfl pn_8_lines (by decide) ⟨rfl, rfl⟩ rfl) ?_
  refine tok_cons (snd_istore dX8_rowsOfGroup_21 rfl (by decide)) ?_
  refine tok_cons (snd_aload_n dX8_rowsOfGroup_23 rfl rfl) ?_
  refine tok_cons (snd_iload dX8_rowsOfGroup_24 rfl) ?_
  refine tok_cons (snd_iconst dX8_rowsOfGroup_26 rfl (inr_d rfl) rfl) ?_
  refine tok_cons (snd_iload_n dX8_rowsOfGroup_27 rfl rfl) ?_
  refine tok_cons (snd_sub dX8_rowsOfGroup_28 rfl) ?_
  refine tok_cons (snd_cv dX8_rowsOfGroup_29 mok_8_lines ⟨wm8_73, wi_8_lines, wl_8_lines⟩ (rc := (RX8, TX8, 21)) rfl rfl pn_8_lines (by decide) ⟨rfl, rfl⟩ rfl) ?_
  refine tok_cons (snd_istore dX8_rowsOfGroup_32 rfl (by decide)) ?_
  refine tok_cons (snd_iload dX8_rowsOfGroup_34 rfl) ?_
  refine tok_cons (snd_aload_n dX8_rowsOfGroup_36 rfl rfl) ?_
  refine tok_cons (snd_gr (C := RX8) (T := TX8) (N := 21) dX8_rowsOfGroup_37 rfl (by decide) rfl wf8_7 inX8 rfl) ?_
  refine tok_cons (snd_bipush dX8_rowsOfGroup_40 (by decide) (inr_d rfl) rfl) ?_
  refine tok_cons (snd_iald dX8_rowsOfGroup_42 rfl) ?_
  refine tok_cons (snd_iconst dX8_rowsOfGroup_43 rfl (inr_d rfl) rfl) ?_
  refine tok_cons (snd_icmp_ne dX8_rowsOfGroup_44 (by decide) rfl) ?_
  refine tok_cons (snd_iload dX8_rowsOfGroup_47 rfl) ?_
  refine tok_cons (snd_iload dX8_rowsOfGroup_49 rfl) ?_
  refine tok_cons (snd_icmp_le dX8_rowsOfGroup_51 (by decide) rfl) ?_
  refine tok_cons (snd_iload dX8_rowsOfGroup_54 rfl) ?_
  refine tok_cons (snd_goto dX8_rowsOfGroup_56 (by decide)) ?_
  refine tok_cons (snd_iload dX8_rowsOfGroup_59 rfl) ?_
  refine tok_cons (snd_aload_n dX8_rowsOfGroup_61 rfl rfl) ?_
  refine tok_cons (snd_gr (C := RX8) (T := TX8) (N := 21) dX8_rowsOfGroup_62 rfl (by decide) rfl wf8_7 inX8 rfl) ?_
  refine tok_cons (snd_bipush dX8_rowsOfGroup_65 (by decide) (inr_d rfl) rfl) ?_
  refine tok_cons (snd_iald dX8_rowsOfGroup_67 rfl) ?_
  refine tok_cons (snd_add dX8_rowsOfGroup_68 rfl) ?_
  refine tok_cons (snd_add dX8_rowsOfGroup_69 rfl) ?_
  refine tok_cons (snd_istore dX8_rowsOfGroup_70 rfl (by decide)) ?_
  refine tok_cons (snd_iinc dX8_rowsOfGroup_72 rfl rfl (by decide)) ?_
  refine tok_cons (snd_goto dX8_rowsOfGroup_75 (by decide)) ?_
  refine tok_cons (snd_iconst dX8_rowsOfGroup_78 rfl (inr_d rfl) rfl) ?_
  refine tok_cons (snd_istore dX8_rowsOfGroup_79 rfl (by decide)) ?_
  refine tok_cons (snd_iconst dX8_rowsOfGroup_81 rfl (inr_d rfl) rfl) ?_
  refine tok_cons (snd_istore dX8_rowsOfGroup_82 rfl (by decide)) ?_
  refine tok_cons (snd_iload dX8_rowsOfGroup_84 rfl) ?_
  refine tok_cons (snd_aload_n dX8_rowsOfGroup_86 rfl rfl) ?_
  refine tok_cons (snd_gr (C := RX8) (T := TX8) (N := 21) dX8_rowsOfGroup_87 rfl (by decide) rfl wf8_7 inX8 rfl) ?_
  refine tok_cons (snd_bipush dX8_rowsOfGroup_90 (by decide) (inr_d rfl) rfl) ?_
  refine tok_cons (snd_iload_n dX8_rowsOfGroup_92 rfl rfl) ?_
  refine tok_cons (snd_add dX8_rowsOfGroup_93 rfl) ?_
  refine tok_cons (snd_iald dX8_rowsOfGroup_94 rfl) ?_
  refine tok_cons (snd_icmp_ge dX8_rowsOfGroup_95 (by decide) rfl) ?_
  refine tok_cons (snd_iload dX8_rowsOfGroup_98 rfl) ?_
  refine tok_cons (snd_aload_n dX8_rowsOfGroup_100 rfl rfl) ?_
  refine tok_cons (snd_gr (C := RX8) (T := TX8) (N := 21) dX8_rowsOfGroup_101 rfl (by decide) rfl wf8_7 inX8 rfl) ?_
  refine tok_cons (snd_bipush dX8_rowsOfGroup_104 (by decide) (inr_d rfl) rfl) ?_
  refine tok_cons (snd_bipush dX8_rowsOfGroup_106 (by decide) (inr_d rfl) rfl) ?_
  refine tok_cons (snd_iload_n dX8_rowsOfGroup_108 rfl rfl) ?_
  refine tok_cons (snd_mul dX8_rowsOfGroup_109 rfl) ?_
  refine tok_cons (snd_add dX8_rowsOfGroup_110 rfl) ?_
  refine tok_cons (snd_iload dX8_rowsOfGroup_111 rfl) ?_
  refine tok_cons (snd_add dX8_rowsOfGroup_113 rfl) ?_
  refine tok_cons (snd_iald dX8_rowsOfGroup_114 rfl) ?_
  refine tok_cons (snd_iload_n dX8_rowsOfGroup_115 rfl rfl) ?_
  refine tok_cons (snd_iload_n dX8_rowsOfGroup_116 rfl rfl) ?_
  refine tok_cons (snd_iconst dX8_rowsOfGroup_117 rfl (inr_d rfl) rfl) ?_
  refine tok_cons (snd_sub dX8_rowsOfGroup_118 rfl) ?_
  refine tok_cons (snd_sv dX8_rowsOfGroup_119 mok_8_in ⟨ws_8_in, Or.inl ⟨wm8_62, rfl⟩⟩ pn_8_in (by decide) ⟨rfl, rfl⟩ rfl) ?_
  refine tok_cons (snd_if_eq dX8_rowsOfGroup_122 (by decide) rfl) ?_
  refine tok_cons (snd_aload_n dX8_rowsOfGroup_125 rfl rfl) ?_
  refine tok_cons (snd_iload_n dX8_rowsOfGroup_126 rfl rfl) ?_
  refine tok_cons (snd_iload dX8_rowsOfGroup_127 rfl) ?_
  refine tok_cons (snd_cv dX8_rowsOfGroup_129 mok_8_noteLong ⟨wm8_108, wi_8_noteLong, wl_8_noteLong⟩ (rc := (RX8, TX8, 21)) rfl rfl pn_8_noteLong (by decide) ⟨rfl, rfl⟩ rfl) ?_
  refine tok_cons (snd_goto dX8_rowsOfGroup_132 (by decide)) ?_
  refine tok_cons (snd_iconst dX8_rowsOfGroup_135 rfl (inr_d rfl) rfl) ?_
  refine tok_cons (snd_add dX8_rowsOfGroup_136 rfl) ?_
  refine tok_cons (snd_istore dX8_rowsOfGroup_137 rfl (by decide)) ?_
  refine tok_cons (snd_iinc dX8_rowsOfGroup_139 rfl rfl (by decide)) ?_
  refine tok_cons (snd_goto dX8_rowsOfGroup_142 (by decide)) ?_
  refine tok_cons (snd_iload dX8_rowsOfGroup_145 rfl) ?_
  refine tok_cons (snd_aload_n dX8_rowsOfGroup_147 rfl rfl) ?_
  refine tok_cons (snd_iload_n dX8_rowsOfGroup_148 rfl rfl) ?_
  refine tok_cons (snd_iconst dX8_rowsOfGroup_149 rfl (inr_d rfl) rfl) ?_
  refine tok_cons (snd_sub dX8_rowsOfGroup_150 rfl) ?_
  refine tok_cons (snd_iload_n dX8_rowsOfGroup_151 rfl rfl) ?_
  refine tok_cons (snd_cv dX8_rowsOfGroup_152 mok_8_lines ⟨wm8_73, wi_8_lines, wl_8_lines⟩ (rc := (RX8, TX8, 21)) rfl rfl pn_8_lines (by decide) ⟨rfl, rfl⟩ rfl) ?_
  refine tok_cons (snd_add dX8_rowsOfGroup_155 rfl) ?_
  refine tok_cons (snd_aload_n dX8_rowsOfGroup_156 rfl rfl) ?_
  refine tok_cons (snd_iload dX8_rowsOfGroup_157 rfl) ?_
  refine tok_cons (snd_cv dX8_rowsOfGroup_159 mok_8_rowsOf ⟨wm8_124, wi_8_rowsOf, wl_8_rowsOf⟩ (rc := (RX8, TX8, 21)) rfl rfl pn_8_rowsOf (by decide) ⟨rfl, rfl⟩ rfl) ?_
  refine tok_cons (snd_add dX8_rowsOfGroup_162 rfl) ?_
  refine tok_cons (snd_iret dX8_rowsOfGroup_163 rfl) ?_
  exact tok_nil
def tab_8_isLine (X : XT) : Tab := [(0, false, a_aload 0 1), (1, false, a_iload 1 2), (2, false, a_cv X M_8_isLine M_8_isPair 8 2 5), (5, false, a_if 0 35 8), (8, false, a_iload 2 9), (9, false, a_sv X M_8_isLine M_8_isSide 1 12), (12, false, a_if 0 35 15), (15, false, a_iload 3 16), (16, false, a_const 0 17), (17, false, a_aload 0 18), (18, false, a_iload 1 19), (19, false, a_iload 2 20), (20, false, a_cv X M_8_isLine M_8_lines 8 3 23), (23, false, a_const 1 24), (24, false, a_sub 25), (25, false, a_sv X M_8_isLine M_8_in 3 28), (28, false, a_if 0 35 31), (31, false, a_const 1 32), (32, false, a_goto 36), (35, false, a_const 0 36), (36, false, a_zret M_8_isLine)]
set_option maxRecDepth 20000 in
theorem t_8_isLine (X : XT) : tget (tab_8_isLine X) 0 = some (false, a_aload 0 1) ∧ tget (tab_8_isLine X) 1 = some (false, a_iload 1 2) ∧ tget (tab_8_isLine X) 2 = some (false, a_cv X M_8_isLine M_8_isPair 8 2 5) ∧ tget (tab_8_isLine X) 5 = some (false, a_if 0 35 8) ∧ tget (tab_8_isLine X) 8 = some (false, a_iload 2 9) ∧ tget (tab_8_isLine X) 9 = some (false, a_sv X M_8_isLine M_8_isSide 1 12) ∧ tget (tab_8_isLine X) 12 = some (false, a_if 0 35 15) ∧ tget (tab_8_isLine X) 15 = some (false, a_iload 3 16) ∧ tget (tab_8_isLine X) 16 = some (false, a_const 0 17) ∧ tget (tab_8_isLine X) 17 = some (false, a_aload 0 18) ∧ tget (tab_8_isLine X) 18 = some (false, a_iload 1 19) ∧ tget (tab_8_isLine X) 19 = some (false, a_iload 2 20) ∧ tget (tab_8_isLine X) 20 = some (false, a_cv X M_8_isLine M_8_lines 8 3 23) ∧ tget (tab_8_isLine X) 23 = some (false, a_const 1 24) ∧ tget (tab_8_isLine X) 24 = some (false, a_sub 25) ∧ tget (tab_8_isLine X) 25 = some (false, a_sv X M_8_isLine M_8_in 3 28) ∧ tget (tab_8_isLine X) 28 = some (false, a_if 0 35 31) ∧ tget (tab_8_isLine X) 31 = some (false, a_const 1 32) ∧ tget (tab_8_isLine X) 32 = some (false, a_goto 36) ∧ tget (tab_8_isLine X) 35 = some (false, a_const 0 36) ∧ tget (tab_8_isLine X) 36 = some (false, a_zret M_8_isLine) := ⟨rfl, rfl, rfl, rfl, rfl, rfl, rfl, rfl, rfl, rfl, rfl, rfl, rfl, rfl, rfl, rfl, rfl, rfl, rfl, rfl, rfl⟩
theorem tok_8_isLine (X : XT) : TabOK X M_8_isLine (tab_8_isLine X) := by
  unfold tab_8_isLine
  refine tok_cons (snd_aload_n dX8_isLine_0 rfl rfl) ?_
  refine tok_cons (snd_iload_n dX8_isLine_1 rfl rfl) ?_
  refine tok_cons (snd_cv dX8_isLine_2 mok_8_isPair ⟨wm8_66, wi_8_isPair, wl_8_isPair⟩ (rc := (RX8, TX8, 21)) rfl rfl pn_8_isPair (by decide) ⟨rfl, rfl⟩ rfl) ?_
  refine tok_cons (snd_if_eq dX8_isLine_5 (by decide) rfl) ?_
  refine tok_cons (snd_iload_n dX8_isLine_8 rfl rfl) ?_
  refine tok_cons (snd_sv dX8_isLine_9 mok_8_isSide ⟨ws_8_isSide, Or.inl ⟨wm8_70, rfl⟩⟩ pn_8_isSide (by decide) ⟨rfl, rfl⟩ rfl) ?_
  refine tok_cons (snd_if_eq dX8_isLine_12 (by decide) rfl) ?_
  refine tok_cons (snd_iload_n dX8_isLine_15 rfl rfl) ?_
  refine tok_cons (snd_iconst dX8_isLine_16 rfl (inr_d rfl) rfl) ?_
  refine tok_cons (snd_aload_n dX8_isLine_17 rfl rfl) ?_
  refine tok_cons (snd_iload_n dX8_isLine_18 rfl rfl) ?_
  refine tok_cons (snd_iload_n dX8_isLine_19 rfl rfl) ?_
  refine tok_cons (snd_cv dX8_isLine_20 mok_8_lines ⟨wm8_73, wi_8_lines, wl_8_lines⟩ (rc := (RX8, TX8, 21)) rfl rfl pn_8_lines (by decide) ⟨rfl, rfl⟩ rfl) ?_
  refine tok_cons (snd_iconst dX8_isLine_23 rfl (inr_d rfl) rfl) ?_
  refine tok_cons (snd_sub dX8_isLine_24 rfl) ?_
  refine tok_cons (snd_sv dX8_isLine_25 mok_8_in ⟨ws_8_in, Or.inl ⟨wm8_62, rfl⟩⟩ pn_8_in (by decide) ⟨rfl, rfl⟩ rfl) ?_
  refine tok_cons (snd_if_eq dX8_isLine_28 (by decide) rfl) ?_
  refine tok_cons (snd_iconst dX8_isLine_31 rfl (inr_d rfl) rfl) ?_
  refine tok_cons (snd_goto dX8_isLine_32 (by decide)) ?_
  refine tok_cons (snd_iconst dX8_isLine_35 rfl (inr_d rfl) rfl) ?_
  refine tok_cons (snd_zret dX8_isLine_36 rfl) ?_
  exact tok_nil
def tab_8_remove (X : XT) : Tab := [(0, false, a_aload 0 1), (1, false, a_iload 1 2), (2, false, a_cv X M_8_remove M_8_isPair 8 2 5), (5, false, a_if 1 10 8), (8, false, a_const (-1) 9), (9, false, a_iret M_8_remove), (10, false, a_aload 0 11), (11, false, a_cn X M_8_remove M_8_records 8 1 14), (14, false, a_const 0 15), (15, false, a_istore 2 16), (16, false, a_iload 2 17), (17, false, a_const 2 18), (18, false, a_icmp 3 134 21), (21, false, a_aload 0 22), (22, false, a_gr 8 0 25), (25, false, a_const 87 27), (27, false, a_iload 2 28), (28, false, a_add 29), (29, false, a_ald false 30), (30, false, a_const 1 31), (31, false, a_sub 32), (32, false, a_istore 3 33), (33, true, a_iload 3 34), (34, false, a_if 2 67 37), (37, false, a_aload 0 38), (38, false, a_gr 8 0 41), (41, false, a_const 89 43), (43, false, a_const 40 45), (45, false, a_iload 2 46), (46, false, a_mul 47), (47, false, a_add 48), (48, false, a_iload 3 49), (49, false, a_add 50), (50, false, a_ald false 51), (51, false, a_iload 1 52), (52, false, a_icmp 1 61 55), (55, false, a_aload 0 56), (56, false, a_iload 2 57), (57, false, a_iload 3 58), (58, false, a_cn X M_8_remove M_8_dropsNote 8 3 61), (61, false, a_iinc 3 (-1) 64), (64, false, a_goto 33), (67, false, a_const 0 68), (68, false, a_istore 3 69), (69, true, a_iload 3 70), (70, false, a_aload 0 71), (71, false, a_gr 8 0 74), (74, false, a_const 87 76), (76, false, a_iload 2 77), (77, false, a_add 78), (78, false, a_ald false 79), (79, false, a_icmp 3 128 82), (82, false, a_aload 0 83), (83, false, a_gr 8 0 86), (86, false, a_const 89 88), (88, false, a_const 40 90), (90, false, a_iload 2 91), (91, false, a_mul 92), (92, false, a_add 93), (93, false, a_iload 3 94), (94, false, a_add 95), (95, false, a_dup2 96), (96, false, a_ald false 97), (97, false, a_aload 0 98), (98, false, a_gr 8 0 101), (101, false, a_const 89 103), (103, false, a_const 40 105), (105, false, a_iload 2 106), (106, false, a_mul 107), (107, false, a_add 108), (108, false, a_iload 3 109), (109, false, a_add 110), (110, false, a_ald false 111), (111, false, a_iload 1 112), (112, false, a_icmp 5 119 115), (115, false, a_const 1 116), (116, false, a_goto 120), (119, false, a_const 0 120), (120, false, a_sub 121), (121, false, a_ast false 122), (122, false, a_iinc 3 1 125), (125, false, a_goto 69), (128, false, a_iinc 2 1 131), (131, false, a_goto 16), (134, false, a_aload 0 135), (135, false, a_gr 8 0 138), (138, false, a_const 0 139), (139, false, a_dup2 140), (140, false, a_ald false 141), (141, false, a_const 1 142), (142, false, a_sub 143), (143, false, a_ast false 144), (144, false, a_const 0 145), (145, false, a_istore 2 146), (146, false, a_iload 2 147), (147, false, a_const 4 148), (148, false, a_icmp 3 203 151), (151, false, a_iload 1 152), (152, false, a_istore 3 153), (153, true, a_iload 3 154), (154, false, a_aload 0 155), (155, false, a_gr 8 0 158), (158, false, a_const 0 159), (159, false, a_ald false 160), (160, false, a_icmp 3 197 163), (163, false, a_aload 0 164), (164, false, a_gr 8 0 167), (167, false, a_const 1 168), (168, false, a_const 20 170), (170, false, a_iload 2 171), (171, false, a_mul 172), (172, false, a_add 173), (173, false, a_iload 3 174), (174, false, a_add 175), (175, false, a_aload 0 176), (176, false, a_gr 8 0 179), (179, false, a_const 1 180), (180, false, a_const 20 182), (182, false, a_iload 2 183), (183, false, a_mul 184), (184, false, a_add 185), (185, false, a_iload 3 186), (186, false, a_add 187), (187, false, a_const 1 188), (188, false, a_add 189), (189, false, a_ald false 190), (190, false, a_ast false 191), (191, false, a_iinc 3 1 194), (194, false, a_goto 153), (197, false, a_iinc 2 1 200), (200, false, a_goto 146), (203, false, a_aload 0 204), (204, false, a_gr 8 0 207), (207, false, a_const 0 208), (208, false, a_ald false 209), (209, false, a_iret M_8_remove)]
set_option maxRecDepth 20000 in
theorem t_8_remove (X : XT) : tget (tab_8_remove X) 0 = some (false, a_aload 0 1) ∧ tget (tab_8_remove X) 1 = some (false, a_iload 1 2) ∧ tget (tab_8_remove X) 2 = some (false, a_cv X M_8_remove M_8_isPair 8 2 5) ∧ tget (tab_8_remove X) 5 = some (false, a_if 1 10 8) ∧ tget (tab_8_remove X) 8 = some (false, a_const (-1) 9) ∧ tget (tab_8_remove X) 9 = some (false, a_iret M_8_remove) ∧ tget (tab_8_remove X) 10 = some (false, a_aload 0 11) ∧ tget (tab_8_remove X) 11 = some (false, a_cn X M_8_remove M_8_records 8 1 14) ∧ tget (tab_8_remove X) 14 = some (false, a_const 0 15) ∧ tget (tab_8_remove X) 15 = some (false, a_istore 2 16) ∧ tget (tab_8_remove X) 16 = some (false, a_iload 2 17) ∧ tget (tab_8_remove X) 17 = some (false, a_const 2 18) ∧ tget (tab_8_remove X) 18 = some (false, a_icmp 3 134 21) ∧ tget (tab_8_remove X) 21 = some (false, a_aload 0 22) ∧ tget (tab_8_remove X) 22 = some (false, a_gr 8 0 25) ∧ tget (tab_8_remove X) 25 = some (false, a_const 87 27) ∧ tget (tab_8_remove X) 27 = some (false, a_iload 2 28) ∧ tget (tab_8_remove X) 28 = some (false, a_add 29) ∧ tget (tab_8_remove X) 29 = some (false, a_ald false 30) ∧ tget (tab_8_remove X) 30 = some (false, a_const 1 31) ∧ tget (tab_8_remove X) 31 = some (false, a_sub 32) ∧ tget (tab_8_remove X) 32 = some (false, a_istore 3 33) ∧ tget (tab_8_remove X) 33 = some (true, a_iload 3 34) ∧ tget (tab_8_remove X) 34 = some (false, a_if 2 67 37) ∧ tget (tab_8_remove X) 37 = some (false, a_aload 0 38) ∧ tget (tab_8_remove X) 38 = some (false, a_gr 8 0 41) ∧ tget (tab_8_remove X) 41 = some (false, a_const 89 43) ∧ tget (tab_8_remove X) 43 = some (false, a_const 40 45) ∧ tget (tab_8_remove X) 45 = some (false, a_iload 2 46) ∧ tget (tab_8_remove X) 46 = some (false, a_mul 47) ∧ tget (tab_8_remove X) 47 = some (false, a_add 48) ∧ tget (tab_8_remove X) 48 = some (false, a_iload 3 49) ∧ tget (tab_8_remove X) 49 = some (false, a_add 50) ∧ tget (tab_8_remove X) 50 = some (false, a_ald false 51) ∧ tget (tab_8_remove X) 51 = some (false, a_iload 1 52) ∧ tget (tab_8_remove X) 52 = some (false, a_icmp 1 61 55) ∧ tget (tab_8_remove X) 55 = some (false, a_aload 0 56) ∧ tget (tab_8_remove X) 56 = some (false, a_iload 2 57) ∧ tget (tab_8_remove X) 57 = some (false, a_iload 3 58) ∧ tget (tab_8_remove X) 58 = some (false, a_cn X M_8_remove M_8_dropsNote 8 3 61) ∧ tget (tab_8_remove X) 61 = some (false, a_iinc 3 (-1) 64) ∧ tget (tab_8_remove X) 64 = some (false, a_goto 33) ∧ tget (tab_8_remove X) 67 = some (false, a_const 0 68) ∧ tget (tab_8_remove X) 68 = some (false, a_istore 3 69) ∧ tget (tab_8_remove X) 69 = some (true, a_iload 3 70) ∧ tget (tab_8_remove X) 70 = some (false, a_aload 0 71) ∧ tget (tab_8_remove X) 71 = some (false, a_gr 8 0 74) ∧ tget (tab_8_remove X) 74 = some (false, a_const 87 76) ∧ tget (tab_8_remove X) 76 = some (false, a_iload 2 77) ∧ tget (tab_8_remove X) 77 = some (false, a_add 78) ∧ tget (tab_8_remove X) 78 = some (false, a_ald false 79) ∧ tget (tab_8_remove X) 79 = some (false, a_icmp 3 128 82) ∧ tget (tab_8_remove X) 82 = some (false, a_aload 0 83) ∧ tget (tab_8_remove X) 83 = some (false, a_gr 8 0 86) ∧ tget (tab_8_remove X) 86 = some (false, a_const 89 88) ∧ tget (tab_8_remove X) 88 = some (false, a_const 40 90) ∧ tget (tab_8_remove X) 90 = some (false, a_iload 2 91) ∧ tget (tab_8_remove X) 91 = some (false, a_mul 92) ∧ tget (tab_8_remove X) 92 = some (false, a_add 93) ∧ tget (tab_8_remove X) 93 = some (false, a_iload 3 94) ∧ tget (tab_8_remove X) 94 = some (false, a_add 95) ∧ tget (tab_8_remove X) 95 = some (false, a_dup2 96) ∧ tget (tab_8_remove X) 96 = some (false, a_ald false 97) ∧ tget (tab_8_remove X) 97 = some (false, a_aload 0 98) ∧ tget (tab_8_remove X) 98 = some (false, a_gr 8 0 101) ∧ tget (tab_8_remove X) 101 = some (false, a_const 89 103) ∧ tget (tab_8_remove X) 103 = some (false, a_const 40 105) ∧ tget (tab_8_remove X) 105 = some (false, a_iload 2 106) ∧ tget (tab_8_remove X) 106 = some (false, a_mul 107) ∧ tget (tab_8_remove X) 107 = some (false, a_add 108) ∧ tget (tab_8_remove X) 108 = some (false, a_iload 3 109) ∧ tget (tab_8_remove X) 109 = some (false, a_add 110) ∧ tget (tab_8_remove X) 110 = some (false, a_ald false 111) ∧ tget (tab_8_remove X) 111 = some (false, a_iload 1 112) ∧ tget (tab_8_remove X) 112 = some (false, a_icmp 5 119 115) ∧ tget (tab_8_remove X) 115 = some (false, a_const 1 116) ∧ tget (tab_8_remove X) 116 = some (false, a_goto 120) ∧ tget (tab_8_remove X) 119 = some (false, a_const 0 120) ∧ tget (tab_8_remove X) 120 = some (false, a_sub 121) ∧ tget (tab_8_remove X) 121 = some (false, a_ast false 122) ∧ tget (tab_8_remove X) 122 = some (false, a_iinc 3 1 125) ∧ tget (tab_8_remove X) 125 = some (false, a_goto 69) ∧ tget (tab_8_remove X) 128 = some (false, a_iinc 2 1 131) ∧ tget (tab_8_remove X) 131 = some (false, a_goto 16) ∧ tget (tab_8_remove X) 134 = some (false, a_aload 0 135) ∧ tget (tab_8_remove X) 135 = some (false, a_gr 8 0 138) ∧ tget (tab_8_remove X) 138 = some (false, a_const 0 139) ∧ tget (tab_8_remove X) 139 = some (false, a_dup2 140) ∧ tget (tab_8_remove X) 140 = some (false, a_ald false 141) ∧ tget (tab_8_remove X) 141 = some (false, a_const 1 142) ∧ tget (tab_8_remove X) 142 = some (false, a_sub 143) ∧ tget (tab_8_remove X) 143 = some (false, a_ast false 144) ∧ tget (tab_8_remove X) 144 = some (false, a_const 0 145) ∧ tget (tab_8_remove X) 145 = some (false, a_istore 2 146) ∧ tget (tab_8_remove X) 146 = some (false, a_iload 2 147) ∧ tget (tab_8_remove X) 147 = some (false, a_const 4 148) ∧ tget (tab_8_remove X) 148 = some (false, a_icmp 3 203 151) ∧ tget (tab_8_remove X) 151 = some (false, a_iload 1 152) ∧ tget (tab_8_remove X) 152 = some (false, a_istore 3 153) ∧ tget (tab_8_remove X) 153 = some (true, a_iload 3 154) ∧ tget (tab_8_remove X) 154 = some (false, a_aload 0 155) ∧ tget (tab_8_remove X) 155 = some (false, a_gr 8 0 158) ∧ tget (tab_8_remove X) 158 = some (false, a_const 0 159) ∧ tget (tab_8_remove X) 159 = some (false, a_ald false 160) ∧ tget (tab_8_remove X) 160 = some (false, a_icmp 3 197 163) ∧ tget (tab_8_remove X) 163 = some (false, a_aload 0 164) ∧ tget (tab_8_remove X) 164 = some (false, a_gr 8 0 167) ∧ tget (tab_8_remove X) 167 = some (false, a_const 1 168) ∧ tget (tab_8_remove X) 168 = some (false, a_const 20 170) ∧ tget (tab_8_remove X) 170 = some (false, a_iload 2 171) ∧ tget (tab_8_remove X) 171 = some (false, a_mul 172) ∧ tget (tab_8_remove X) 172 = some (false, a_add 173) ∧ tget (tab_8_remove X) 173 = some (false, a_iload 3 174) ∧ tget (tab_8_remove X) 174 = some (false, a_add 175) ∧ tget (tab_8_remove X) 175 = some (false, a_aload 0 176) ∧ tget (tab_8_remove X) 176 = some (false, a_gr 8 0 179) ∧ tget (tab_8_remove X) 179 = some (false, a_const 1 180) ∧ tget (tab_8_remove X) 180 = some (false, a_const 20 182) ∧ tget (tab_8_remove X) 182 = some (false, a_iload 2 183) ∧ tget (tab_8_remove X) 183 = some (false, a_mul 184) ∧ tget (tab_8_remove X) 184 = some (false, a_add 185) ∧ tget (tab_8_remove X) 185 = some (false, a_iload 3 186) ∧ tget (tab_8_remove X) 186 = some (false, a_add 187) ∧ tget (tab_8_remove X) 187 = some (false, a_const 1 188) ∧ tget (tab_8_remove X) 188 = some (false, a_add 189) ∧ tget (tab_8_remove X) 189 = some (false, a_ald false 190) ∧ tget (tab_8_remove X) 190 = some (false, a_ast false 191) ∧ tget (tab_8_remove X) 191 = some (false, a_iinc 3 1 194) ∧ tget (tab_8_remove X) 194 = some (false, a_goto 153) ∧ tget (tab_8_remove X) 197 = some (false, a_iinc 2 1 200) ∧ tget (tab_8_remove X) 200 = some (false, a_goto 146) ∧ tget (tab_8_remove X) 203 = some (false, a_aload 0 204) ∧ tget (tab_8_remove X) 204 = some (false, a_gr 8 0 207) ∧ tget (tab_8_remove X) 207 = some (false, a_const 0 208) ∧ tget (tab_8_remove X) 208 = some (false, a_ald false 209) ∧ tget (tab_8_remove X) 209 = some (false, a_iret M_8_remove) := ⟨rfl, rfl, rfl, rfl, rfl, rfl, rfl, rfl, rfl, rfl, rfl, rfl, rfl, rfl, rfl, rfl, rfl, rfl, rfl, rfl, rfl, rfl, rfl, rfl, rfl, rfl, rfl, rfl, rfl, rfl, rfl, rfl, rfl, rfl, rfl, rfl, rfl, rfl, rfl, rfl, rfl, rfl, rfl, rfl, rfl, rfl, rfl, rfl, rfl, rfl, rfl, rfl, rfl, rfl, rfl, rfl, rfl, rfl, rfl, rfl, rfl, rfl, rfl, rfl, rfl, rfl, rfl, rfl, rfl, rfl, rfl, rfl, rfl, rfl, rfl, rfl, rfl, rfl, rfl, rfl, rfl, rfl, rfl, rfl, rfl, rfl, rfl, rfl, rfl, rfl, rfl, rfl, rfl, rfl, rfl, rfl, rfl, rfl, rfl, rfl, rfl, rfl, rfl, rfl, rfl, rfl, rfl, rfl, rfl, rfl, rfl, rfl, rfl, rfl, rfl, rfl, rfl, rfl, rfl, rfl, rfl, rfl, rfl, rfl, rfl, rfl, rfl, rfl, rfl, rfl, rfl, rfl, rfl, rfl, rfl, rfl⟩
theorem tok_8_remove (X : XT) : TabOK X M_8_remove (tab_8_remove X) := by
  unfold tab_8_remove
  refine tok_cons (snd_aload_n dX8_remove_0 rfl rfl) ?_
  refine tok_cons (snd_iload_n dX8_remove_1 rfl rfl) ?_
  refine tok_cons (snd_cv dX8_remove_2 mok_8_isPair ⟨wm8_66, wi_8_isPair, wl_8_isPair⟩ (rc := (RX8, TX8, 21)) rfl rfl pn_8_isPair (by decide) ⟨rfl, rfl⟩ rfl) ?_
  refine tok_cons (snd_if_ne dX8_remove_5 (by decide) rfl) ?_
  refine tok_cons (snd_iconst dX8_remove_8 rfl (inr_d rfl) rfl) ?_
  refine tok_cons (snd_iret dX8_remove_9 rfl) ?_
  refine tok_cons (snd_aload_n dX8_remove_10 rfl rfl) ?_
  refine tok_cons (snd_cn dX8_remove_11 mok_8_records ⟨wm8_81, wi_8_records, wl_8_records⟩ (rc := (RX8, TX8, 21)) rfl rfl pn_8_records (by decide) ⟨rfl, rfl⟩ rfl) ?_
  refine tok_cons (snd_iconst dX8_remove_14 rfl (inr_d rfl) rfl) ?_
  refine tok_cons (snd_istore_n dX8_remove_15 rfl rfl (by decide)) ?_
  refine tok_cons (snd_iload_n dX8_remove_16 rfl rfl) ?_
  refine tok_cons (snd_iconst dX8_remove_17 rfl (inr_d rfl) rfl) ?_
  refine tok_cons (snd_icmp_ge dX8_remove_18 (by decide) rfl) ?_
  refine tok_cons (snd_aload_n dX8_remove_21 rfl rfl) ?_
  refine tok_cons (snd_gr (C := RX8) (T := TX8) (N := 21) dX8_remove_22 rfl (by decide) rfl wf8_7 inX8 rfl) ?_
  refine tok_cons (snd_bipush dX8_remove_25 (by decide) (inr_d rfl) rfl) ?_
  refine tok_cons (snd_iload_n dX8_remove_27 rfl rfl) ?_
  refine tok_cons (snd_add dX8_remove_28 rfl) ?_
  refine tok_cons (snd_iald dX8_remove_29 rfl) ?_
  refine tok_cons (snd_iconst dX8_remove_30 rfl (inr_d rfl) rfl) ?_
  refine tok_cons (snd_sub dX8_remove_31 rfl) ?_
  refine tok_cons (snd_istore_n dX8_remove_32 rfl rfl (by decide)) ?_
  refine tok_cons (snd_iload_n dX8_remove_33 rfl rfl) ?_
  refine tok_cons (snd_if_lt dX8_remove_34 (by decide) rfl) ?_
  refine tok_cons (snd_aload_n dX8_remove_37 rfl rfl) ?_
  refine tok_cons (snd_gr (C := RX8) (T := TX8) (N := 21) dX8_remove_38 rfl (by decide) rfl wf8_7 inX8 rfl) ?_
  refine tok_cons (snd_bipush dX8_remove_41 (by decide) (inr_d rfl) rfl) ?_
  refine tok_cons (snd_bipush dX8_remove_43 (by decide) (inr_d rfl) rfl) ?_
  refine tok_cons (snd_iload_n dX8_remove_45 rfl rfl) ?_
  refine tok_cons (snd_mul dX8_remove_46 rfl) ?_
  refine tok_cons (snd_add dX8_remove_47 rfl) ?_
  refine tok_cons (snd_iload_n dX8_remove_48 rfl rfl) ?_
  refine tok_cons (snd_add dX8_remove_49 rfl) ?_
  refine tok_cons (snd_iald dX8_remove_50 rfl) ?_
  refine tok_cons (snd_iload_n dX8_remove_51 rfl rfl) ?_
  refine tok_cons (snd_icmp_ne dX8_remove_52 (by decide) rfl) ?_
  refine tok_cons (snd_aload_n dX8_remove_55 rfl rfl) ?_
  refine tok_cons (snd_iload_n dX8_remove_56 rfl rfl) ?_
  refine tok_cons (snd_iload_n dX8_remove_57 rfl rfl) ?_
  refine tok_cons (snd_cn dX8_remove_58 mok_8_dropsNote ⟨wm8_84, wi_8_dropsNote, wl_8_dropsNote⟩ (rc := (RX8, TX8, 21)) rfl rfl pn_8_dropsNote (by decide) ⟨rfl, rfl⟩ rfl) ?_
  refine tok_cons (snd_iinc dX8_remove_61 rfl rfl (by decide)) ?_
  refine tok_cons (snd_goto dX8_remove_64 (by decide)) ?_
  refine tok_cons (snd_iconst dX8_remove_67 rfl (inr_d rfl) rfl) ?_
  refine tok_cons (snd_istore_n dX8_remove_68 rfl rfl (by decide)) ?_
  refine tok_cons (snd_iload_n dX8_remove_69 rfl rfl) ?_
  refine tok_cons (snd_aload_n dX8_remove_70 rfl rfl) ?_
  refine tok_cons (snd_gr (C := RX8) (T := TX8) (N := 21) dX8_remove_71 rfl (by decide) rfl wf8_7 inX8 rfl) ?_
  refine tok_cons (snd_bipush dX8_remove_74 (by decide) (inr_d rfl) rfl) ?_
  refine tok_cons (snd_iload_n dX8_remove_76 rfl rfl) ?_
  refine tok_cons (snd_add dX8_remove_77 rfl) ?_
  refine tok_cons (snd_iald dX8_remove_78 rfl) ?_
  refine tok_cons (snd_icmp_ge dX8_remove_79 (by decide) rfl) ?_
  refine tok_cons (snd_aload_n dX8_remove_82 rfl rfl) ?_
  refine tok_cons (snd_gr (C := RX8) (T := TX8) (N := 21) dX8_remove_83 rfl (by decide) rfl wf8_7 inX8 rfl) ?_
  refine tok_cons (snd_bipush dX8_remove_86 (by decide) (inr_d rfl) rfl) ?_
  refine tok_cons (snd_bipush dX8_remove_88 (by decide) (inr_d rfl) rfl) ?_
  refine tok_cons (snd_iload_n dX8_remove_90 rfl rfl) ?_
  refine tok_cons (snd_mul dX8_remove_91 rfl) ?_
  refine tok_cons (snd_add dX8_remove_92 rfl) ?_
  refine tok_cons (snd_iload_n dX8_remove_93 rfl rfl) ?_
  refine tok_cons (snd_add dX8_remove_94 rfl) ?_
  refine tok_cons (snd_dup2 dX8_remove_95 rfl) ?_
  refine tok_cons (snd_iald dX8_remove_96 rfl) ?_
  refine tok_cons (snd_aload_n dX8_remove_97 rfl rfl) ?_
  refine tok_cons (snd_gr (C := RX8) (T := TX8) (N := 21) dX8_remove_98 rfl (by decide) rfl wf8_7 inX8 rfl) ?_
  refine tok_cons (snd_bipush dX8_remove_101 (by decide) (inr_d rfl) rfl) ?_
  refine tok_cons (snd_bipush dX8_remove_103 (by decide) (inr_d rfl) rfl) ?_
  refine tok_cons (snd_iload_n dX8_remove_105 rfl rfl) ?_
  refine tok_cons (snd_mul dX8_remove_106 rfl) ?_
  refine tok_cons (snd_add dX8_remove_107 rfl) ?_
  refine tok_cons (snd_iload_n dX8_remove_108 rfl rfl) ?_
  refine tok_cons (snd_add dX8_remove_109 rfl) ?_
  refine tok_cons (snd_iald dX8_remove_110 rfl) ?_
  refine tok_cons (snd_iload_n dX8_remove_111 rfl rfl) ?_
  refine tok_cons (snd_icmp_le dX8_remove_112 (by decide) rfl) ?_
  refine tok_cons (snd_iconst dX8_remove_115 rfl (inr_d rfl) rfl) ?_
  refine tok_cons (snd_goto dX8_remove_116 (by decide)) ?_
  refine tok_cons (snd_iconst dX8_remove_119 rfl (inr_d rfl) rfl) ?_
  refine tok_cons (snd_sub dX8_remove_120 rfl) ?_
  refine tok_cons (snd_iast dX8_remove_121 rfl) ?_
  refine tok_cons (snd_iinc dX8_remove_122 rfl rfl (by decide)) ?_
  refine tok_cons (snd_goto dX8_remove_125 (by decide)) ?_
  refine tok_cons (snd_iinc dX8_remove_128 rfl rfl (by decide)) ?_
  refine tok_cons (snd_goto dX8_remove_131 (by decide)) ?_
  refine tok_cons (snd_aload_n dX8_remove_134 rfl rfl) ?_
  refine tok_cons (snd_gr (C := RX8) (T := TX8) (N := 21) dX8_remove_135 rfl (by decide) rfl wf8_7 inX8 rfl) ?_
  refine tok_cons (snd_iconst dX8_remove_138 rfl (inr_d rfl) rfl) ?_
  refine tok_cons (snd_dup2 dX8_remove_139 rfl) ?_
  refine tok_cons (snd_iald dX8_remove_140 rfl) ?_
  refine tok_cons (snd_iconst dX8_remove_141 rfl (inr_d rfl) rfl) ?_
  refine tok_cons (snd_sub dX8_remove_142 rfl) ?_
  refine tok_cons (snd_iast dX8_remove_143 rfl) ?_
  refine tok_cons (snd_iconst dX8_remove_144 rfl (inr_d rfl) rfl) ?_
  refine tok_cons (snd_istore_n dX8_remove_145 rfl rfl (by decide)) ?_
  refine tok_cons (snd_iload_n dX8_remove_146 rfl rfl) ?_
  refine tok_cons (snd_iconst dX8_remove_147 rfl (inr_d rfl) rfl) ?_
  refine tok_cons (snd_icmp_ge dX8_remove_148 (by decide) rfl) ?_
  refine tok_cons (snd_iload_n dX8_remove_151 rfl rfl) ?_
  refine tok_cons (snd_istore_n dX8_remove_152 rfl rfl (by decide)) ?_
  refine tok_cons (snd_iload_n dX8_remove_153 rfl rfl) ?_
  refine tok_cons (snd_aload_n dX8_remove_154 rfl rfl) ?_
  refine tok_cons (snd_gr (C := RX8) (T := TX8) (N := 21) dX8_remove_155 rfl (by decide) rfl wf8_7 inX8 rfl) ?_
  refine tok_cons (snd_iconst dX8_remove_158 rfl (inr_d rfl) rfl) ?_
  refine tok_cons (snd_iald dX8_remove_159 rfl) ?_
  refine tok_cons (snd_icmp_ge dX8_remove_160 (by decide) rfl) ?_
  refine tok_cons (snd_aload_n dX8_remove_163 rfl rfl) ?_
  refine tok_cons (snd_gr (C := RX8) (T := TX8) (N := 21) dX8_remove_164 rfl (by decide) rfl wf8_7 inX8 rfl) ?_
  refine tok_cons (snd_iconst dX8_remove_167 rfl (inr_d rfl) rfl) ?_
  refine tok_cons (snd_bipush dX8_remove_168 (by decide) (inr_d rfl) rfl) ?_
  refine tok_cons (snd_iload_n dX8_remove_170 rfl rfl) ?_
  refine tok_cons (snd_mul dX8_remove_171 rfl) ?_
  refine tok_cons (snd_add dX8_remove_172 rfl) ?_
  refine tok_cons (snd_iload_n dX8_remove_173 rfl rfl) ?_
  refine tok_cons (snd_add dX8_remove_174 rfl) ?_
  refine tok_cons (snd_aload_n dX8_remove_175 rfl rfl) ?_
  refine tok_cons (snd_gr (C := RX8) (T := TX8) (N := 21) dX8_remove_176 rfl (by decide) rfl wf8_7 inX8 rfl) ?_
  refine tok_cons (snd_iconst dX8_remove_179 rfl (inr_d rfl) rfl) ?_
  refine tok_cons (snd_bipush dX8_remove_180 (by decide) (inr_d rfl) rfl) ?_
  refine tok_cons (snd_iload_n dX8_remove_182 rfl rfl) ?_
  refine tok_cons (snd_mul dX8_remove_183 rfl) ?_
  refine tok_cons (snd_add dX8_remove_184 rfl) ?_
  refine tok_cons (snd_iload_n dX8_remove_185 rfl rfl) ?_
  refine tok_cons (snd_add dX8_remove_186 rfl) ?_
  refine tok_cons (snd_iconst dX8_remove_187 rfl (inr_d rfl) rfl) ?_
  refine tok_cons (snd_add dX8_remove_188 rfl) ?_
  refine tok_cons (snd_iald dX8_remove_189 rfl) ?_
  refine tok_cons (snd_iast dX8_remove_190 rfl) ?_
  refine tok_cons (snd_iinc dX8_remove_191 rfl rfl (by decide)) ?_
  refine tok_cons (snd_goto dX8_remove_194 (by decide)) ?_
  refine tok_cons (snd_iinc dX8_remove_197 rfl rfl (by decide)) ?_
  refine tok_cons (snd_goto dX8_remove_200 (by decide)) ?_
  refine tok_cons (snd_aload_n dX8_remove_203 rfl rfl) ?_
  refine tok_cons (snd_gr (C := RX8) (T := TX8) (N := 21) dX8_remove_204 rfl (by decide) rfl wf8_7 inX8 rfl) ?_
  refine tok_cons (snd_iconst dX8_remove_207 rfl (inr_d rfl) rfl) ?_
  refine tok_cons (snd_iald dX8_remove_208 rfl) ?_
  refine tok_cons (snd_iret dX8_remove_209 rfl) ?_
  exact tok_nil
def tab_8_setLines (X : XT) : Tab := [(0, false, a_aload 0 1), (1, false, a_iload 1 2), (2, false, a_cv X M_8_setLines M_8_isPair 8 2 5), (5, false, a_if 0 25 8), (8, false, a_iload 2 9), (9, false, a_sv X M_8_setLines M_8_isSide 1 12), (12, false, a_if 0 25 15), (15, false, a_iload 3 16), (16, false, a_const 1 17), (17, false, a_const 30 19), (19, false, a_sv X M_8_setLines M_8_in 3 22), (22, false, a_if 1 27 25), (25, false, a_const (-1) 26), (26, false, a_iret M_8_setLines), (27, false, a_const 0 28), (28, false, a_istore 4 30), (30, true, a_iload 4 32), (32, false, a_aload 0 33), (33, false, a_gr 8 0 36), (36, false, a_const 87 38), (38, false, a_iload 2 39), (39, false, a_add 40), (40, false, a_ald false 41), (41, false, a_icmp 3 92 44), (44, false, a_aload 0 45), (45, false, a_gr 8 0 48), (48, false, a_const 89 50), (50, false, a_const 40 52), (52, false, a_iload 2 53), (53, false, a_mul 54), (54, false, a_add 55), (55, false, a_iload 4 57), (57, false, a_add 58), (58, false, a_ald false 59), (59, false, a_iload 1 60), (60, false, a_icmp 1 86 63), (63, false, a_aload 0 64), (64, false, a_gr 8 0 67), (67, false, a_const 169 70), (70, false, a_const 40 72), (72, false, a_iload 2 73), (73, false, a_mul 74), (74, false, a_add 75), (75, false, a_iload 4 77), (77, false, a_add 78), (78, false, a_ald false 79), (79, false, a_iload 3 80), (80, false, a_icmp 2 86 83), (83, false, a_const (-2) 85), (85, false, a_iret M_8_setLines), (86, false, a_iinc 4 1 89), (89, false, a_goto 30), (92, false, a_aload 0 93), (93, false, a_cn X M_8_setLines M_8_records 8 1 96), (96, false, a_aload 0 97), (97, false, a_iload 1 98), (98, false, a_iload 2 99), (99, false, a_cv X M_8_setLines M_8_lines 8 3 102), (102, false, a_istore 4 104), (104, false, a_aload 0 105), (105, false, a_gr 8 0 108), (108, false, a_const 1 109), (109, false, a_const 20 111), (111, false, a_iload 2 112), (112, false, a_mul 113), (113, false, a_add 114), (114, false, a_iload 1 115), (115, false, a_add 116), (116, false, a_iload 3 117), (117, false, a_ast false 118), (118, false, a_iload 4 120), (120, false, a_iret M_8_setLines)]
set_option maxRecDepth 20000 in
theorem t_8_setLines (X : XT) : tget (tab_8_setLines X) 0 = some (false, a_aload 0 1) ∧ tget (tab_8_setLines X) 1 = some (false, a_iload 1 2) ∧ tget (tab_8_setLines X) 2 = some (false, a_cv X M_8_setLines M_8_isPair 8 2 5) ∧ tget (tab_8_setLines X) 5 = some (false, a_if 0 25 8) ∧ tget (tab_8_setLines X) 8 = some (false, a_iload 2 9) ∧ tget (tab_8_setLines X) 9 = some (false, a_sv X M_8_setLines M_8_isSide 1 12) ∧ tget (tab_8_setLines X) 12 = some (false, a_if 0 25 15) ∧ tget (tab_8_setLines X) 15 = some (false, a_iload 3 16) ∧ tget (tab_8_setLines X) 16 = some (false, a_const 1 17) ∧ tget (tab_8_setLines X) 17 = some (false, a_const 30 19) ∧ tget (tab_8_setLines X) 19 = some (false, a_sv X M_8_setLines M_8_in 3 22) ∧ tget (tab_8_setLines X) 22 = some (false, a_if 1 27 25) ∧ tget (tab_8_setLines X) 25 = some (false, a_const (-1) 26) ∧ tget (tab_8_setLines X) 26 = some (false, a_iret M_8_setLines) ∧ tget (tab_8_setLines X) 27 = some (false, a_const 0 28) ∧ tget (tab_8_setLines X) 28 = some (false, a_istore 4 30) ∧ tget (tab_8_setLines X) 30 = some (true, a_iload 4 32) ∧ tget (tab_8_setLines X) 32 = some (false, a_aload 0 33) ∧ tget (tab_8_setLines X) 33 = some (false, a_gr 8 0 36) ∧ tget (tab_8_setLines X) 36 = some (false, a_const 87 38) ∧ tget (tab_8_setLines X) 38 = some (false, a_iload 2 39) ∧ tget (tab_8_setLines X) 39 = some (false, a_add 40) ∧ tget (tab_8_setLines X) 40 = some (false, a_ald false 41) ∧ tget (tab_8_setLines X) 41 = some (false, a_icmp 3 92 44) ∧ tget (tab_8_setLines X) 44 = some (false, a_aload 0 45) ∧ tget (tab_8_setLines X) 45 = some (false, a_gr 8 0 48) ∧ tget (tab_8_setLines X) 48 = some (false, a_const 89 50) ∧ tget (tab_8_setLines X) 50 = some (false, a_const 40 52) ∧ tget (tab_8_setLines X) 52 = some (false, a_iload 2 53) ∧ tget (tab_8_setLines X) 53 = some (false, a_mul 54) ∧ tget (tab_8_setLines X) 54 = some (false, a_add 55) ∧ tget (tab_8_setLines X) 55 = some (false, a_iload 4 57) ∧ tget (tab_8_setLines X) 57 = some (false, a_add 58) ∧ tget (tab_8_setLines X) 58 = some (false, a_ald false 59) ∧ tget (tab_8_setLines X) 59 = some (false, a_iload 1 60) ∧ tget (tab_8_setLines X) 60 = some (false, a_icmp 1 86 63) ∧ tget (tab_8_setLines X) 63 = some (false, a_aload 0 64) ∧ tget (tab_8_setLines X) 64 = some (false, a_gr 8 0 67) ∧ tget (tab_8_setLines X) 67 = some (false, a_const 169 70) ∧ tget (tab_8_setLines X) 70 = some (false, a_const 40 72) ∧ tget (tab_8_setLines X) 72 = some (false, a_iload 2 73) ∧ tget (tab_8_setLines X) 73 = some (false, a_mul 74) ∧ tget (tab_8_setLines X) 74 = some (false, a_add 75) ∧ tget (tab_8_setLines X) 75 = some (false, a_iload 4 77) ∧ tget (tab_8_setLines X) 77 = some (false, a_add 78) ∧ tget (tab_8_setLines X) 78 = some (false, a_ald false 79) ∧ tget (tab_8_setLines X) 79 = some (false, a_iload 3 80) ∧ tget (tab_8_setLines X) 80 = some (false, a_icmp 2 86 83) ∧ tget (tab_8_setLines X) 83 = some (false, a_const (-2) 85) ∧ tget (tab_8_setLines X) 85 = some (false, a_iret M_8_setLines) ∧ tget (tab_8_setLines X) 86 = some (false, a_iinc 4 1 89) ∧ tget (tab_8_setLines X) 89 = some (false, a_goto 30) ∧ tget (tab_8_setLines X) 92 = some (false, a_aload 0 93) ∧ tget (tab_8_setLines X) 93 = some (false, a_cn X M_8_setLines M_8_records 8 1 96) ∧ tget (tab_8_setLines X) 96 = some (false, a_aload 0 97) ∧ tget (tab_8_setLines X) 97 = some (false, a_iload 1 98) ∧ tget (tab_8_setLines X) 98 = some (false, a_iload 2 99) ∧ tget (tab_8_setLines X) 99 = some (false, a_cv X M_8_setLines M_8_lines 8 3 102) ∧ tget (tab_8_setLines X) 102 = some (false, a_istore 4 104) ∧ tget (tab_8_setLines X) 104 = some (false, a_aload 0 105) ∧ tget (tab_8_setLines X) 105 = some (false, a_gr 8 0 108) ∧ tget (tab_8_setLines X) 108 = some (false, a_const 1 109) ∧ tget (tab_8_setLines X) 109 = some (false, a_const 20 111) ∧ tget (tab_8_setLines X) 111 = some (false, a_iload 2 112) ∧ tget (tab_8_setLines X) 112 = some (false, a_mul 113) ∧ tget (tab_8_setLines X) 113 = some (false, a_add 114) ∧ tget (tab_8_setLines X) 114 = some (false, a_iload 1 115) ∧ tget (tab_8_setLines X) 115 = some (false, a_add 116) ∧ tget (tab_8_setLines X) 116 = some (false, a_iload 3 117) ∧ tget (tab_8_setLines X) 117 = some (false, a_ast false 118) ∧ tget (tab_8_setLines X) 118 = some (false, a_iload 4 120) ∧ tget (tab_8_setLines X) 120 = some (false, a_iret M_8_setLines) := ⟨rfl, rfl, rfl, rfl, rfl, rfl, rfl, rfl, rfl, rfl, rfl, rfl, rfl, rfl, rfl, rfl, rfl, rfl, rfl, rfl, rfl, rfl, rfl, rfl, rfl, rfl, rfl, rfl, rfl, rfl, rfl, rfl, rfl, rfl, rfl, rfl, rfl, rfl, rfl, rfl, rfl, rfl, rfl, rfl, rfl, rfl, rfl, rfl, rfl, rfl, rfl, rfl, rfl, rfl, rfl, rfl, rfl, rfl, rfl, rfl, rfl, rfl, rfl, rfl, rfl, rfl, rfl, rfl, rfl, rfl, rfl, rfl⟩
theorem tok_8_setLines (X : XT) : TabOK X M_8_setLines (tab_8_setLines X) := by
  unfold tab_8_setLines
  refine tok_cons (snd_aload_n dX8_setLines_0 rfl rfl) ?_
  refine tok_cons (snd_iload_n dX8_setLines_1 rfl rfl) ?_
  refine tok_cons (snd_cv dX8_setLines_2 mok_8_isPair ⟨wm8_66, wi_8_isPair, wl_8_isPair⟩ (rc := (RX8, TX8, 21)) rfl rfl pn_8_isPair (by decide) ⟨rfl, rfl⟩ rfl) ?_
  refine tok_cons (snd_if_eq dX8_setLines_5 (by decide) rfl) ?_
  refine tok_cons (snd_iload_n dX8_setLines_8 rfl rfl) ?_
  refine tok_cons (snd_sv dX8_setLines_9 mok_8_isSide ⟨ws_8_isSide, Or.inl ⟨wm8_70, rfl⟩⟩ pn_8_isSide (by decide) ⟨rfl, rfl⟩ rfl) ?_
  refine tok_cons (snd_if_eq dX8_setLines_12 (by decide) rfl) ?_
  refine tok_cons (snd_iload_n dX8_setLines_15 rfl rfl) ?_
  refine tok_cons (snd_iconst dX8_setLines_16 rfl (inr_d rfl) rfl) ?_
  refine tok_cons (snd_bipush dX8_setLines_17 (by decide) (inr_d rfl) rfl) ?_
  refine tok_cons (snd_sv dX8_setLines_19 mok_8_in ⟨ws_8_in, Or.inl ⟨wm8_62, rfl⟩⟩ pn_8_in (by decide) ⟨rfl, rfl⟩ rfl) ?_
  refine tok_cons (snd_if_ne dX8_setLines_22 (by decide) rfl) ?_
  refine tok_cons (snd_iconst dX8_setLines_25 rfl (inr_d rfl) rfl) ?_
  refine tok_cons (snd_iret dX8_setLines_26 rfl) ?_
  refine tok_cons (snd_iconst dX8_setLines_27 rfl (inr_d rfl) rfl) ?_
  refine tok_cons (snd_istore dX8_setLines_28 rfl (by decide)) ?_
  refine tok_cons (snd_iload dX8_setLines_30 rfl) ?_
  refine tok_cons (snd_aload_n dX8_setLines_32 rfl rfl) ?_
  refine tok_cons (snd_gr (C := RX8) (T := TX8) (N := 21) dX8_setLines_33 rfl (by decide) rfl wf8_7 inX8 rfl) ?_
  refine tok_cons (snd_bipush dX8_setLines_36 (by decide) (inr_d rfl) rfl) ?_
  refine tok_cons (snd_iload_n dX8_setLines_38 rfl rfl) ?_
  refine tok_cons (snd_add dX8_setLines_39 rfl) ?_
  refine tok_cons (snd_iald dX8_setLines_40 rfl) ?_
  refine tok_cons (snd_icmp_ge dX8_setLines_41 (by decide) rfl) ?_
  refine tok_cons (snd_aload_n dX8_setLines_44 rfl rfl) ?_
  refine tok_cons (snd_gr (C := RX8) (T := TX8) (N := 21) dX8_setLines_45 rfl (by decide) rfl wf8_7 inX8 rfl) ?_
  refine tok_cons (snd_bipush dX8_setLines_48 (by decide) (inr_d rfl) rfl) ?_
  refine tok_cons (snd_bipush dX8_setLines_50 (by decide) (inr_d rfl) rfl) ?_
  refine tok_cons (snd_iload_n dX8_setLines_52 rfl rfl) ?_
  refine tok_cons (snd_mul dX8_setLines_53 rfl) ?_
  refine tok_cons (snd_add dX8_setLines_54 rfl) ?_
  refine tok_cons (snd_iload dX8_setLines_55 rfl) ?_
  refine tok_cons (snd_add dX8_setLines_57 rfl) ?_
  refine tok_cons (snd_iald dX8_setLines_58 rfl) ?_
  refine tok_cons (snd_iload_n dX8_setLines_59 rfl rfl) ?_
  refine tok_cons (snd_icmp_ne dX8_setLines_60 (by decide) rfl) ?_
  refine tok_cons (snd_aload_n dX8_setLines_63 rfl rfl) ?_
  refine tok_cons (snd_gr (C := RX8) (T := TX8) (N := 21) dX8_setLines_64 rfl (by decide) rfl wf8_7 inX8 rfl) ?_
  refine tok_cons (snd_sipush dX8_setLines_67 (by decide) (inr_d rfl) rfl) ?_
  refine tok_cons (snd_bipush dX8_setLines_70 (by decide) (inr_d rfl) rfl) ?_
  refine tok_cons (snd_iload_n dX8_setLines_72 rfl rfl) ?_
  refine tok_cons (snd_mul dX8_setLines_73 rfl) ?_
  refine tok_cons (snd_add dX8_setLines_74 rfl) ?_
  refine tok_cons (snd_iload dX8_setLines_75 rfl) ?_
  refine tok_cons (snd_add dX8_setLines_77 rfl) ?_
  refine tok_cons (snd_iald dX8_setLines_78 rfl) ?_
  refine tok_cons (snd_iload_n dX8_setLines_79 rfl rfl) ?_
  refine tok_cons (snd_icmp_lt dX8_setLines_80 (by decide) rfl) ?_
  refine tok_cons (snd_bipush dX8_setLines_83 (by decide) (inr_d rfl) rfl) ?_
  refine tok_cons (snd_iret dX8_setLines_85 rfl) ?_
  refine tok_cons (snd_iinc dX8_setLines_86 rfl rfl (by decide)) ?_
  refine tok_cons (snd_goto dX8_setLines_89 (by decide)) ?_
  refine tok_cons (snd_aload_n dX8_setLines_92 rfl rfl) ?_
  refine tok_cons (snd_cn dX8_setLines_93 mok_8_records ⟨wm8_81, wi_8_records, wl_8_records⟩ (rc := (RX8, TX8, 21)) rfl rfl pn_8_records (by decide) ⟨rfl, rfl⟩ rfl) ?_
  refine tok_cons (snd_aload_n dX8_setLines_96 rfl rfl) ?_
  refine tok_cons (snd_iload_n dX8_setLines_97 rfl rfl) ?_
  refine tok_cons (snd_iload_n dX8_setLines_98 rfl rfl) ?_
  refine tok_cons (snd_cv dX8_setLines_99 mok_8_lines ⟨wm8_73, wi_8_lines, wl_8_lines⟩ (rc := (RX8, TX8, 21)) rfl rfl pn_8_lines (by decide) ⟨rfl, rfl⟩ rfl) ?_
  refine tok_cons (snd_istore dX8_setLines_102 rfl (by decide)) ?_
  refine tok_cons (snd_aload_n dX8_setLines_104 rfl rfl) ?_
  refine tok_cons (snd_gr (C := RX8) (T := TX8) (N := 21) dX8_setLines_105 rfl (by decide) rfl wf8_7 inX8 rfl) ?_
  refine tok_cons (snd_iconst dX8_setLines_108 rfl (inr_d rfl) rfl) ?_
  refine tok_cons (snd_bipush dX8_setLines_109 (by decide) (inr_d rfl) rfl) ?_
  refine tok_cons (snd_iload_n dX8_setLines_111 rfl rfl) ?_
  refine tok_cons (snd_mul dX8_setLines_112 rfl) ?_
  refine tok_cons (snd_add dX8_setLines_113 rfl) ?_
  refine tok_cons (snd_iload_n dX8_setLines_114 rfl rfl) ?_
  refine tok_cons (snd_add dX8_setLines_115 rfl) ?_
  refine tok_cons (snd_iload_n dX8_setLines_116 rfl rfl) ?_
  refine tok_cons (snd_iast dX8_setLines_117 rfl) ?_
  refine tok_cons (snd_iload dX8_setLines_118 rfl) ?_
  refine tok_cons (snd_iret dX8_setLines_120 rfl) ?_
  exact tok_nil
def tab_8_setFlag (X : XT) : Tab := [(0, false, a_aload 0 1), (1, false, a_iload 1 2), (2, false, a_cv X M_8_setFlag M_8_isPair 8 2 5), (5, false, a_if 0 26 8), (8, false, a_iload 2 9), (9, false, a_const 0 10), (10, false, a_const 1 11), (11, false, a_sv X M_8_setFlag M_8_in 3 14), (14, false, a_if 0 26 17), (17, false, a_iload 3 18), (18, false, a_const 0 19), (19, false, a_const 1 20), (20, false, a_sv X M_8_setFlag M_8_in 3 23), (23, false, a_if 1 28 26), (26, false, a_const (-1) 27), (27, false, a_iret M_8_setFlag), (28, false, a_aload 0 29), (29, false, a_cn X M_8_setFlag M_8_records 8 1 32), (32, false, a_aload 0 33), (33, false, a_gr 8 0 36), (36, false, a_const 41 38), (38, false, a_const 20 40), (40, false, a_iload 2 41), (41, false, a_mul 42), (42, false, a_add 43), (43, false, a_iload 1 44), (44, false, a_add 45), (45, false, a_ald false 46), (46, false, a_istore 4 48), (48, false, a_aload 0 49), (49, false, a_gr 8 0 52), (52, false, a_const 41 54), (54, false, a_const 20 56), (56, false, a_iload 2 57), (57, false, a_mul 58), (58, false, a_add 59), (59, false, a_iload 1 60), (60, false, a_add 61), (61, false, a_iload 3 62), (62, false, a_ast false 63), (63, false, a_iload 4 65), (65, false, a_iret M_8_setFlag)]
set_option maxRecDepth 20000 in
theorem t_8_setFlag (X : XT) : tget (tab_8_setFlag X) 0 = some (false, a_aload 0 1) ∧ tget (tab_8_setFlag X) 1 = some (false, a_iload 1 2) ∧ tget (tab_8_setFlag X) 2 = some (false, a_cv X M_8_setFlag M_8_isPair 8 2 5) ∧ tget (tab_8_setFlag X) 5 = some (false, a_if 0 26 8) ∧ tget (tab_8_setFlag X) 8 = some (false, a_iload 2 9) ∧ tget (tab_8_setFlag X) 9 = some (false, a_const 0 10) ∧ tget (tab_8_setFlag X) 10 = some (false, a_const 1 11) ∧ tget (tab_8_setFlag X) 11 = some (false, a_sv X M_8_setFlag M_8_in 3 14) ∧ tget (tab_8_setFlag X) 14 = some (false, a_if 0 26 17) ∧ tget (tab_8_setFlag X) 17 = some (false, a_iload 3 18) ∧ tget (tab_8_setFlag X) 18 = some (false, a_const 0 19) ∧ tget (tab_8_setFlag X) 19 = some (false, a_const 1 20) ∧ tget (tab_8_setFlag X) 20 = some (false, a_sv X M_8_setFlag M_8_in 3 23) ∧ tget (tab_8_setFlag X) 23 = some (false, a_if 1 28 26) ∧ tget (tab_8_setFlag X) 26 = some (false, a_const (-1) 27) ∧ tget (tab_8_setFlag X) 27 = some (false, a_iret M_8_setFlag) ∧ tget (tab_8_setFlag X) 28 = some (false, a_aload 0 29) ∧ tget (tab_8_setFlag X) 29 = some (false, a_cn X M_8_setFlag M_8_records 8 1 32) ∧ tget (tab_8_setFlag X) 32 = some (false, a_aload 0 33) ∧ tget (tab_8_setFlag X) 33 = some (false, a_gr 8 0 36) ∧ tget (tab_8_setFlag X) 36 = some (false, a_const 41 38) ∧ tget (tab_8_setFlag X) 38 = some (false, a_const 20 40) ∧ tget (tab_8_setFlag X) 40 = some (false, a_iload 2 41) ∧ tget (tab_8_setFlag X) 41 = some (false, a_mul 42) ∧ tget (tab_8_setFlag X) 42 = some (false, a_add 43) ∧ tget (tab_8_setFlag X) 43 = some (false, a_iload 1 44) ∧ tget (tab_8_setFlag X) 44 = some (false, a_add 45) ∧ tget (tab_8_setFlag X) 45 = some (false, a_ald false 46) ∧ tget (tab_8_setFlag X) 46 = some (false, a_istore 4 48) ∧ tget (tab_8_setFlag X) 48 = some (false, a_aload 0 49) ∧ tget (tab_8_setFlag X) 49 = some (false, a_gr 8 0 52) ∧ tget (tab_8_setFlag X) 52 = some (false, a_const 41 54) ∧ tget (tab_8_setFlag X) 54 = some (false, a_const 20 56) ∧ tget (tab_8_setFlag X) 56 = some (false, a_iload 2 57) ∧ tget (tab_8_setFlag X) 57 = some (false, a_mul 58) ∧ tget (tab_8_setFlag X) 58 = some (false, a_add 59) ∧ tget (tab_8_setFlag X) 59 = some (false, a_iload 1 60) ∧ tget (tab_8_setFlag X) 60 = some (false, a_add 61) ∧ tget (tab_8_setFlag X) 61 = some (false, a_iload 3 62) ∧ tget (tab_8_setFlag X) 62 = some (false, a_ast false 63) ∧ tget (tab_8_setFlag X) 63 = some (false, a_iload 4 65) ∧ tget (tab_8_setFlag X) 65 = some (false, a_iret M_8_setFlag) := ⟨rfl, rfl, rfl, rfl, rfl, rfl, rfl, rfl, rfl, rfl, rfl, rfl, rfl, rfl, rfl, rfl, rfl, rfl, rfl, rfl, rfl, rfl, rfl, rfl, rfl, rfl, rfl, rfl, rfl, rfl, rfl, rfl, rfl, rfl, rfl, rfl, rfl, rfl, rfl, rfl, rfl, rfl⟩
theorem tok_8_setFlag (X : XT) : TabOK X M_8_setFlag (tab_8_setFlag X) := by
  unfold tab_8_setFlag
  refine tok_cons (snd_aload_n dX8_setFlag_0 rfl rfl) ?_
  refine tok_cons (snd_iload_n dX8_setFlag_1 rfl rfl) ?_
  refine tok_cons (snd_cv dX8_setFlag_2 mok_8_isPair ⟨wm8_66, wi_8_isPair, wl_8_isPair⟩ (rc := (RX8, TX8, 21)) rfl rfl pn_8_isPair (by decide) ⟨rfl, rfl⟩ rfl) ?_
  refine tok_cons (snd_if_eq dX8_setFlag_5 (by decide) rfl) ?_
  refine tok_cons (snd_iload_n dX8_setFlag_8 rfl rfl) ?_
  refine tok_cons (snd_iconst dX8_setFlag_9 rfl (inr_d rfl) rfl) ?_
  refine tok_cons (snd_iconst dX8_setFlag_10 rfl (inr_d rfl) rfl) ?_
  refine tok_cons (snd_sv dX8_setFlag_11 mok_8_in ⟨ws_8_in, Or.inl ⟨wm8_62, rfl⟩⟩ pn_8_in (by decide) ⟨rfl, rfl⟩ rfl) ?_
  refine tok_cons (snd_if_eq dX8_setFlag_14 (by decide) rfl) ?_
  refine tok_cons (snd_iload_n dX8_setFlag_17 rfl rfl) ?_
  refine tok_cons (snd_iconst dX8_setFlag_18 rfl (inr_d rfl) rfl) ?_
  refine tok_cons (snd_iconst dX8_setFlag_19 rfl (inr_d rfl) rfl) ?_
  refine tok_cons (snd_sv dX8_setFlag_20 mok_8_in ⟨ws_8_in, Or.inl ⟨wm8_62, rfl⟩⟩ pn_8_in (by decide) ⟨rfl, rfl⟩ rfl) ?_
  refine tok_cons (snd_if_ne dX8_setFlag_23 (by decide) rfl) ?_
  refine tok_cons (snd_iconst dX8_setFlag_26 rfl (inr_d rfl) rfl) ?_
  refine tok_cons (snd_iret dX8_setFlag_27 rfl) ?_
  refine tok_cons (snd_aload_n dX8_setFlag_28 rfl rfl) ?_
  refine tok_cons (snd_cn dX8_setFlag_29 mok_8_records ⟨wm8_81, wi_8_records, wl_8_records⟩ (rc := (RX8, TX8, 21)) rfl rfl pn_8_records (by decide) ⟨rfl, rfl⟩ rfl) ?_
  refine tok_cons (snd_aload_n dX8_setFlag_32 rfl rfl) ?_
  refine tok_cons (snd_gr (C := RX8) (T := TX8) (N := 21) dX8_setFlag_33 rfl (by decide) rfl wf8_7 inX8 rfl) ?_
  refine tok_cons (snd_bipush dX8_setFlag_36 (by decide) (inr_d rfl) rfl) ?_
  refine tok_cons (snd_bipush dX8_setFlag_38 (by decide) (inr_d rfl) rfl) ?_
  refine tok_cons (snd_iload_n dX8_setFlag_40 rfl rfl) ?_
  refine tok_cons (snd_mul dX8_setFlag_41 rfl) ?_
  refine tok_cons (snd_add dX8_setFlag_42 rfl) ?_
  refine tok_cons (snd_iload_n dX8_setFlag_43 rfl rfl) ?_
  refine tok_cons (snd_add dX8_setFlag_44 rfl) ?_
  refine tok_cons (snd_iald dX8_setFlag_45 rfl) ?_
  refine tok_cons (snd_istore dX8_setFlag_46 rfl (by decide)) ?_
  refine tok_cons (snd_aload_n dX8_setFlag_48 rfl rfl) ?_
  refine tok_cons (snd_gr (C := RX8) (T := TX8) (N := 21) dX8_setFlag_49 rfl (by decide) rfl wf8_7 inX8 rfl) ?_
  refine tok_cons (snd_bipush dX8_setFlag_52 (by decide) (inr_d rfl) rfl) ?_
  refine tok_cons (snd_bipush dX8_setFlag_54 (by decide) (inr_d rfl) rfl) ?_
  refine tok_cons (snd_iload_n dX8_setFlag_56 rfl rfl) ?_
  refine tok_cons (snd_mul dX8_setFlag_57 rfl) ?_
  refine tok_cons (snd_add dX8_setFlag_58 rfl) ?_
  refine tok_cons (snd_iload_n dX8_setFlag_59 rfl rfl) ?_
  refine tok_cons (snd_add dX8_setFlag_60 rfl) ?_
  refine tok_cons (snd_iload_n dX8_setFlag_61 rfl rfl) ?_
  refine tok_cons (snd_iast dX8_setFlag_62 rfl) ?_
  refine tok_cons (snd_iload dX8_setFlag_63 rfl) ?_
  refine tok_cons (snd_iret dX8_setFlag_65 rfl) ?_
  exact tok_nil
def tab_8_removeNote (X : XT) : Tab := [(0, false, a_iload 1 1), (1, false, a_sv X M_8_removeNote M_8_isSide 1 4), (4, false, a_if 0 11 7), (7, false, a_iload 2 8), (8, false, a_if 3 13 11), (11, false, a_const (-1) 12), (12, false, a_iret M_8_removeNote), (13, false, a_iload 2 14), (14, false, a_aload 0 15), (15, false, a_gr 8 0 18), (18, false, a_const 87 20), (20, false, a_iload 1 21), (21, false, a_add 22), (22, false, a_ald false 23), (23, false, a_icmp 2 29 26), (26, false, a_const (-4) 28), (28, false, a_iret M_8_removeNote), (29, false, a_aload 0 30), (30, false, a_cn X M_8_removeNote M_8_records 8 1 33), (33, false, a_aload 0 34), (34, false, a_iload 1 35), (35, false, a_iload 2 36), (36, false, a_cn X M_8_removeNote M_8_dropsNote 8 3 39), (39, false, a_aload 0 40), (40, false, a_gr 8 0 43), (43, false, a_const 87 45), (45, false, a_iload 1 46), (46, false, a_add 47), (47, false, a_ald false 48), (48, false, a_iret M_8_removeNote)]
set_option maxRecDepth 20000 in
theorem t_8_removeNote (X : XT) : tget (tab_8_removeNote X) 0 = some (false, a_iload 1 1) ∧ tget (tab_8_removeNote X) 1 = some (false, a_sv X M_8_removeNote M_8_isSide 1 4) ∧ tget (tab_8_removeNote X) 4 = some (false, a_if 0 11 7) ∧ tget (tab_8_removeNote X) 7 = some (false, a_iload 2 8) ∧ tget (tab_8_removeNote X) 8 = some (false, a_if 3 13 11) ∧ tget (tab_8_removeNote X) 11 = some (false, a_const (-1) 12) ∧ tget (tab_8_removeNote X) 12 = some (false, a_iret M_8_removeNote) ∧ tget (tab_8_removeNote X) 13 = some (false, a_iload 2 14) ∧ tget (tab_8_removeNote X) 14 = some (false, a_aload 0 15) ∧ tget (tab_8_removeNote X) 15 = some (false, a_gr 8 0 18) ∧ tget (tab_8_removeNote X) 18 = some (false, a_const 87 20) ∧ tget (tab_8_removeNote X) 20 = some (false, a_iload 1 21) ∧ tget (tab_8_removeNote X) 21 = some (false, a_add 22) ∧ tget (tab_8_removeNote X) 22 = some (false, a_ald false 23) ∧ tget (tab_8_removeNote X) 23 = some (false, a_icmp 2 29 26) ∧ tget (tab_8_removeNote X) 26 = some (false, a_const (-4) 28) ∧ tget (tab_8_removeNote X) 28 = some (false, a_iret M_8_removeNote) ∧ tget (tab_8_removeNote X) 29 = some (false, a_aload 0 30) ∧ tget (tab_8_removeNote X) 30 = some (false, a_cn X M_8_removeNote M_8_records 8 1 33) ∧ tget (tab_8_removeNote X) 33 = some (false, a_aload 0 34) ∧ tget (tab_8_removeNote X) 34 = some (false, a_iload 1 35) ∧ tget (tab_8_removeNote X) 35 = some (false, a_iload 2 36) ∧ tget (tab_8_removeNote X) 36 = some (false, a_cn X M_8_removeNote M_8_dropsNote 8 3 39) ∧ tget (tab_8_removeNote X) 39 = some (false, a_aload 0 40) ∧ tget (tab_8_removeNote X) 40 = some (false, a_gr 8 0 43) ∧ tget (tab_8_removeNote X) 43 = some (false, a_const 87 45) ∧ tget (tab_8_removeNote X) 45 = some (false, a_iload 1 46) ∧ tget (tab_8_removeNote X) 46 = some (false, a_add 47) ∧ tget (tab_8_removeNote X) 47 = some (false, a_ald false 48) ∧ tget (tab_8_removeNote X) 48 = some (false, a_iret M_8_removeNote) := ⟨rfl, rfl, rfl, rfl, rfl, rfl, rfl, rfl, rfl, rfl, rfl, rfl, rfl, rfl, rfl, rfl, rfl, rfl, rfl, rfl, rfl, rfl, rfl, rfl, rfl, rfl, rfl, rfl, rfl, rfl⟩
theorem tok_8_removeNote (X : XT) : TabOK X M_8_removeNote (tab_8_removeNote X) := by
  unfold tab_8_removeNote
  refine tok_cons (snd_iload_n dX8_removeNote_0 rfl rfl) ?_
  refine tok_cons (snd_sv dX8_removeNote_1 mok_8_isSide ⟨ws_8_isSide, Or.inl ⟨wm8_70, rfl⟩⟩ pn_8_isSide (by decide) ⟨rfl, rfl⟩ rfl) ?_
  refine tok_cons (snd_if_eq dX8_removeNote_4 (by decide) rfl) ?_
  refine tok_cons (snd_iload_n dX8_removeNote_7 rfl rfl) ?_
  refine tok_cons (snd_if_ge dX8_removeNote_8 (by decide) rfl) ?_
  refine tok_cons (snd_iconst dX8_removeNote_11 rfl (inr_d rfl) rfl) ?_
  refine tok_cons (snd_iret dX8_removeNote_12 rfl) ?_
  refine tok_cons (snd_iload_n dX8_removeNote_13 rfl rfl) ?_
  refine tok_cons (snd_aload_n dX8_removeNote_14 rfl rfl) ?_
  refine tok_cons (snd_gr (C := RX8) (T := TX8) (N := 21) dX8_removeNote_15 rfl (by decide) rfl wf8_7 inX8 rfl) ?_
  refine tok_cons (snd_bipush dX8_removeNote_18 (by decide) (inr_d rfl) rfl) ?_
  refine tok_cons (snd_iload_n dX8_removeNote_20 rfl rfl) ?_
  refine tok_cons (snd_add dX8_removeNote_21 rfl) ?_
  refine tok_cons (snd_iald dX8_removeNote_22 rfl) ?_
  refine tok_cons (snd_icmp_lt dX8_removeNote_23 (by decide) rfl) ?_
  refine tok_cons (snd_bipush dX8_removeNote_26 (by decide) (inr_d rfl) rfl) ?_
  refine tok_cons (snd_iret dX8_removeNote_28 rfl) ?_
  refine tok_cons (snd_aload_n dX8_removeNote_29 rfl rfl) ?_
  refine tok_cons (snd_cn dX8_removeNote_30 mok_8_records ⟨wm8_81, wi_8_records, wl_8_records⟩ (rc := (RX8, TX8, 21)) rfl rfl pn_8_records (by decide) ⟨rfl, rfl⟩ rfl) ?_
  refine tok_cons (snd_aload_n dX8_removeNote_33 rfl rfl) ?_
  refine tok_cons (snd_iload_n dX8_removeNote_34 rfl rfl) ?_
  refine tok_cons (snd_iload_n dX8_removeNote_35 rfl rfl) ?_
  refine tok_cons (snd_cn dX8_removeNote_36 mok_8_dropsNote ⟨wm8_84, wi_8_dropsNote, wl_8_dropsNote⟩ (rc := (RX8, TX8, 21)) rfl rfl pn_8_dropsNote (by decide) ⟨rfl, rfl⟩ rfl) ?_
  refine tok_cons (snd_aload_n dX8_removeNote_39 rfl rfl) ?_
  refine tok_cons (snd_gr (C := RX8) (T := TX8) (N := 21) dX8_removeNote_40 rfl (by decide) rfl wf8_7 inX8 rfl) ?_
  refine tok_cons (snd_bipush dX8_removeNote_43 (by decide) (inr_d rfl) rfl) ?_
  refine tok_cons (snd_iload_n dX8_removeNote_45 rfl rfl) ?_
  refine tok_cons (snd_add dX8_removeNote_46 rfl) ?_
  refine tok_cons (snd_iald dX8_removeNote_47 rfl) ?_
  refine tok_cons (snd_iret dX8_removeNote_48 rfl) ?_
  exact tok_nil
def tab_8_pairInfo (X : XT) : Tab := [(0, false, a_aload 0 1), (1, false, a_iload 1 2), (2, false, a_cv X M_8_pairInfo M_8_isPair 8 2 5), (5, false, a_if 0 33 8), (8, false, a_iload 2 9), (9, false, a_const 0 10), (10, false, a_const 3 11), (11, false, a_sv X M_8_pairInfo M_8_in 3 14), (14, false, a_if 0 33 17), (17, false, a_aload 0 18), (18, false, a_gr 8 0 21), (21, false, a_const 1 22), (22, false, a_const 20 24), (24, false, a_iload 2 25), (25, false, a_mul 26), (26, false, a_add 27), (27, false, a_iload 1 28), (28, false, a_add 29), (29, false, a_ald false 30), (30, false, a_goto 34), (33, false, a_const (-1) 34), (34, false, a_iret M_8_pairInfo)]
set_option maxRecDepth 20000 in
theorem t_8_pairInfo (X : XT) : tget (tab_8_pairInfo X) 0 = some (false, a_aload 0 1) ∧ tget (tab_8_pairInfo X) 1 = some (false, a_iload 1 2) ∧ tget (tab_8_pairInfo X) 2 = some (false, a_cv X M_8_pairInfo M_8_isPair 8 2 5) ∧ tget (tab_8_pairInfo X) 5 = some (false, a_if 0 33 8) ∧ tget (tab_8_pairInfo X) 8 = some (false, a_iload 2 9) ∧ tget (tab_8_pairInfo X) 9 = some (false, a_const 0 10) ∧ tget (tab_8_pairInfo X) 10 = some (false, a_const 3 11) ∧ tget (tab_8_pairInfo X) 11 = some (false, a_sv X M_8_pairInfo M_8_in 3 14) ∧ tget (tab_8_pairInfo X) 14 = some (false, a_if 0 33 17) ∧ tget (tab_8_pairInfo X) 17 = some (false, a_aload 0 18) ∧ tget (tab_8_pairInfo X) 18 = some (false, a_gr 8 0 21) ∧ tget (tab_8_pairInfo X) 21 = some (false, a_const 1 22) ∧ tget (tab_8_pairInfo X) 22 = some (false, a_const 20 24) ∧ tget (tab_8_pairInfo X) 24 = some (false, a_iload 2 25) ∧ tget (tab_8_pairInfo X) 25 = some (false, a_mul 26) ∧ tget (tab_8_pairInfo X) 26 = some (false, a_add 27) ∧ tget (tab_8_pairInfo X) 27 = some (false, a_iload 1 28) ∧ tget (tab_8_pairInfo X) 28 = some (false, a_add 29) ∧ tget (tab_8_pairInfo X) 29 = some (false, a_ald false 30) ∧ tget (tab_8_pairInfo X) 30 = some (false, a_goto 34) ∧ tget (tab_8_pairInfo X) 33 = some (false, a_const (-1) 34) ∧ tget (tab_8_pairInfo X) 34 = some (false, a_iret M_8_pairInfo) := ⟨rfl, rfl, rfl, rfl, rfl, rfl, rfl, rfl, rfl, rfl, rfl, rfl, rfl, rfl, rfl, rfl, rfl, rfl, rfl, rfl, rfl, rfl⟩
theorem tok_8_pairInfo (X : XT) : TabOK X M_8_pairInfo (tab_8_pairInfo X) := by
  unfold tab_8_pairInfo
  refine tok_cons (snd_aload_n dX8_pairInfo_0 rfl rfl) ?_
  refine tok_cons (snd_iload_n dX8_pairInfo_1 rfl rfl) ?_
  refine tok_cons (snd_cv dX8_pairInfo_2 mok_8_isPair ⟨wm8_66, wi_8_isPair, wl_8_isPair⟩ (rc := (RX8, TX8, 21)) rfl rfl pn_8_isPair (by decide) ⟨rfl, rfl⟩ rfl) ?_
  refine tok_cons (snd_if_eq dX8_pairInfo_5 (by decide) rfl) ?_
  refine tok_cons (snd_iload_n dX8_pairInfo_8 rfl rfl) ?_
  refine tok_cons (snd_iconst dX8_pairInfo_9 rfl (inr_d rfl) rfl) ?_
  refine tok_cons (snd_iconst dX8_pairInfo_10 rfl (inr_d rfl) rfl) ?_
  refine tok_cons (snd_sv dX8_pairInfo_11 mok_8_in ⟨ws_8_in, Or.inl ⟨wm8_62, rfl⟩⟩ pn_8_in (by decide) ⟨rfl, rfl⟩ rfl) ?_
  refine tok_cons (snd_if_eq dX8_pairInfo_14 (by decide) rfl) ?_
  refine tok_cons (snd_aload_n dX8_pairInfo_17 rfl rfl) ?_
  refine tok_cons (snd_gr (C := RX8) (T := TX8) (N := 21) dX8_pairInfo_18 rfl (by decide) rfl wf8_7 inX8 rfl) ?_
  refine tok_cons (snd_iconst dX8_pairInfo_21 rfl (inr_d rfl) rfl) ?_
  refine tok_cons (snd_bipush dX8_pairInfo_22 (by decide) (inr_d rfl) rfl) ?_
  refine tok_cons (snd_iload_n dX8_pairInfo_24 rfl rfl) ?_
  refine tok_cons (snd_mul dX8_pairInfo_25 rfl) ?_
  refine tok_cons (snd_add dX8_pairInfo_26 rfl) ?_
  refine tok_cons (snd_iload_n dX8_pairInfo_27 rfl rfl) ?_
  refine tok_cons (snd_add dX8_pairInfo_28 rfl) ?_
  refine tok_cons (snd_iald dX8_pairInfo_29 rfl) ?_
  refine tok_cons (snd_goto dX8_pairInfo_30 (by decide)) ?_
  refine tok_cons (snd_iconst dX8_pairInfo_33 rfl (inr_d rfl) rfl) ?_
  refine tok_cons (snd_iret dX8_pairInfo_34 rfl) ?_
  exact tok_nil
def tab_8_noteCount (X : XT) : Tab := [(0, false, a_iload 1 1), (1, false, a_sv X M_8_noteCount M_8_isSide 1 4), (4, false, a_if 0 19 7), (7, false, a_aload 0 8), (8, false, a_gr 8 0 11), (11, false, a_const 87 13), (13, false, a_iload 1 14), (14, false, a_add 15), (15, false, a_ald false 16), (16, false, a_goto 20), (19, false, a_const (-1) 20), (20, false, a_iret M_8_noteCount)]
set_option maxRecDepth 20000 in
theorem t_8_noteCount (X : XT) : tget (tab_8_noteCount X) 0 = some (false, a_iload 1 1) ∧ tget (tab_8_noteCount X) 1 = some (false, a_sv X M_8_noteCount M_8_isSide 1 4) ∧ tget (tab_8_noteCount X) 4 = some (false, a_if 0 19 7) ∧ tget (tab_8_noteCount X) 7 = some (false, a_aload 0 8) ∧ tget (tab_8_noteCount X) 8 = some (false, a_gr 8 0 11) ∧ tget (tab_8_noteCount X) 11 = some (false, a_const 87 13) ∧ tget (tab_8_noteCount X) 13 = some (false, a_iload 1 14) ∧ tget (tab_8_noteCount X) 14 = some (false, a_add 15) ∧ tget (tab_8_noteCount X) 15 = some (false, a_ald false 16) ∧ tget (tab_8_noteCount X) 16 = some (false, a_goto 20) ∧ tget (tab_8_noteCount X) 19 = some (false, a_const (-1) 20) ∧ tget (tab_8_noteCount X) 20 = some (false, a_iret M_8_noteCount) := ⟨rfl, rfl, rfl, rfl, rfl, rfl, rfl, rfl, rfl, rfl, rfl, rfl⟩
theorem tok_8_noteCount (X : XT) : TabOK X M_8_noteCount (tab_8_noteCount X) := by
  unfold tab_8_noteCount
  refine tok_cons (snd_iload_n dX8_noteCount_0 rfl rfl) ?_
  refine tok_cons (snd_sv dX8_noteCount_1 mok_8_isSide ⟨ws_8_isSide, Or.inl ⟨wm8_70, rfl⟩⟩ pn_8_isSide (by decide) ⟨rfl, rfl⟩ rfl) ?_
  refine tok_cons (snd_if_eq dX8_noteCount_4 (by decide) rfl) ?_
  refine tok_cons (snd_aload_n dX8_noteCount_7 rfl rfl) ?_
  refine tok_cons (snd_gr (C := RX8) (T := TX8) (N := 21) dX8_noteCount_8 rfl (by decide) rfl wf8_7 inX8 rfl) ?_
  refine tok_cons (snd_bipush dX8_noteCount_11 (by decide) (inr_d rfl) rfl) ?_
  refine tok_cons (snd_iload_n dX8_noteCount_13 rfl rfl) ?_
  refine tok_cons (snd_add dX8_noteCount_14 rfl) ?_
  refine tok_cons (snd_iald dX8_noteCount_15 rfl) ?_
  refine tok_cons (snd_goto dX8_noteCount_16 (by decide)) ?_
  refine tok_cons (snd_iconst dX8_noteCount_19 rfl (inr_d rfl) rfl) ?_
  refine tok_cons (snd_iret dX8_noteCount_20 rfl) ?_
  exact tok_nil
def tab_8_noteInfo (X : XT) : Tab := [(0, false, a_iload 1 1), (1, false, a_sv X M_8_noteInfo M_8_isSide 1 4), (4, false, a_if 0 20 7), (7, false, a_iload 2 8), (8, false, a_if 2 20 11), (11, false, a_iload 3 12), (12, false, a_const 0 13), (13, false, a_const 2 14), (14, false, a_sv X M_8_noteInfo M_8_in 3 17), (17, false, a_if 1 22 20), (20, false, a_const (-1) 21), (21, false, a_iret M_8_noteInfo), (22, false, a_iload 2 23), (23, false, a_aload 0 24), (24, false, a_gr 8 0 27), (27, false, a_const 87 29), (29, false, a_iload 1 30), (30, false, a_add 31), (31, false, a_ald false 32), (32, false, a_icmp 3 57 35), (35, false, a_aload 0 36), (36, false, a_gr 8 0 39), (39, false, a_const 89 41), (41, false, a_const 80 43), (43, false, a_iload 3 44), (44, false, a_mul 45), (45, false, a_add 46), (46, false, a_const 40 48), (48, false, a_iload 1 49), (49, false, a_mul 50), (50, false, a_add 51), (51, false, a_iload 2 52), (52, false, a_add 53), (53, false, a_ald false 54), (54, false, a_goto 59), (57, false, a_const (-4) 59), (59, false, a_iret M_8_noteInfo)]
set_option maxRecDepth 20000 in
theorem t_8_noteInfo (X : XT) : tget (tab_8_noteInfo X) 0 = some (false, a_iload 1 1) ∧ tget (tab_8_noteInfo X) 1 = some (false, a_sv X M_8_noteInfo M_8_isSide 1 4) ∧ tget (tab_8_noteInfo X) 4 = some (false, a_if 0 20 7) ∧ tget (tab_8_noteInfo X) 7 = some (false, a_iload 2 8) ∧ tget (tab_8_noteInfo X) 8 = some (false, a_if 2 20 11) ∧ tget (tab_8_noteInfo X) 11 = some (false, a_iload 3 12) ∧ tget (tab_8_noteInfo X) 12 = some (false, a_const 0 13) ∧ tget (tab_8_noteInfo X) 13 = some (false, a_const 2 14) ∧ tget (tab_8_noteInfo X) 14 = some (false, a_sv X M_8_noteInfo M_8_in 3 17) ∧ tget (tab_8_noteInfo X) 17 = some (false, a_if 1 22 20) ∧ tget (tab_8_noteInfo X) 20 = some (false, a_const (-1) 21) ∧ tget (tab_8_noteInfo X) 21 = some (false, a_iret M_8_noteInfo) ∧ tget (tab_8_noteInfo X) 22 = some (false, a_iload 2 23) ∧ tget (tab_8_noteInfo X) 23 = some (false, a_aload 0 24) ∧ tget (tab_8_noteInfo X) 24 = some (false, a_gr 8 0 27) ∧ tget (tab_8_noteInfo X) 27 = some (false, a_const 87 29) ∧ tget (tab_8_noteInfo X) 29 = some (false, a_iload 1 30) ∧ tget (tab_8_noteInfo X) 30 = some (false, a_add 31) ∧ tget (tab_8_noteInfo X) 31 = some (false, a_ald false 32) ∧ tget (tab_8_noteInfo X) 32 = some (false, a_icmp 3 57 35) ∧ tget (tab_8_noteInfo X) 35 = some (false, a_aload 0 36) ∧ tget (tab_8_noteInfo X) 36 = some (false, a_gr 8 0 39) ∧ tget (tab_8_noteInfo X) 39 = some (false, a_const 89 41) ∧ tget (tab_8_noteInfo X) 41 = some (false, a_const 80 43) ∧ tget (tab_8_noteInfo X) 43 = some (false, a_iload 3 44) ∧ tget (tab_8_noteInfo X) 44 = some (false, a_mul 45) ∧ tget (tab_8_noteInfo X) 45 = some (false, a_add 46) ∧ tget (tab_8_noteInfo X) 46 = some (false, a_const 40 48) ∧ tget (tab_8_noteInfo X) 48 = some (false, a_iload 1 49) ∧ tget (tab_8_noteInfo X) 49 = some (false, a_mul 50) ∧ tget (tab_8_noteInfo X) 50 = some (false, a_add 51) ∧ tget (tab_8_noteInfo X) 51 = some (false, a_iload 2 52) ∧ tget (tab_8_noteInfo X) 52 = some (false, a_add 53) ∧ tget (tab_8_noteInfo X) 53 = some (false, a_ald false 54) ∧ tget (tab_8_noteInfo X) 54 = some (false, a_goto 59) ∧ tget (tab_8_noteInfo X) 57 = some (false, a_const (-4) 59) ∧ tget (tab_8_noteInfo X) 59 = some (false, a_iret M_8_noteInfo) := ⟨rfl, rfl, rfl, rfl, rfl, rfl, rfl, rfl, rfl, rfl, rfl, rfl, rfl, rfl, rfl, rfl, rfl, rfl, rfl, rfl, rfl, rfl, rfl, rfl, rfl, rfl, rfl, rfl, rfl, rfl, rfl, rfl, rfl, rfl, rfl, rfl, rfl⟩
theorem tok_8_noteInfo (X : XT) : TabOK X M_8_noteInfo (tab_8_noteInfo X) := by
  unfold tab_8_noteInfo
  refine tok_cons (snd_iload_n dX8_noteInfo_0 rfl rfl) ?_
  refine tok_cons (snd_sv dX8_noteInfo_1 mok_8_isSide ⟨ws_8_isSide, Or.inl ⟨wm8_70, rfl⟩⟩ pn_8_isSide (by decide) ⟨rfl, rfl⟩ rfl) ?_
  refine tok_cons (snd_if_eq dX8_noteInfo_4 (by decide) rfl) ?_
  refine tok_cons (snd_iload_n dX8_noteInfo_7 rfl rfl) ?_
  refine tok_cons (snd_if_lt dX8_noteInfo_8 (by decide) rfl) ?_
  refine tok_cons (snd_iload_n dX8_noteInfo_11 rfl rfl) ?_
  refine tok_cons (snd_iconst dX8_noteInfo_12 rfl (inr_d rfl) rfl) ?_
  refine tok_cons (snd_iconst dX8_noteInfo_13 rfl (inr_d rfl) rfl) ?_
  refine tok_cons (snd_sv dX8_noteInfo_14 mok_8_in ⟨ws_8_in, Or.inl ⟨wm8_62, rfl⟩⟩ pn_8_in (by decide) ⟨rfl, rfl⟩ rfl) ?_
  refine tok_cons (snd_if_ne dX8_noteInfo_17 (by decide) rfl) ?_
  refine tok_cons (snd_iconst dX8_noteInfo_20 rfl (inr_d rfl) rfl) ?_
  refine tok_cons (snd_iret dX8_noteInfo_21 rfl) ?_
  refine tok_cons (snd_iload_n dX8_noteInfo_22 rfl rfl) ?_
  refine tok_cons (snd_aload_n dX8_noteInfo_23 rfl rfl) ?_
  refine tok_cons (snd_gr (C := RX8) (T := TX8) (N := 21) dX8_noteInfo_24 rfl (by decide) rfl wf8_7 inX8 rfl) ?_
  refine tok_cons (snd_bipush dX8_noteInfo_27 (by decide) (inr_d rfl) rfl) ?_
  refine tok_cons (snd_iload_n dX8_noteInfo_29 rfl rfl) ?_
  refine tok_cons (snd_add dX8_noteInfo_30 rfl) ?_
  refine tok_cons (snd_iald dX8_noteInfo_31 rfl) ?_
  refine tok_cons (snd_icmp_ge dX8_noteInfo_32 (by decide) rfl) ?_
  refine tok_cons (snd_aload_n dX8_noteInfo_35 rfl rfl) ?_
  refine tok_cons (snd_gr (C := RX8) (T := TX8) (N := 21) dX8_noteInfo_36 rfl (by decide) rfl wf8_7 inX8 rfl) ?_
  refine tok_cons (snd_bipush dX8_noteInfo_39 (by decide) (inr_d rfl) rfl) ?_
  refine tok_cons (snd_bipush dX8_noteInfo_41 (by decide) (inr_d rfl) rfl) ?_
  refine tok_cons (snd_iload_n dX8_noteInfo_43 rfl rfl) ?_
  refine tok_cons (snd_mul dX8_noteInfo_44 rfl) ?_
  refine tok_cons (snd_add dX8_noteInfo_45 rfl) ?_
  refine tok_cons (snd_bipush dX8_noteInfo_46 (by decide) (inr_d rfl) rfl) ?_
  refine tok_cons (snd_iload_n dX8_noteInfo_48 rfl rfl) ?_
  refine tok_cons (snd_mul dX8_noteInfo_49 rfl) ?_
  refine tok_cons (snd_add dX8_noteInfo_50 rfl) ?_
  refine tok_cons (snd_iload_n dX8_noteInfo_51 rfl rfl) ?_
  refine tok_cons (snd_add dX8_noteInfo_52 rfl) ?_
  refine tok_cons (snd_iald dX8_noteInfo_53 rfl) ?_
  refine tok_cons (snd_goto dX8_noteInfo_54 (by decide)) ?_
  refine tok_cons (snd_bipush dX8_noteInfo_57 (by decide) (inr_d rfl) rfl) ?_
  refine tok_cons (snd_iret dX8_noteInfo_59 rfl) ?_
  exact tok_nil
def tab_8_fitsOn (X : XT) : Tab := [(0, false, a_aload 0 1), (1, false, a_iload 1 2), (2, false, a_aload 0 3), (3, false, a_gi 8 17 17 6), (6, false, a_aload 0 7), (7, false, a_gr 8 18 10), (10, false, a_iload 1 11), (11, false, a_ald false 12), (12, false, a_iload 2 13), (13, false, a_add 14), (14, false, a_cv X M_8_fitsOn M_8_notesAhead 8 4 17), (17, false, a_istore 3 18), (18, false, a_aload 0 19), (19, false, a_iload 1 20), (20, false, a_iload 3 21), (21, false, a_cv X M_8_fitsOn M_8_notedLines 8 3 24), (24, false, a_aload 0 25), (25, false, a_iload 1 26), (26, false, a_iload 3 27), (27, false, a_cv X M_8_fitsOn M_8_mostCarried 8 3 30), (30, false, a_sub 31), (31, false, a_istore 4 33), (33, false, a_aload 0 34), (34, false, a_iload 1 35), (35, false, a_cv X M_8_fitsOn M_8_beginning 8 2 38), (38, false, a_iload 2 39), (39, false, a_add 40), (40, false, a_aload 0 41), (41, false, a_iload 4 43), (43, false, a_cv X M_8_fitsOn M_8_rowsOf 8 2 46), (46, false, a_add 47), (47, false, a_aload 0 48), (48, false, a_gr 8 0 51), (51, false, a_const 81 53), (53, false, a_ald false 54), (54, false, a_icmp 4 61 57), (57, false, a_const 1 58), (58, false, a_goto 62), (61, false, a_const 0 62), (62, false, a_zret M_8_fitsOn)]
set_option maxRecDepth 20000 in
theorem t_8_fitsOn (X : XT) : tget (tab_8_fitsOn X) 0 = some (false, a_aload 0 1) ∧ tget (tab_8_fitsOn X) 1 = some (false, a_iload 1 2) ∧ tget (tab_8_fitsOn X) 2 = some (false, a_aload 0 3) ∧ tget (tab_8_fitsOn X) 3 = some (false, a_gi 8 17 17 6) ∧ tget (tab_8_fitsOn X) 6 = some (false, a_aload 0 7) ∧ tget (tab_8_fitsOn X) 7 = some (false, a_gr 8 18 10) ∧ tget (tab_8_fitsOn X) 10 = some (false, a_iload 1 11) ∧ tget (tab_8_fitsOn X) 11 = some (false, a_ald false 12) ∧ tget (tab_8_fitsOn X) 12 = some (false, a_iload 2 13) ∧ tget (tab_8_fitsOn X) 13 = some (false, a_add 14) ∧ tget (tab_8_fitsOn X) 14 = some (false, a_cv X M_8_fitsOn M_8_notesAhead 8 4 17) ∧ tget (tab_8_fitsOn X) 17 = some (false, a_istore 3 18) ∧ tget (tab_8_fitsOn X) 18 = some (false, a_aload 0 19) ∧ tget (tab_8_fitsOn X) 19 = some (false, a_iload 1 20) ∧ tget (tab_8_fitsOn X) 20 = some (false, a_iload 3 21) ∧ tget (tab_8_fitsOn X) 21 = some (false, a_cv X M_8_fitsOn M_8_notedLines 8 3 24) ∧ tget (tab_8_fitsOn X) 24 = some (false, a_aload 0 25) ∧ tget (tab_8_fitsOn X) 25 = some (false, a_iload 1 26) ∧ tget (tab_8_fitsOn X) 26 = some (false, a_iload 3 27) ∧ tget (tab_8_fitsOn X) 27 = some (false, a_cv X M_8_fitsOn M_8_mostCarried 8 3 30) ∧ tget (tab_8_fitsOn X) 30 = some (false, a_sub 31) ∧ tget (tab_8_fitsOn X) 31 = some (false, a_istore 4 33) ∧ tget (tab_8_fitsOn X) 33 = some (false, a_aload 0 34) ∧ tget (tab_8_fitsOn X) 34 = some (false, a_iload 1 35) ∧ tget (tab_8_fitsOn X) 35 = some (false, a_cv X M_8_fitsOn M_8_beginning 8 2 38) ∧ tget (tab_8_fitsOn X) 38 = some (false, a_iload 2 39) ∧ tget (tab_8_fitsOn X) 39 = some (false, a_add 40) ∧ tget (tab_8_fitsOn X) 40 = some (false, a_aload 0 41) ∧ tget (tab_8_fitsOn X) 41 = some (false, a_iload 4 43) ∧ tget (tab_8_fitsOn X) 43 = some (false, a_cv X M_8_fitsOn M_8_rowsOf 8 2 46) ∧ tget (tab_8_fitsOn X) 46 = some (false, a_add 47) ∧ tget (tab_8_fitsOn X) 47 = some (false, a_aload 0 48) ∧ tget (tab_8_fitsOn X) 48 = some (false, a_gr 8 0 51) ∧ tget (tab_8_fitsOn X) 51 = some (false, a_const 81 53) ∧ tget (tab_8_fitsOn X) 53 = some (false, a_ald false 54) ∧ tget (tab_8_fitsOn X) 54 = some (false, a_icmp 4 61 57) ∧ tget (tab_8_fitsOn X) 57 = some (false, a_const 1 58) ∧ tget (tab_8_fitsOn X) 58 = some (false, a_goto 62) ∧ tget (tab_8_fitsOn X) 61 = some (false, a_const 0 62) ∧ tget (tab_8_fitsOn X) 62 = some (false, a_zret M_8_fitsOn) := ⟨rfl, rfl, rfl, rfl, rfl, rfl, rfl, rfl, rfl, rfl, rfl, rfl, rfl, rfl, rfl, rfl, rfl, rfl, rfl, rfl, rfl, rfl, rfl, rfl, rfl, rfl, rfl, rfl, rfl, rfl, rfl, rfl, rfl, rfl, rfl, rfl, rfl, rfl, rfl, rfl⟩
theorem tok_8_fitsOn (X : XT) : TabOK X M_8_fitsOn (tab_8_fitsOn X) := by
  unfold tab_8_fitsOn
  refine tok_cons (snd_aload_n dX8_fitsOn_0 rfl rfl) ?_
  refine tok_cons (snd_iload_n dX8_fitsOn_1 rfl rfl) ?_
  refine tok_cons (snd_aload_n dX8_fitsOn_2 rfl rfl) ?_
  refine tok_cons (snd_gi (C := RX8) (T := TX8) (N := 21) dX8_fitsOn_3 rfl (by decide) rfl wf8_111 inX8 rfl rfl) ?_
  refine tok_cons (snd_aload_n dX8_fitsOn_6 rfl rfl) ?_
  refine tok_cons (snd_gr (C := RX8) (T := TX8) (N := 21) dX8_fitsOn_7 rfl (by decide) rfl wf8_53 inX8 rfl) ?_
  refine tok_cons (snd_iload_n dX8_fitsOn_10 rfl rfl) ?_
  refine tok_cons (snd_iald dX8_fitsOn_11 rfl) ?_
  refine tok_cons (snd_iload_n dX8_fitsOn_12 rfl rfl) ?_
  refine tok_cons (snd_add dX8_fitsOn_13 rfl) ?_
  refine tok_cons (snd_cv dX8_fitsOn_14 mok_8_notesAhead ⟨wm8_91, wi_8_notesAhead, wl_8_notesAhead⟩ (rc := (RX8, TX8, 21)) rfl rfl pn_8_notesAhead (by decide) ⟨rfl, rfl⟩ rfl) ?_
  refine tok_cons (snd_istore_n dX8_fitsOn_17 rfl rfl (by decide)) ?_
  refine tok_cons (snd_aload_n dX8_fitsOn_18 rfl rfl) ?_
  refine tok_cons (snd_iload_n dX8_fitsOn_19 rfl rfl) ?_
  refine tok_cons (snd_iload_n dX8_fitsOn_20 rfl rfl) ?_
  refine tok_cons (snd_cv dX8_fitsOn_21 mok_8_notedLines ⟨wm8_114, wi_8_notedLines, wl_8_notedLines⟩ (rc := (RX8, TX8, 21)) rfl rfl pn_8_notedLines (by decide) ⟨rfl, rfl⟩ rfl) ?_
  refine tok_cons (snd_aload_n dX8_fitsOn_24 rfl rfl) ?_
  refine tok_cons (snd_iload_n dX8_fitsOn_25 rfl rfl) ?_
  refine tok_cons (snd_iload_n dX8_fitsOn_26 rfl rfl) ?_
  refine tok_cons (snd_cv dX8_fitsOn_27 mok_8_mostCarried ⟨wm8_117, wi_8_mostCarried, wl_8_mostCarried⟩ (rc := (RX8, TX8, 21)) rfl rfl pn_8_mostCarried (by decide) ⟨rfl, rfl⟩ rfl) ?_
  refine tok_cons (snd_sub dX8_fitsOn_30 rfl) ?_
  refine tok_cons (snd_istore dX8_fitsOn_31 rfl (by decide)) ?_
  refine tok_cons (snd_aload_n dX8_fitsOn_33 rfl rfl) ?_
  refine tok_cons (snd_iload_n dX8_fitsOn_34 rfl rfl) ?_
  refine tok_cons (snd_cv dX8_fitsOn_35 mok_8_beginning ⟨wm8_120, wi_8_beginning, wl_8_beginning⟩ (rc := (RX8, TX8, 21)) rfl rfl pn_8_beginning (by decide) ⟨rfl, rfl⟩ rfl) ?_
  refine tok_cons (snd_iload_n dX8_fitsOn_38 rfl rfl) ?_
  refine tok_cons (snd_add dX8_fitsOn_39 rfl) ?_
  refine tok_cons (snd_aload_n dX8_fitsOn_40 rfl rfl) ?_
  refine tok_cons (snd_iload dX8_fitsOn_41 rfl) ?_
  refine tok_cons (snd_cv dX8_fitsOn_43 mok_8_rowsOf ⟨wm8_124, wi_8_rowsOf, wl_8_rowsOf⟩ (rc := (RX8, TX8, 21)) rfl rfl pn_8_rowsOf (by decide) ⟨rfl, rfl⟩ rfl) ?_
  refine tok_cons (snd_add dX8_fitsOn_46 rfl) ?_
  refine tok_cons (snd_aload_n dX8_fitsOn_47 rfl rfl) ?_
  refine tok_cons (snd_gr (C := RX8) (T := TX8) (N := 21) dX8_fitsOn_48 rfl (by decide) rfl wf8_7 inX8 rfl) ?_
  refine tok_cons (snd_bipush dX8_fitsOn_51 (by decide) (inr_d rfl) rfl) ?_
  refine tok_cons (snd_iald dX8_fitsOn_53 rfl) ?_
  refine tok_cons (snd_icmp_gt dX8_fitsOn_54 (by decide) rfl) ?_
  refine tok_cons (snd_iconst dX8_fitsOn_57 rfl (inr_d rfl) rfl) ?_
  refine tok_cons (snd_goto dX8_fitsOn_58 (by decide)) ?_
  refine tok_cons (snd_iconst dX8_fitsOn_61 rfl (inr_d rfl) rfl) ?_
  refine tok_cons (snd_zret dX8_fitsOn_62 rfl) ?_
  exact tok_nil
def tab_8_puts (X : XT) : Tab := [(0, false, a_aload 0 1), (1, false, a_const 0 2), (2, false, a_cv X M_8_puts M_8_beginning 8 2 5), (5, false, a_istore 3 6), (6, false, a_aload 0 7), (7, false, a_const 1 8), (8, false, a_cv X M_8_puts M_8_beginning 8 2 11), (11, false, a_istore 4 13), (13, false, a_aload 0 14), (14, false, a_gi 8 5 5 17), (17, false, a_istore 5 19), (19, false, a_aload 0 20), (20, false, a_gr 8 6 23), (23, false, a_iload 5 25), (25, false, a_aload 0 26), (26, false, a_gi 8 17 17 29), (29, false, a_ast false 30), (30, false, a_aload 0 31), (31, false, a_gr 8 7 34), (34, false, a_const 2 35), (35, false, a_iload 5 37), (37, false, a_mul 38), (38, false, a_aload 0 39), (39, false, a_gr 8 18 42), (42, false, a_const 0 43), (43, false, a_ald false 44), (44, false, a_ast false 45), (45, false, a_aload 0 46), (46, false, a_gr 8 7 49), (49, false, a_const 2 50), (50, false, a_iload 5 52), (52, false, a_mul 53), (53, false, a_const 1 54), (54, false, a_add 55), (55, false, a_aload 0 56), (56, false, a_gr 8 18 59), (59, false, a_const 1 60), (60, false, a_ald false 61), (61, false, a_ast false 62), (62, false, a_aload 0 63), (63, false, a_gr 8 8 66), (66, false, a_const 2 67), (67, false, a_iload 5 69), (69, false, a_mul 70), (70, false, a_iload 1 71), (71, false, a_ast false 72), (72, false, a_aload 0 73), (73, false, a_gr 8 8 76), (76, false, a_const 2 77), (77, false, a_iload 5 79), (79, false, a_mul 80), (80, false, a_const 1 81), (81, false, a_add 82), (82, false, a_iload 2 83), (83, false, a_ast false 84), (84, false, a_aload 0 85), (85, false, a_gr 8 9 88), (88, false, a_const 2 89), (89, false, a_iload 5 91), (91, false, a_mul 92), (92, false, a_iload 3 93), (93, false, a_ast false 94), (94, false, a_aload 0 95), (95, false, a_gr 8 9 98), (98, false, a_const 2 99), (99, false, a_iload 5 101), (101, false, a_mul 102), (102, false, a_const 1 103), (103, false, a_add 104), (104, false, a_iload 4 106), (106, false, a_ast false 107), (107, false, a_aload 0 108), (108, false, a_dup 109), (109, false, a_gi 8 5 5 112), (112, false, a_const 1 113), (113, false, a_add 114), (114, false, a_pi 8 5 5 false 117), (117, false, a_aload 0 118), (118, false, a_gr 8 18 121), (121, false, a_const 0 122), (122, false, a_dup2 123), (123, false, a_ald false 124), (124, false, a_iload 1 125), (125, false, a_add 126), (126, false, a_ast false 127), (127, false, a_aload 0 128), (128, false, a_gr 8 18 131), (131, false, a_const 1 132), (132, false, a_dup2 133), (133, false, a_ald false 134), (134, false, a_iload 2 135), (135, false, a_add 136), (136, false, a_ast false 137), (137, false, a_aload 0 138), (138, false, a_gr 8 18 141), (141, false, a_const 0 142), (142, false, a_ald false 143), (143, false, a_aload 0 144), (144, false, a_aload 0 145), (145, false, a_gi 8 17 17 148), (148, false, a_const 0 149), (149, false, a_cv X M_8_puts M_8_lines 8 3 152), (152, false, a_icmp 1 179 155), (155, false, a_aload 0 156), (156, false, a_dup 157), (157, false, a_gi 8 17 17 160), (160, false, a_const 1 161), (161, false, a_add 162), (162, false, a_pi 8 17 17 false 165), (165, false, a_aload 0 166), (166, false, a_gr 8 18 169), (169, false, a_const 0 170), (170, false, a_const 0 171), (171, false, a_ast false 172), (172, false, a_aload 0 173), (173, false, a_gr 8 18 176), (176, false, a_const 1 177), (177, false, a_const 0 178), (178, false, a_ast false 179), (179, false, a_ret M_8_puts)]
set_option maxRecDepth 20000 in
theorem t_8_puts (X : XT) : tget (tab_8_puts X) 0 = some (false, a_aload 0 1) ∧ tget (tab_8_puts X) 1 = some (false, a_const 0 2) ∧ tget (tab_8_puts X) 2 = some (false, a_cv X M_8_puts M_8_beginning 8 2 5) ∧ tget (tab_8_puts X) 5 = some (false, a_istore 3 6) ∧ tget (tab_8_puts X) 6 = some (false, a_aload 0 7) ∧ tget (tab_8_puts X) 7 = some (false, a_const 1 8) ∧ tget (tab_8_puts X) 8 = some (false, a_cv X M_8_puts M_8_beginning 8 2 11) ∧ tget (tab_8_puts X) 11 = some (false, a_istore 4 13) ∧ tget (tab_8_puts X) 13 = some (false, a_aload 0 14) ∧ tget (tab_8_puts X) 14 = some (false, a_gi 8 5 5 17) ∧ tget (tab_8_puts X) 17 = some (false, a_istore 5 19) ∧ tget (tab_8_puts X) 19 = some (false, a_aload 0 20) ∧ tget (tab_8_puts X) 20 = some (false, a_gr 8 6 23) ∧ tget (tab_8_puts X) 23 = some (false, a_iload 5 25) ∧ tget (tab_8_puts X) 25 = some (false, a_aload 0 26) ∧ tget (tab_8_puts X) 26 = some (false, a_gi 8 17 17 29) ∧ tget (tab_8_puts X) 29 = some (false, a_ast false 30) ∧ tget (tab_8_puts X) 30 = some (false, a_aload 0 31) ∧ tget (tab_8_puts X) 31 = some (false, a_gr 8 7 34) ∧ tget (tab_8_puts X) 34 = some (false, a_const 2 35) ∧ tget (tab_8_puts X) 35 = some (false, a_iload 5 37) ∧ tget (tab_8_puts X) 37 = some (false, a_mul 38) ∧ tget (tab_8_puts X) 38 = some (false, a_aload 0 39) ∧ tget (tab_8_puts X) 39 = some (false, a_gr 8 18 42) ∧ tget (tab_8_puts X) 42 = some (false, a_const 0 43) ∧ tget (tab_8_puts X) 43 = some (false, a_ald false 44) ∧ tget (tab_8_puts X) 44 = some (false, a_ast false 45) ∧ tget (tab_8_puts X) 45 = some (false, a_aload 0 46) ∧ tget (tab_8_puts X) 46 = some (false, a_gr 8 7 49) ∧ tget (tab_8_puts X) 49 = some (false, a_const 2 50) ∧ tget (tab_8_puts X) 50 = some (false, a_iload 5 52) ∧ tget (tab_8_puts X) 52 = some (false, a_mul 53) ∧ tget (tab_8_puts X) 53 = some (false, a_const 1 54) ∧ tget (tab_8_puts X) 54 = some (false, a_add 55) ∧ tget (tab_8_puts X) 55 = some (false, a_aload 0 56) ∧ tget (tab_8_puts X) 56 = some (false, a_gr 8 18 59) ∧ tget (tab_8_puts X) 59 = some (false, a_const 1 60) ∧ tget (tab_8_puts X) 60 = some (false, a_ald false 61) ∧ tget (tab_8_puts X) 61 = some (false, a_ast false 62) ∧ tget (tab_8_puts X) 62 = some (false, a_aload 0 63) ∧ tget (tab_8_puts X) 63 = some (false, a_gr 8 8 66) ∧ tget (tab_8_puts X) 66 = some (false, a_const 2 67) ∧ tget (tab_8_puts X) 67 = some (false, a_iload 5 69) ∧ tget (tab_8_puts X) 69 = some (false, a_mul 70) ∧ tget (tab_8_puts X) 70 = some (false, a_iload 1 71) ∧ tget (tab_8_puts X) 71 = some (false, a_ast false 72) ∧ tget (tab_8_puts X) 72 = some (false, a_aload 0 73) ∧ tget (tab_8_puts X) 73 = some (false, a_gr 8 8 76) ∧ tget (tab_8_puts X) 76 = some (false, a_const 2 77) ∧ tget (tab_8_puts X) 77 = some (false, a_iload 5 79) ∧ tget (tab_8_puts X) 79 = some (false, a_mul 80) ∧ tget (tab_8_puts X) 80 = some (false, a_const 1 81) ∧ tget (tab_8_puts X) 81 = some (false, a_add 82) ∧ tget (tab_8_puts X) 82 = some (false, a_iload 2 83) ∧ tget (tab_8_puts X) 83 = some (false, a_ast false 84) ∧ tget (tab_8_puts X) 84 = some (false, a_aload 0 85) ∧ tget (tab_8_puts X) 85 = some (false, a_gr 8 9 88) ∧ tget (tab_8_puts X) 88 = some (false, a_const 2 89) ∧ tget (tab_8_puts X) 89 = some (false, a_iload 5 91) ∧ tget (tab_8_puts X) 91 = some (false, a_mul 92) ∧ tget (tab_8_puts X) 92 = some (false, a_iload 3 93) ∧ tget (tab_8_puts X) 93 = some (false, a_ast false 94) ∧ tget (tab_8_puts X) 94 = some (false, a_aload 0 95) ∧ tget (tab_8_puts X) 95 = some (false, a_gr 8 9 98) ∧ tget (tab_8_puts X) 98 = some (false, a_const 2 99) ∧ tget (tab_8_puts X) 99 = some (false, a_iload 5 101) ∧ tget (tab_8_puts X) 101 = some (false, a_mul 102) ∧ tget (tab_8_puts X) 102 = some (false, a_const 1 103) ∧ tget (tab_8_puts X) 103 = some (false, a_add 104) ∧ tget (tab_8_puts X) 104 = some (false, a_iload 4 106) ∧ tget (tab_8_puts X) 106 = some (false, a_ast false 107) ∧ tget (tab_8_puts X) 107 = some (false, a_aload 0 108) ∧ tget (tab_8_puts X) 108 = some (false, a_dup 109) ∧ tget (tab_8_puts X) 109 = some (false, a_gi 8 5 5 112) ∧ tget (tab_8_puts X) 112 = some (false, a_const 1 113) ∧ tget (tab_8_puts X) 113 = some (false, a_add 114) ∧ tget (tab_8_puts X) 114 = some (false, a_pi 8 5 5 false 117) ∧ tget (tab_8_puts X) 117 = some (false, a_aload 0 118) ∧ tget (tab_8_puts X) 118 = some (false, a_gr 8 18 121) ∧ tget (tab_8_puts X) 121 = some (false, a_const 0 122) ∧ tget (tab_8_puts X) 122 = some (false, a_dup2 123) ∧ tget (tab_8_puts X) 123 = some (false, a_ald false 124) ∧ tget (tab_8_puts X) 124 = some (false, a_iload 1 125) ∧ tget (tab_8_puts X) 125 = some (false, a_add 126) ∧ tget (tab_8_puts X) 126 = some (false, a_ast false 127) ∧ tget (tab_8_puts X) 127 = some (false, a_aload 0 128) ∧ tget (tab_8_puts X) 128 = some (false, a_gr 8 18 131) ∧ tget (tab_8_puts X) 131 = some (false, a_const 1 132) ∧ tget (tab_8_puts X) 132 = some (false, a_dup2 133) ∧ tget (tab_8_puts X) 133 = some (false, a_ald false 134) ∧ tget (tab_8_puts X) 134 = some (false, a_iload 2 135) ∧ tget (tab_8_puts X) 135 = some (false, a_add 136) ∧ tget (tab_8_puts X) 136 = some (false, a_ast false 137) ∧ tget (tab_8_puts X) 137 = some (false, a_aload 0 138) ∧ tget (tab_8_puts X) 138 = some (false, a_gr 8 18 141) ∧ tget (tab_8_puts X) 141 = some (false, a_const 0 142) ∧ tget (tab_8_puts X) 142 = some (false, a_ald false 143) ∧ tget (tab_8_puts X) 143 = some (false, a_aload 0 144) ∧ tget (tab_8_puts X) 144 = some (false, a_aload 0 145) ∧ tget (tab_8_puts X) 145 = some (false, a_gi 8 17 17 148) ∧ tget (tab_8_puts X) 148 = some (false, a_const 0 149) ∧ tget (tab_8_puts X) 149 = some (false, a_cv X M_8_puts M_8_lines 8 3 152) ∧ tget (tab_8_puts X) 152 = some (false, a_icmp 1 179 155) ∧ tget (tab_8_puts X) 155 = some (false, a_aload 0 156) ∧ tget (tab_8_puts X) 156 = some (false, a_dup 157) ∧ tget (tab_8_puts X) 157 = some (false, a_gi 8 17 17 160) ∧ tget (tab_8_puts X) 160 = some (false, a_const 1 161) ∧ tget (tab_8_puts X) 161 = some (false, a_add 162) ∧ tget (tab_8_puts X) 162 = some (false, a_pi 8 17 17 false 165) ∧ tget (tab_8_puts X) 165 = some (false, a_aload 0 166) ∧ tget (tab_8_puts X) 166 = some (false, a_gr 8 18 169) ∧ tget (tab_8_puts X) 169 = some (false, a_const 0 170) ∧ tget (tab_8_puts X) 170 = some (false, a_const 0 171) ∧ tget (tab_8_puts X) 171 = some (false, a_ast false 172) ∧ tget (tab_8_puts X) 172 = some (false, a_aload 0 173) ∧ tget (tab_8_puts X) 173 = some (false, a_gr 8 18 176) ∧ tget (tab_8_puts X) 176 = some (false, a_const 1 177) ∧ tget (tab_8_puts X) 177 = some (false, a_const 0 178) ∧ tget (tab_8_puts X) 178 = some (false, a_ast false 179) ∧ tget (tab_8_puts X) 179 = some (false, a_ret M_8_puts) := ⟨rfl, rfl, rfl, rfl, rfl, rfl, rfl, rfl, rfl, rfl, rfl, rfl, rfl, rfl, rfl, rfl, rfl, rfl, rfl, rfl, rfl, rfl, rfl, rfl, rfl, rfl, rfl, rfl, rfl, rfl, rfl, rfl, rfl, rfl, rfl, rfl, rfl, rfl, rfl, rfl, rfl, rfl, rfl, rfl, rfl, rfl, rfl, rfl, rfl, rfl, rfl, rfl, rfl, rfl, rfl, rfl, rfl, rfl, rfl, rfl, rfl, rfl, rfl, rfl, rfl, rfl, rfl, rfl, rfl, rfl, rfl, rfl, rfl, rfl, rfl, rfl, rfl, rfl, rfl, rfl, rfl, rfl, rfl, rfl, rfl, rfl, rfl, rfl, rfl, rfl, rfl, rfl, rfl, rfl, rfl, rfl, rfl, rfl, rfl, rfl, rfl, rfl, rfl, rfl, rfl, rfl, rfl, rfl, rfl, rfl, rfl, rfl, rfl, rfl, rfl, rfl, rfl, rfl, rfl, rfl⟩
theorem tok_8_puts (X : XT) : TabOK X M_8_puts (tab_8_puts X) := by
  unfold tab_8_puts
  refine tok_cons (snd_aload_n dX8_puts_0 rfl rfl) ?_
  refine tok_cons (snd_iconst dX8_puts_1 rfl (inr_d rfl) rfl) ?_
  refine tok_cons (snd_cv dX8_puts_2 mok_8_beginning ⟨wm8_120, wi_8_beginning, wl_8_beginning⟩ (rc := (RX8, TX8, 21)) rfl rfl pn_8_beginning (by decide) ⟨rfl, rfl⟩ rfl) ?_
  refine tok_cons (snd_istore_n dX8_puts_5 rfl rfl (by decide)) ?_
  refine tok_cons (snd_aload_n dX8_puts_6 rfl rfl) ?_
  refine tok_cons (snd_iconst dX8_puts_7 rfl (inr_d rfl) rfl) ?_
  refine tok_cons (snd_cv dX8_puts_8 mok_8_beginning ⟨wm8_120, wi_8_beginning, wl_8_beginning⟩ (rc := (RX8, TX8, 21)) rfl rfl pn_8_beginning (by decide) ⟨rfl, rfl⟩ rfl) ?_
  refine tok_cons (snd_istore dX8_puts_11 rfl (by decide)) ?_
  refine tok_cons (snd_aload_n dX8_puts_13 rfl rfl) ?_
  refine tok_cons (snd_gi (C := RX8) (T := TX8) (N := 21) dX8_puts_14 rfl (by decide) rfl wf8_95 inX8 rfl rfl) ?_
  refine tok_cons (snd_istore dX8_puts_17 rfl (by decide)) ?_
  refine tok_cons (snd_aload_n dX8_puts_19 rfl rfl) ?_
  refine tok_cons (snd_gr (C := RX8) (T := TX8) (N := 21) dX8_puts_20 rfl (by decide) rfl wf8_22 inX8 rfl) ?_
  refine tok_cons (snd_iload dX8_puts_23 rfl) ?_
  refine tok_cons (snd_aload_n dX8_puts_25 rfl rfl) ?_
  refine tok_cons (snd_gi (C := RX8) (T := TX8) (N := 21) dX8_puts_26 rfl (by decide) rfl wf8_111 inX8 rfl rfl) ?_
  refine tok_cons (snd_iast dX8_puts_29 rfl) ?_
  refine tok_cons (snd_aload_n dX8_puts_30 rfl rfl) ?_
  refine tok_cons (snd_gr (C := RX8) (T := TX8) (N := 21) dX8_puts_31 rfl (by decide) rfl wf8_25 inX8 rfl) ?_
  refine tok_cons (snd_iconst dX8_puts_34 rfl (inr_d rfl) rfl) ?_
  refine tok_cons (snd_iload dX8_puts_35 rfl) ?_
  refine tok_cons (snd_mul dX8_puts_37 rfl) ?_
  refine tok_cons (snd_aload_n dX8_puts_38 rfl rfl) ?_
  refine tok_cons (snd_gr (C := RX8) (T := TX8) (N := 21) dX8_puts_39 rfl (by decide) rfl wf8_53 inX8 rfl) ?_
  refine tok_cons (snd_iconst dX8_puts_42 rfl (inr_d rfl) rfl) ?_
  refine tok_cons (snd_iald dX8_puts_43 rfl) ?_
  refine tok_cons (snd_iast dX8_puts_44 rfl) ?_
  refine tok_cons (snd_aload_n dX8_puts_45 rfl rfl) ?_
  refine tok_cons (snd_gr (C := RX8) (T := TX8) (N := 21) dX8_puts_46 rfl (by decide) rfl wf8_25 inX8 rfl) ?_
  refine tok_cons (snd_iconst dX8_puts_49 rfl (inr_d rfl) rfl) ?_
  refine tok_cons (snd_iload dX8_puts_50 rfl) ?_
  refine tok_cons (snd_mul dX8_puts_52 rfl) ?_
  refine tok_cons (snd_iconst dX8_puts_53 rfl (inr_d rfl) rfl) ?_
  refine tok_cons (snd_add dX8_puts_54 rfl) ?_
  refine tok_cons (snd_aload_n dX8_puts_55 rfl rfl) ?_
  refine tok_cons (snd_gr (C := RX8) (T := TX8) (N := 21) dX8_puts_56 rfl (by decide) rfl wf8_53 inX8 rfl) ?_
  refine tok_cons (snd_iconst dX8_puts_59 rfl (inr_d rfl) rfl) ?_
  refine tok_cons (snd_iald dX8_puts_60 rfl) ?_
  refine tok_cons (snd_iast dX8_puts_61 rfl) ?_
  refine tok_cons (snd_aload_n dX8_puts_62 rfl rfl) ?_
  refine tok_cons (snd_gr (C := RX8) (T := TX8) (N := 21) dX8_puts_63 rfl (by decide) rfl wf8_28 inX8 rfl) ?_
  refine tok_cons (snd_iconst dX8_puts_66 rfl (inr_d rfl) rfl) ?_
  refine tok_cons (snd_iload dX8_puts_67 rfl) ?_
  refine tok_cons (snd_mul dX8_puts_69 rfl) ?_
  refine tok_cons (snd_iload_n dX8_puts_70 rfl rfl) ?_
  refine tok_cons (snd_iast dX8_puts_71 rfl) ?_
  refine tok_cons (snd_aload_n dX8_puts_72 rfl rfl) ?_
  refine tok_cons (snd_gr (C := RX8) (T := TX8) (N := 21) dX8_puts_73 rfl (by decide) rfl wf8_28 inX8 rfl) ?_
  refine tok_cons (snd_iconst dX8_puts_76 rfl (inr_d rfl) rfl) ?_
  refine tok_cons (snd_iload dX8_puts_77 rfl) ?_
  refine tok_cons (snd_mul dX8_puts_79 rfl) ?_
  refine tok_cons (snd_iconst dX8_puts_80 rfl (inr_d rfl) rfl) ?_
  refine tok_cons (snd_add dX8_puts_81 rfl) ?_
  refine tok_cons (snd_iload_n dX8_puts_82 rfl rfl) ?_
  refine tok_cons (snd_iast dX8_puts_83 rfl) ?_
  refine tok_cons (snd_aload_n dX8_puts_84 rfl rfl) ?_
  refine tok_cons (snd_gr (C := RX8) (T := TX8) (N := 21) dX8_puts_85 rfl (by decide) rfl wf8_31 inX8 rfl) ?_
  refine tok_cons (snd_iconst dX8_puts_88 rfl (inr_d rfl) rfl) ?_
  refine tok_cons (snd_iload dX8_puts_89 rfl) ?_
  refine tok_cons (snd_mul dX8_puts_91 rfl) ?_
  refine tok_cons (snd_iload_n dX8_puts_92 rfl rfl) ?_
  refine tok_cons (snd_iast dX8_puts_93 rfl) ?_
  refine tok_cons (snd_aload_n dX8_puts_94 rfl rfl) ?_
  refine tok_cons (snd_gr (C := RX8) (T := TX8) (N := 21) dX8_puts_95 rfl (by decide) rfl wf8_31 inX8 rfl) ?_
  refine tok_cons (snd_iconst dX8_puts_98 rfl (inr_d rfl) rfl) ?_
  refine tok_cons (snd_iload dX8_puts_99 rfl) ?_
  refine tok_cons (snd_mul dX8_puts_101 rfl) ?_
  refine tok_cons (snd_iconst dX8_puts_102 rfl (inr_d rfl) rfl) ?_
  refine tok_cons (snd_add dX8_puts_103 rfl) ?_
  refine tok_cons (snd_iload dX8_puts_104 rfl) ?_
  refine tok_cons (snd_iast dX8_puts_106 rfl) ?_
  refine tok_cons (snd_aload_n dX8_puts_107 rfl rfl) ?_
  refine tok_cons (snd_dup dX8_puts_108 rfl) ?_
  refine tok_cons (snd_gi (C := RX8) (T := TX8) (N := 21) dX8_puts_109 rfl (by decide) rfl wf8_95 inX8 rfl rfl) ?_
  refine tok_cons (snd_iconst dX8_puts_112 rfl (inr_d rfl) rfl) ?_
  refine tok_cons (snd_add dX8_puts_113 rfl) ?_
  refine tok_cons (snd_pi (C := RX8) (T := TX8) (N := 21) (ty0 := tyX8) dX8_puts_114 rfl (by decide) rfl wf8_95 inX8 tyX8_ok nmX8 (by decide +kernel) rfl rfl) ?_
  refine tok_cons (snd_aload_n dX8_puts_117 rfl rfl) ?_
  refine tok_cons (snd_gr (C := RX8) (T := TX8) (N := 21) dX8_puts_118 rfl (by decide) rfl wf8_53 inX8 rfl) ?_
  refine tok_cons (snd_iconst dX8_puts_121 rfl (inr_d rfl) rfl) ?_
  refine tok_cons (snd_dup2 dX8_puts_122 rfl) ?_
  refine tok_cons (snd_iald dX8_puts_123 rfl) ?_
  refine tok_cons (snd_iload_n dX8_puts_124 rfl rfl) ?_
  refine tok_cons (snd_add dX8_puts_125 rfl) ?_
  refine tok_cons (snd_iast dX8_puts_126 rfl) ?_
  refine tok_cons (snd_aload_n dX8_puts_127 rfl rfl) ?_
  refine tok_cons (snd_gr (C := RX8) (T := TX8) (N := 21) dX8_puts_128 rfl (by decide) rfl wf8_53 inX8 rfl) ?_
  refine tok_cons (snd_iconst dX8_puts_131 rfl (inr_d rfl) rfl) ?_
  refine tok_cons (snd_dup2 dX8_puts_132 rfl) ?_
  refine tok_cons (snd_iald dX8_puts_133 rfl) ?_
  refine tok_cons (snd_iload_n dX8_puts_134 rfl rfl) ?_
  refine tok_cons (snd_add dX8_puts_135 rfl) ?_
  refine tok_cons (snd_iast dX8_puts_136 rfl) ?_
  refine tok_cons (snd_aload_n dX8_puts_137 rfl rfl) ?_
  refine tok_cons (snd_gr (C := RX8) (T := TX8) (N := 21) dX8_puts_138 rfl (by decide) rfl wf8_53 inX8 rfl) ?_
  refine tok_cons (snd_iconst dX8_puts_141 rfl (inr_d rfl) rfl) ?_
  refine tok_cons (snd_iald dX8_puts_142 rfl) ?_
  refine tok_cons (snd_aload_n dX8_puts_143 rfl rfl) ?_
  refine tok_cons (snd_aload_n dX8_puts_144 rfl rfl) ?_
  refine tok_cons (snd_gi (C := RX8) (T := TX8) (N := 21) dX8_puts_145 rfl (by decide) rfl wf8_111 inX8 rfl rfl) ?_
  refine tok_cons (snd_iconst dX8_puts_148 rfl (inr_d rfl) rfl) ?_
  refine tok_cons (snd_cv dX8_puts_149 mok_8_lines ⟨wm8_73, wi_8_lines, wl_8_lines⟩ (rc := (RX8, TX8, 21)) rfl rfl pn_8_lines (by decide) ⟨rfl, rfl⟩ rfl) ?_
  refine tok_cons (snd_icmp_ne dX8_puts_152 (by decide) rfl) ?_
  refine tok_cons (snd_aload_n dX8_puts_155 rfl rfl) ?_
  refine tok_cons (snd_dup dX8_puts_156 rfl) ?_
  refine tok_cons (snd_gi (C := RX8) (T := TX8) (N := 21) dX8_puts_157 rfl (by decide) rfl wf8_111 inX8 rfl rfl) ?_
  refine tok_cons (snd_iconst dX8_puts_160 rfl (inr_d rfl) rfl) ?_
  refine tok_cons (snd_add dX8_puts_161 rfl) ?_
  refine tok_cons (snd_pi (C := RX8) (T := TX8) (N := 21) (ty0 := tyX8) dX8_puts_162 rfl (by decide) rfl wf8_111 inX8 tyX8_ok nmX8 (by decide +kernel) rfl rfl) ?_
  refine tok_cons (snd_aload_n dX8_puts_165 rfl rfl) ?_
  refine tok_cons (snd_gr (C := RX8) (T := TX8) (N := 21) dX8_puts_166 rfl (by decide) rfl wf8_53 inX8 rfl) ?_
  refine tok_cons (snd_iconst dX8_puts_169 rfl (inr_d rfl) rfl) ?_
  refine tok_cons (snd_iconst dX8_puts_170 rfl (inr_d rfl) rfl) ?_
  refine tok_cons (snd_iast dX8_puts_171 rfl) ?_
  refine tok_cons (snd_aload_n dX8_puts_172 rfl rfl) ?_
  refine tok_cons (snd_gr (C := RX8) (T := TX8) (N := 21) dX8_puts_173 rfl (by decide) rfl wf8_53 inX8 rfl) ?_
  refine tok_cons (snd_iconst dX8_puts_176 rfl (inr_d rfl) rfl) ?_
  refine tok_cons (snd_iconst dX8_puts_177 rfl (inr_d rfl) rfl) ?_
  refine tok_cons (snd_iast dX8_puts_178 rfl) ?_
  refine tok_cons (snd_ret dX8_puts_179 rfl) ?_
  exact tok_nil
def tab_8_closes (X : XT) : Tab := [(0, false, a_const 2 1), (1, false, a_aload 0 2), (2, false, a_gi 8 10 10 5), (5, false, a_mul 6), (6, false, a_iload 1 7), (7, false, a_add 8), (8, false, a_istore 2 9), (9, false, a_aload 0 10), (10, false, a_gi 8 5 5 13), (13, false, a_const 1 14), (14, false, a_sub 15), (15, false, a_istore 3 16), (16, false, a_aload 0 17), (17, false, a_gr 8 16 20), (20, false, a_iload 2 21), (21, false, a_ald false 22), (22, false, a_istore 4 24), (24, false, a_aload 0 25), (25, false, a_gr 8 13 28), (28, false, a_iload 2 29), (29, false, a_const 0 30), (30, false, a_ast false 31), (31, false, a_aload 0 32), (32, false, a_cv X M_8_closes M_8_segmentsOfLast 8 1 35), (35, false, a_if 5 99 38), (38, false, a_aload 0 39), (39, false, a_gr 8 13 42), (42, false, a_iload 2 43), (43, false, a_aload 0 44), (44, false, a_gr 8 9 47), (47, false, a_const 2 48), (48, false, a_iload 3 49), (49, false, a_mul 50), (50, false, a_iload 1 51), (51, false, a_add 52), (52, false, a_ald false 53), (53, false, a_aload 0 54), (54, false, a_gr 8 8 57), (57, false, a_const 2 58), (58, false, a_iload 3 59), (59, false, a_mul 60), (60, false, a_iload 1 61), (61, false, a_add 62), (62, false, a_ald false 63), (63, false, a_add 64), (64, false, a_ast false 65), (65, false, a_aload 0 66), (66, false, a_iload 1 67), (67, false, a_aload 0 68), (68, false, a_gr 8 6 71), (71, false, a_iload 3 72), (72, false, a_ald false 73), (73, false, a_aload 0 74), (74, false, a_gr 8 7 77), (77, false, a_const 2 78), (78, false, a_iload 3 79), (79, false, a_mul 80), (80, false, a_iload 1 81), (81, false, a_add 82), (82, false, a_ald false 83), (83, false, a_aload 0 84), (84, false, a_gr 8 8 87), (87, false, a_const 2 88), (88, false, a_iload 3 89), (89, false, a_mul 90), (90, false, a_iload 1 91), (91, false, a_add 92), (92, false, a_ald false 93), (93, false, a_add 94), (94, false, a_cv X M_8_closes M_8_notesAhead 8 4 97), (97, false, a_istore 4 99), (99, false, a_aload 0 100), (100, false, a_iload 1 101), (101, false, a_iload 4 103), (103, false, a_cv X M_8_closes M_8_notedLines 8 3 106), (106, false, a_istore 5 108), (108, false, a_const 0 109), (109, false, a_istore 6 111), (111, false, a_aload 0 112), (112, false, a_iload 1 113), (113, false, a_iload 4 115), (115, false, a_cv X M_8_closes M_8_mostCarried 8 3 118), (118, false, a_istore 7 120), (120, true, a_iload 6 122), (122, false, a_iload 7 124), (124, false, a_icmp 3 159 127), (127, false, a_aload 0 128), (128, false, a_gr 8 13 131), (131, false, a_iload 2 132), (132, false, a_ald false 133), (133, false, a_aload 0 134), (134, false, a_iload 5 136), (136, false, a_iload 6 138), (138, false, a_sub 139), (139, false, a_cv X M_8_closes M_8_rowsOf 8 2 142), (142, false, a_add 143), (143, false, a_aload 0 144), (144, false, a_gr 8 0 147), (147, false, a_const 81 149), (149, false, a_ald false 150), (150, false, a_icmp 5 159 153), (153, false, a_iinc 6 1 156), (156, false, a_goto 120), (159, false, a_aload 0 160), (160, false, a_gr 8 14 163), (163, false, a_iload 2 164), (164, false, a_iload 5 166), (166, false, a_iload 6 168), (168, false, a_sub 169), (169, false, a_ast false 170), (170, false, a_aload 0 171), (171, false, a_gr 8 15 174), (174, false, a_iload 2 175), (175, false, a_iload 6 177), (177, false, a_ast false 178), (178, false, a_aload 0 179), (179, false, a_gr 8 16 182), (182, false, a_iload 2 183), (183, false, a_const 2 184), (184, false, a_add 185), (185, false, a_iload 4 187), (187, false, a_ast false 188), (188, false, a_ret M_8_closes)]
set_option maxRecDepth 20000 in
theorem t_8_closes (X : XT) : tget (tab_8_closes X) 0 = some (false, a_const 2 1) ∧ tget (tab_8_closes X) 1 = some (false, a_aload 0 2) ∧ tget (tab_8_closes X) 2 = some (false, a_gi 8 10 10 5) ∧ tget (tab_8_closes X) 5 = some (false, a_mul 6) ∧ tget (tab_8_closes X) 6 = some (false, a_iload 1 7) ∧ tget (tab_8_closes X) 7 = some (false, a_add 8) ∧ tget (tab_8_closes X) 8 = some (false, a_istore 2 9) ∧ tget (tab_8_closes X) 9 = some (false, a_aload 0 10) ∧ tget (tab_8_closes X) 10 = some (false, a_gi 8 5 5 13) ∧ tget (tab_8_closes X) 13 = some (false, a_const 1 14) ∧ tget (tab_8_closes X) 14 = some (false, a_sub 15) ∧ tget (tab_8_closes X) 15 = some (false, a_istore 3 16) ∧ tget (tab_8_closes X) 16 = some (false, a_aload 0 17) ∧ tget (tab_8_closes X) 17 = some (false, a_gr 8 16 20) ∧ tget (tab_8_closes X) 20 = some (false, a_iload 2 21) ∧ tget (tab_8_closes X) 21 = some (false, a_ald false 22) ∧ tget (tab_8_closes X) 22 = some (false, a_istore 4 24) ∧ tget (tab_8_closes X) 24 = some (false, a_aload 0 25) ∧ tget (tab_8_closes X) 25 = some (false, a_gr 8 13 28) ∧ tget (tab_8_closes X) 28 = some (false, a_iload 2 29) ∧ tget (tab_8_closes X) 29 = some (false, a_const 0 30) ∧ tget (tab_8_closes X) 30 = some (false, a_ast false 31) ∧ tget (tab_8_closes X) 31 = some (false, a_aload 0 32) ∧ tget (tab_8_closes X) 32 = some (false, a_cv X M_8_closes M_8_segmentsOfLast 8 1 35) ∧ tget (tab_8_closes X) 35 = some (false, a_if 5 99 38) ∧ tget (tab_8_closes X) 38 = some (false, a_aload 0 39) ∧ tget (tab_8_closes X) 39 = some (false, a_gr 8 13 42) ∧ tget (tab_8_closes X) 42 = some (false, a_iload 2 43) ∧ tget (tab_8_closes X) 43 = some (false, a_aload 0 44) ∧ tget (tab_8_closes X) 44 = some (false, a_gr 8 9 47) ∧ tget (tab_8_closes X) 47 = some (false, a_const 2 48) ∧ tget (tab_8_closes X) 48 = some (false, a_iload 3 49) ∧ tget (tab_8_closes X) 49 = some (false, a_mul 50) ∧ tget (tab_8_closes X) 50 = some (false, a_iload 1 51) ∧ tget (tab_8_closes X) 51 = some (false, a_add 52) ∧ tget (tab_8_closes X) 52 = some (false, a_ald false 53) ∧ tget (tab_8_closes X) 53 = some (false, a_aload 0 54) ∧ tget (tab_8_closes X) 54 = some (false, a_gr 8 8 57) ∧ tget (tab_8_closes X) 57 = some (false, a_const 2 58) ∧ tget (tab_8_closes X) 58 = some (false, a_iload 3 59) ∧ tget (tab_8_closes X) 59 = some (false, a_mul 60) ∧ tget (tab_8_closes X) 60 = some (false, a_iload 1 61) ∧ tget (tab_8_closes X) 61 = some (false, a_add 62) ∧ tget (tab_8_closes X) 62 = some (false, a_ald false 63) ∧ tget (tab_8_closes X) 63 = some (false, a_add 64) ∧ tget (tab_8_closes X) 64 = some (false, a_ast false 65) ∧ tget (tab_8_closes X) 65 = some (false, a_aload 0 66) ∧ tget (tab_8_closes X) 66 = some (false, a_iload 1 67) ∧ tget (tab_8_closes X) 67 = some (false, a_aload 0 68) ∧ tget (tab_8_closes X) 68 = some (false, a_gr 8 6 71) ∧ tget (tab_8_closes X) 71 = some (false, a_iload 3 72) ∧ tget (tab_8_closes X) 72 = some (false, a_ald false 73) ∧ tget (tab_8_closes X) 73 = some (false, a_aload 0 74) ∧ tget (tab_8_closes X) 74 = some (false, a_gr 8 7 77) ∧ tget (tab_8_closes X) 77 = some (false, a_const 2 78) ∧ tget (tab_8_closes X) 78 = some (false, a_iload 3 79) ∧ tget (tab_8_closes X) 79 = some (false, a_mul 80) ∧ tget (tab_8_closes X) 80 = some (false, a_iload 1 81) ∧ tget (tab_8_closes X) 81 = some (false, a_add 82) ∧ tget (tab_8_closes X) 82 = some (false, a_ald false 83) ∧ tget (tab_8_closes X) 83 = some (false, a_aload 0 84) ∧ tget (tab_8_closes X) 84 = some (false, a_gr 8 8 87) ∧ tget (tab_8_closes X) 87 = some (false, a_const 2 88) ∧ tget (tab_8_closes X) 88 = some (false, a_iload 3 89) ∧ tget (tab_8_closes X) 89 = some (false, a_mul 90) ∧ tget (tab_8_closes X) 90 = some (false, a_iload 1 91) ∧ tget (tab_8_closes X) 91 = some (false, a_add 92) ∧ tget (tab_8_closes X) 92 = some (false, a_ald false 93) ∧ tget (tab_8_closes X) 93 = some (false, a_add 94) ∧ tget (tab_8_closes X) 94 = some (false, a_cv X M_8_closes M_8_notesAhead 8 4 97) ∧ tget (tab_8_closes X) 97 = some (false, a_istore 4 99) ∧ tget (tab_8_closes X) 99 = some (false, a_aload 0 100) ∧ tget (tab_8_closes X) 100 = some (false, a_iload 1 101) ∧ tget (tab_8_closes X) 101 = some (false, a_iload 4 103) ∧ tget (tab_8_closes X) 103 = some (false, a_cv X M_8_closes M_8_notedLines 8 3 106) ∧ tget (tab_8_closes X) 106 = some (false, a_istore 5 108) ∧ tget (tab_8_closes X) 108 = some (false, a_const 0 109) ∧ tget (tab_8_closes X) 109 = some (false, a_istore 6 111) ∧ tget (tab_8_closes X) 111 = some (false, a_aload 0 112) ∧ tget (tab_8_closes X) 112 = some (false, a_iload 1 113) ∧ tget (tab_8_closes X) 113 = some (false, a_iload 4 115) ∧ tget (tab_8_closes X) 115 = some (false, a_cv X M_8_closes M_8_mostCarried 8 3 118) ∧ tget (tab_8_closes X) 118 = some (false, a_istore 7 120) ∧ tget (tab_8_closes X) 120 = some (true, a_iload 6 122) ∧ tget (tab_8_closes X) 122 = some (false, a_iload 7 124) ∧ tget (tab_8_closes X) 124 = some (false, a_icmp 3 159 127) ∧ tget (tab_8_closes X) 127 = some (false, a_aload 0 128) ∧ tget (tab_8_closes X) 128 = some (false, a_gr 8 13 131) ∧ tget (tab_8_closes X) 131 = some (false, a_iload 2 132) ∧ tget (tab_8_closes X) 132 = some (false, a_ald false 133) ∧ tget (tab_8_closes X) 133 = some (false, a_aload 0 134) ∧ tget (tab_8_closes X) 134 = some (false, a_iload 5 136) ∧ tget (tab_8_closes X) 136 = some (false, a_iload 6 138) ∧ tget (tab_8_closes X) 138 = some (false, a_sub 139) ∧ tget (tab_8_closes X) 139 = some (false, a_cv X M_8_closes M_8_rowsOf 8 2 142) ∧ tget (tab_8_closes X) 142 = some (false, a_add 143) ∧ tget (tab_8_closes X) 143 = some (false, a_aload 0 144) ∧ tget (tab_8_closes X) 144 = some (false, a_gr 8 0 147) ∧ tget (tab_8_closes X) 147 = some (false, a_const 81 149) ∧ tget (tab_8_closes X) 149 = some (false, a_ald false 150) ∧ tget (tab_8_closes X) 150 = some (false, a_icmp 5 159 153) ∧ tget (tab_8_closes X) 153 = some (false, a_iinc 6 1 156) ∧ tget (tab_8_closes X) 156 = some (false, a_goto 120) ∧ tget (tab_8_closes X) 159 = some (false, a_aload 0 160) ∧ tget (tab_8_closes X) 160 = some (false, a_gr 8 14 163) ∧ tget (tab_8_closes X) 163 = some (false, a_iload 2 164) ∧ tget (tab_8_closes X) 164 = some (false, a_iload 5 166) ∧ tget (tab_8_closes X) 166 = some (false, a_iload 6 168) ∧ tget (tab_8_closes X) 168 = some (false, a_sub 169) ∧ tget (tab_8_closes X) 169 = some (false, a_ast false 170) ∧ tget (tab_8_closes X) 170 = some (false, a_aload 0 171) ∧ tget (tab_8_closes X) 171 = some (false, a_gr 8 15 174) ∧ tget (tab_8_closes X) 174 = some (false, a_iload 2 175) ∧ tget (tab_8_closes X) 175 = some (false, a_iload 6 177) ∧ tget (tab_8_closes X) 177 = some (false, a_ast false 178) ∧ tget (tab_8_closes X) 178 = some (false, a_aload 0 179) ∧ tget (tab_8_closes X) 179 = some (false, a_gr 8 16 182) ∧ tget (tab_8_closes X) 182 = some (false, a_iload 2 183) ∧ tget (tab_8_closes X) 183 = some (false, a_const 2 184) ∧ tget (tab_8_closes X) 184 = some (false, a_add 185) ∧ tget (tab_8_closes X) 185 = some (false, a_iload 4 187) ∧ tget (tab_8_closes X) 187 = some (false, a_ast false 188) ∧ tget (tab_8_closes X) 188 = some (false, a_ret M_8_closes) := ⟨rfl, rfl, rfl, rfl, rfl, rfl, rfl, rfl, rfl, rfl, rfl, rfl, rfl, rfl, rfl, rfl, rfl, rfl, rfl, rfl, rfl, rfl, rfl, rfl, rfl, rfl, rfl, rfl, rfl, rfl, rfl, rfl, rfl, rfl, rfl, rfl, rfl, rfl, rfl, rfl, rfl, rfl, rfl, rfl, rfl, rfl, rfl, rfl, rfl, rfl, rfl, rfl, rfl, rfl, rfl, rfl, rfl, rfl, rfl, rfl, rfl, rfl, rfl, rfl, rfl, rfl, rfl, rfl, rfl, rfl, rfl, rfl, rfl, rfl, rfl, rfl, rfl, rfl, rfl, rfl, rfl, rfl, rfl, rfl, rfl, rfl, rfl, rfl, rfl, rfl, rfl, rfl, rfl, rfl, rfl, rfl, rfl, rfl, rfl, rfl, rfl, rfl, rfl, rfl, rfl, rfl, rfl, rfl, rfl, rfl, rfl, rfl, rfl, rfl, rfl, rfl, rfl, rfl, rfl, rfl, rfl, rfl, rfl⟩
theorem tok_8_closes (X : XT) : TabOK X M_8_closes (tab_8_closes X) := by
  unfold tab_8_closes
  refine tok_cons (snd_iconst dX8_closes_0 rfl (inr_d rfl) rfl) ?_
  refine tok_cons (snd_aload_n dX8_closes_1 rfl rfl) ?_
  refine tok_cons (snd_gi (C := RX8) (T := TX8) (N := 21) dX8_closes_2 rfl (by decide) rfl wf8_98 inX8 rfl rfl) ?_
  refine tok_cons (snd_mul dX8_closes_5 rfl) ?_
  refine tok_cons (snd_iload_n dX8_closes_6 rfl rfl) ?_
  refine tok_cons (snd_add dX8_closes_7 rfl) ?_
  refine tok_cons (snd_istore_n dX8_closes_8 rfl rfl (by decide)) ?_
  refine tok_cons (snd_aload_n dX8_closes_9 rfl rfl) ?_
  refine tok_cons (snd_gi (C := RX8) (T := TX8) (N := 21) dX8_closes_10 rfl (by decide) rfl wf8_95 inX8 rfl rfl) ?_
  refine tok_cons (snd_iconst dX8_closes_13 rfl (inr_d rfl) rfl) ?_
  refine tok_cons (snd_sub dX8_closes_14 rfl) ?_
  refine tok_cons (snd_istore_n dX8_closes_15 rfl rfl (by decide)) ?_
  refine tok_cons (snd_aload_n dX8_closes_16 rfl rfl) ?_
  refine tok_cons (snd_gr (C := RX8) (T := TX8) (N := 21) dX8_closes_17 rfl (by decide) rfl wf8_50 inX8 rfl) ?_
  refine tok_cons (snd_iload_n dX8_closes_20 rfl rfl) ?_
  refine tok_cons (snd_iald dX8_closes_21 rfl) ?_
  refine tok_cons (snd_istore dX8_closes_22 rfl (by decide)) ?_
  refine tok_cons (snd_aload_n dX8_closes_24 rfl rfl) ?_
  refine tok_cons (snd_gr (C := RX8) (T := TX8) (N := 21) dX8_closes_25 rfl (by decide) rfl wf8_41 inX8 rfl) ?_
  refine tok_cons (snd_iload_n dX8_closes_28 rfl rfl) ?_
  refine tok_cons (snd_iconst dX8_closes_29 rfl (inr_d rfl) rfl) ?_
  refine tok_cons (snd_iast dX8_closes_30 rfl) ?_
  refine tok_cons (snd_aload_n dX8_closes_31 rfl rfl) ?_
  refine tok_cons (snd_cv dX8_closes_32 mok_8_segmentsOfLast ⟨wm8_101, wi_8_segmentsOfLast, wl_8_segmentsOfLast⟩ (rc := (RX8, TX8, 21)) rfl rfl pn_8_segmentsOfLast (by decide) ⟨rfl, rfl⟩ rfl) ?_
  refine tok_cons (snd_if_le dX8_closes_35 (by decide) rfl) ?_
  refine tok_cons (snd_aload_n dX8_closes_38 rfl rfl) ?_
  refine tok_cons (snd_gr (C := RX8) (T := TX8) (N := 21) dX8_closes_39 rfl (by decide) rfl wf8_41 inX8 rfl) ?_
  refine tok_cons (snd_iload_n dX8_closes_42 rfl rfl) ?_
  refine tok_cons (snd_aload_n dX8_closes_43 rfl rfl) ?_
  refine tok_cons (snd_gr (C := RX8) (T := TX8) (N := 21) dX8_closes_44 rfl (by decide) rfl wf8_31 inX8 rfl) ?_
  refine tok_cons (snd_iconst dX8_closes_47 rfl (inr_d rfl) rfl) ?_
  refine tok_cons (snd_iload_n dX8_closes_48 rfl rfl) ?_
  refine tok_cons (snd_mul dX8_closes_49 rfl) ?_
  refine tok_cons (snd_iload_n dX8_closes_50 rfl rfl) ?_
  refine tok_cons (snd_add dX8_closes_51 rfl) ?_
  refine tok_cons (snd_iald dX8_closes_52 rfl) ?_
  refine tok_cons (snd_aload_n dX8_closes_53 rfl rfl) ?_
  refine tok_cons (snd_gr (C := RX8) (T := TX8) (N := 21) dX8_closes_54 rfl (by decide) rfl wf8_28 inX8 rfl) ?_
  refine tok_cons (snd_iconst dX8_closes_57 rfl (inr_d rfl) rfl) ?_
  refine tok_cons (snd_iload_n dX8_closes_58 rfl rfl) ?_
  refine tok_cons (snd_mul dX8_closes_59 rfl) ?_
  refine tok_cons (snd_iload_n dX8_closes_60 rfl rfl) ?_
  refine tok_cons (snd_add dX8_closes_61 rfl) ?_
  refine tok_cons (snd_iald dX8_closes_62 rfl) ?_
  refine tok_cons (snd_add dX8_closes_63 rfl) ?_
  refine tok_cons (snd_iast dX8_closes_64 rfl) ?_
  refine tok_cons (snd_aload_n dX8_closes_65 rfl rfl) ?_
  refine tok_cons (snd_iload_n dX8_closes_66 rfl rfl) ?_
  refine tok_cons (snd_aload_n dX8_closes_67 rfl rfl) ?_
  refine tok_cons (snd_gr (C := RX8) (T := TX8) (N := 21) dX8_closes_68 rfl (by decide) rfl wf8_22 inX8 rfl) ?_
  refine tok_cons (snd_iload_n dX8_closes_71 rfl rfl) ?_
  refine tok_cons (snd_iald dX8_closes_72 rfl) ?_
  refine tok_cons (snd_aload_n dX8_closes_73 rfl rfl) ?_
  refine tok_cons (snd_gr (C := RX8) (T := TX8) (N := 21) dX8_closes_74 rfl (by decide) rfl wf8_25 inX8 rfl) ?_
  refine tok_cons (snd_iconst dX8_closes_77 rfl (inr_d rfl) rfl) ?_
  refine tok_cons (snd_iload_n dX8_closes_78 rfl rfl) ?_
  refine tok_cons (snd_mul dX8_closes_79 rfl) ?_
  refine tok_cons (snd_iload_n dX8_closes_80 rfl rfl) ?_
  refine tok_cons (snd_add dX8_closes_81 rfl) ?_
  refine tok_cons (snd_iald dX8_closes_82 rfl) ?_
  refine tok_cons (snd_aload_n dX8_closes_83 rfl rfl) ?_
  refine tok_cons (snd_gr (C := RX8) (T := TX8) (N := 21) dX8_closes_84 rfl (by decide) rfl wf8_28 inX8 rfl) ?_
  refine tok_cons (snd_iconst dX8_closes_87 rfl (inr_d rfl) rfl) ?_
  refine tok_cons (snd_iload_n dX8_closes_88 rfl rfl) ?_
  refine tok_cons (snd_mul dX8_closes_89 rfl) ?_
  refine tok_cons (snd_iload_n dX8_closes_90 rfl rfl) ?_
  refine tok_cons (snd_add dX8_closes_91 rfl) ?_
  refine tok_cons (snd_iald dX8_closes_92 rfl) ?_
  refine tok_cons (snd_add dX8_closes_93 rfl) ?_
  refine tok_cons (snd_cv dX8_closes_94 mok_8_notesAhead ⟨wm8_91, wi_8_notesAhead, wl_8_notesAhead⟩ (rc := (RX8, TX8, 21)) rfl rfl pn_8_notesAhead (by decide) ⟨rfl, rfl⟩ rfl) ?_
  refine tok_cons (snd_istore dX8_closes_97 rfl (by decide)) ?_
  refine tok_cons (snd_aload_n dX8_closes_99 rfl rfl) ?_
  refine tok_cons (snd_iload_n dX8_closes_100 rfl rfl) ?_
  refine tok_cons (snd_iload dX8_closes_101 rfl) ?_
  refine tok_cons (snd_cv dX8_closes_103 mok_8_notedLines ⟨wm8_114, wi_8_notedLines, wl_8_notedLines⟩ (rc := (RX8, TX8, 21)) rfl rfl pn_8_notedLines (by decide) ⟨rfl, rfl⟩ rfl) ?_
  refine tok_cons (snd_istore dX8_closes_106 rfl (by decide)) ?_
  refine tok_cons (snd_iconst dX8_closes_108 rfl (inr_d rfl) rfl) ?_
  refine tok_cons (snd_istore dX8_closes_109 rfl (by decide)) ?_
  refine tok_cons (snd_aload_n dX8_closes_111 rfl rfl) ?_
  refine tok_cons (snd_iload_n dX8_closes_112 rfl rfl) ?_
  refine tok_cons (snd_iload dX8_closes_113 rfl) ?_
  refine tok_cons (snd_cv dX8_closes_115 mok_8_mostCarried ⟨wm8_117, wi_8_mostCarried, wl_8_mostCarried⟩ (rc := (RX8, TX8, 21)) rfl rfl pn_8_mostCarried (by decide) ⟨rfl, rfl⟩ rfl) ?_
  refine tok_cons (snd_istore dX8_closes_118 rfl (by decide)) ?_
  refine tok_cons (snd_iload dX8_closes_120 rfl) ?_
  refine tok_cons (snd_iload dX8_closes_122 rfl) ?_
  refine tok_cons (snd_icmp_ge dX8_closes_124 (by decide) rfl) ?_
  refine tok_cons (snd_aload_n dX8_closes_127 rfl rfl) ?_
  refine tok_cons (snd_gr (C := RX8) (T := TX8) (N := 21) dX8_closes_128 rfl (by decide) rfl wf8_41 inX8 rfl) ?_
  refine tok_cons (snd_iload_n dX8_closes_131 rfl rfl) ?_
  refine tok_cons (snd_iald dX8_closes_132 rfl) ?_
  refine tok_cons (snd_aload_n dX8_closes_133 rfl rfl) ?_
  refine tok_cons (snd_iload dX8_closes_134 rfl) ?_
  refine tok_cons (snd_iload dX8_closes_136 rfl) ?_
  refine tok_cons (snd_sub dX8_closes_138 rfl) ?_
  refine tok_cons (snd_cv dX8_closes_139 mok_8_rowsOf ⟨wm8_124, wi_8_rowsOf, wl_8_rowsOf⟩ (rc := (RX8, TX8, 21)) rfl rfl pn_8_rowsOf (by decide) ⟨rfl, rfl⟩ rfl) ?_
  refine tok_cons (snd_add dX8_closes_142 rfl) ?_
  refine tok_cons (snd_aload_n dX8_closes_143 rfl rfl) ?_
  refine tok_cons (snd_gr (C := RX8) (T := TX8) (N := 21) dX8_closes_144 rfl (by decide) rfl wf8_7 inX8 rfl) ?_
  refine tok_cons (snd_bipush dX8_closes_147 (by decide) (inr_d rfl) rfl) ?_
  refine tok_cons (snd_iald dX8_closes_149 rfl) ?_
  refine tok_cons (snd_icmp_le dX8_closes_150 (by decide) rfl) ?_
  refine tok_cons (snd_iinc dX8_closes_153 rfl rfl (by decide)) ?_
  refine tok_cons (snd_goto dX8_closes_156 (by decide)) ?_
  refine tok_cons (snd_aload_n dX8_closes_159 rfl rfl) ?_
  refine tok_cons (snd_gr (C := RX8) (T := TX8) (N := 21) dX8_closes_160 rfl (by decide) rfl wf8_44 inX8 rfl) ?_
  refine tok_cons (snd_iload_n dX8_closes_163 rfl rfl) ?_
  refine tok_cons (snd_iload dX8_closes_164 rfl) ?_
  refine tok_cons (snd_iload dX8_closes_166 rfl) ?_
  refine tok_cons (snd_sub dX8_closes_168 rfl) ?_
  refine tok_cons (snd_iast dX8_closes_169 rfl) ?_
  refine tok_cons (snd_aload_n dX8_closes_170 rfl rfl) ?_
  refine tok_cons (snd_gr (C := RX8) (T := TX8) (N := 21) dX8_closes_171 rfl (by decide) rfl wf8_47 inX8 rfl) ?_
  refine tok_cons (snd_iload_n dX8_closes_174 rfl rfl) ?_
  refine tok_cons (snd_iload dX8_closes_175 rfl) ?_
  refine tok_cons (snd_iast dX8_closes_177 rfl) ?_
  refine tok_cons (snd_aload_n dX8_closes_178 rfl rfl) ?_
  refine tok_cons (snd_gr (C := RX8) (T := TX8) (N := 21) dX8_closes_179 rfl (by decide) rfl wf8_50 inX8 rfl) ?_
  refine tok_cons (snd_iload_n dX8_closes_182 rfl rfl) ?_
  refine tok_cons (snd_iconst dX8_closes_183 rfl (inr_d rfl) rfl) ?_
  refine tok_cons (snd_add dX8_closes_184 rfl) ?_
  refine tok_cons (snd_iload dX8_closes_185 rfl) ?_
  refine tok_cons (snd_iast dX8_closes_187 rfl) ?_
  refine tok_cons (snd_ret dX8_closes_188 rfl) ?_
  exact tok_nil
def tab_8_isGroup (X : XT) : Tab := [(0, false, a_aload 0 1), (1, false, a_const 0 2), (2, false, a_iload 1 3), (3, false, a_iload 2 4), (4, false, a_cv X M_8_isGroup M_8_rowsOfGroup 8 4 7), (7, false, a_aload 0 8), (8, false, a_gr 8 0 11), (11, false, a_const 81 13), (13, false, a_ald false 14), (14, false, a_icmp 4 38 17), (17, false, a_aload 0 18), (18, false, a_const 1 19), (19, false, a_iload 1 20), (20, false, a_iload 2 21), (21, false, a_cv X M_8_isGroup M_8_rowsOfGroup 8 4 24), (24, false, a_aload 0 25), (25, false, a_gr 8 0 28), (28, false, a_const 81 30), (30, false, a_ald false 31), (31, false, a_icmp 4 38 34), (34, false, a_const 1 35), (35, false, a_goto 39), (38, false, a_const 0 39), (39, false, a_istore 3 40), (40, false, a_iload 1 41), (41, false, a_const 1 42), (42, false, a_add 43), (43, false, a_istore 4 45), (45, true, a_iload 4 47), (47, false, a_iload 2 48), (48, false, a_icmp 3 80 51), (51, false, a_iload 3 52), (52, false, a_if 0 72 55), (55, false, a_aload 0 56), (56, false, a_gr 8 0 59), (59, false, a_const 61 61), (61, false, a_iload 4 63), (63, false, a_add 64), (64, false, a_ald false 65), (65, false, a_if 1 72 68), (68, false, a_const 1 69), (69, false, a_goto 73), (72, false, a_const 0 73), (73, false, a_istore 3 74), (74, false, a_iinc 4 1 77), (77, false, a_goto 45), (80, false, a_iload 3 81), (81, false, a_zret M_8_isGroup)]
set_option maxRecDepth 20000 in
theorem t_8_isGroup (X : XT) : tget (tab_8_isGroup X) 0 = some (false, a_aload 0 1) ∧ tget (tab_8_isGroup X) 1 = some (false, a_const 0 2) ∧ tget (tab_8_isGroup X) 2 = some (false, a_iload 1 3) ∧ tget (tab_8_isGroup X) 3 = some (false, a_iload 2 4) ∧ tget (tab_8_isGroup X) 4 = some (false, a_cv X M_8_isGroup M_8_rowsOfGroup 8 4 7) ∧ tget (tab_8_isGroup X) 7 = some (false, a_aload 0 8) ∧ tget (tab_8_isGroup X) 8 = some (false, a_gr 8 0 11) ∧ tget (tab_8_isGroup X) 11 = some (false, a_const 81 13) ∧ tget (tab_8_isGroup X) 13 = some (false, a_ald false 14) ∧ tget (tab_8_isGroup X) 14 = some (false, a_icmp 4 38 17) ∧ tget (tab_8_isGroup X) 17 = some (false, a_aload 0 18) ∧ tget (tab_8_isGroup X) 18 = some (false, a_const 1 19) ∧ tget (tab_8_isGroup X) 19 = some (false, a_iload 1 20) ∧ tget (tab_8_isGroup X) 20 = some (false, a_iload 2 21) ∧ tget (tab_8_isGroup X) 21 = some (false, a_cv X M_8_isGroup M_8_rowsOfGroup 8 4 24) ∧ tget (tab_8_isGroup X) 24 = some (false, a_aload 0 25) ∧ tget (tab_8_isGroup X) 25 = some (false, a_gr 8 0 28) ∧ tget (tab_8_isGroup X) 28 = some (false, a_const 81 30) ∧ tget (tab_8_isGroup X) 30 = some (false, a_ald false 31) ∧ tget (tab_8_isGroup X) 31 = some (false, a_icmp 4 38 34) ∧ tget (tab_8_isGroup X) 34 = some (false, a_const 1 35) ∧ tget (tab_8_isGroup X) 35 = some (false, a_goto 39) ∧ tget (tab_8_isGroup X) 38 = some (false, a_const 0 39) ∧ tget (tab_8_isGroup X) 39 = some (false, a_istore 3 40) ∧ tget (tab_8_isGroup X) 40 = some (false, a_iload 1 41) ∧ tget (tab_8_isGroup X) 41 = some (false, a_const 1 42) ∧ tget (tab_8_isGroup X) 42 = some (false, a_add 43) ∧ tget (tab_8_isGroup X) 43 = some (false, a_istore 4 45) ∧ tget (tab_8_isGroup X) 45 = some (true, a_iload 4 47) ∧ tget (tab_8_isGroup X) 47 = some (false, a_iload 2 48) ∧ tget (tab_8_isGroup X) 48 = some (false, a_icmp 3 80 51) ∧ tget (tab_8_isGroup X) 51 = some (false, a_iload 3 52) ∧ tget (tab_8_isGroup X) 52 = some (false, a_if 0 72 55) ∧ tget (tab_8_isGroup X) 55 = some (false, a_aload 0 56) ∧ tget (tab_8_isGroup X) 56 = some (false, a_gr 8 0 59) ∧ tget (tab_8_isGroup X) 59 = some (false, a_const 61 61) ∧ tget (tab_8_isGroup X) 61 = some (false, a_iload 4 63) ∧ tget (tab_8_isGroup X) 63 = some (false, a_add 64) ∧ tget (tab_8_isGroup X) 64 = some (false, a_ald false 65) ∧ tget (tab_8_isGroup X) 65 = some (false, a_if 1 72 68) ∧ tget (tab_8_isGroup X) 68 = some (false, a_const 1 69) ∧ tget (tab_8_isGroup X) 69 = some (false, a_goto 73) ∧ tget (tab_8_isGroup X) 72 = some (false, a_const 0 73) ∧ tget (tab_8_isGroup X) 73 = some (false, a_istore 3 74) ∧ tget (tab_8_isGroup X) 74 = some (false, a_iinc 4 1 77) ∧ tget (tab_8_isGroup X) 77 = some (false, a_goto 45) ∧ tget (tab_8_isGroup X) 80 = some (false, a_iload 3 81) ∧ tget (tab_8_isGroup X) 81 = some (false, a_zret M_8_isGroup) := ⟨rfl, rfl, rfl, rfl, rfl, rfl, rfl, rfl, rfl, rfl, rfl, rfl, rfl, rfl, rfl, rfl, rfl, rfl, rfl, rfl, rfl, rfl, rfl, rfl, rfl, rfl, rfl, rfl, rfl, rfl, rfl, rfl, rfl, rfl, rfl, rfl, rfl, rfl, rfl, rfl, rfl, rfl, rfl, rfl, rfl, rfl, rfl, rfl⟩
theorem tok_8_isGroup (X : XT) : TabOK X M_8_isGroup (tab_8_isGroup X) := by
  unfold tab_8_isGroup
  refine tok_cons (snd_aload_n dX8_isGroup_0 rfl rfl) ?_
  refine tok_cons (snd_iconst dX8_isGroup_1 rfl (inr_d rfl) rfl) ?_
  refine tok_cons (snd_iload_n dX8_isGroup_2 rfl rfl) ?_
  refine tok_cons (snd_iload_n dX8_isGroup_3 rfl rfl) ?_
  refine tok_cons (snd_cv dX8_isGroup_4 mok_8_rowsOfGroup ⟨wm8_163, wi_8_rowsOfGroup, wl_8_rowsOfGroup⟩ (rc := (RX8, TX8, 21)) rfl rfl pn_8_rowsOfGroup (by decide) ⟨rfl, rfl⟩ rfl) ?_
  refine tok_cons (snd_aload_n dX8_isGroup_7 rfl rfl) ?_
  refine tok_cons (snd_gr (C := RX8) (T := TX8) (N := 21) dX8_isGroup_8 rfl (by decide) rfl wf8_7 inX8 rfl) ?_
  refine tok_cons (snd_bipush dX8_isGroup_11 (by decide) (inr_d rfl) rfl) ?_
  refine tok_cons (snd_iald dX8_isGroup_13 rfl) ?_
  refine tok_cons (snd_icmp_gt dX8_isGroup_14 (by decide) rfl) ?_
  refine tok_cons (snd_aload_n dX8_isGroup_17 rfl rfl) ?_
  refine tok_cons (snd_iconst dX8_isGroup_18 rfl (inr_d rfl) rfl) ?_
  refine tok_cons (snd_iload_n dX8_isGroup_19 rfl rfl) ?_
  refine tok_cons (snd_iload_n dX8_isGroup_20 rfl rfl) ?_
  refine tok_cons (snd_cv dX8_isGroup_21 mok_8_rowsOfGroup ⟨wm8_163, wi_8_rowsOfGroup, wl_8_rowsOfGroup⟩ (rc := (RX8, TX8, 21)) rfl rfl pn_8_rowsOfGroup (by decide) ⟨rfl, rfl⟩ rfl) ?_
  refine tok_cons (snd_aload_n dX8_isGroup_24 rfl rfl) ?_
  refine tok_cons (snd_gr (C := RX8) (T := TX8) (N := 21) dX8_isGroup_25 rfl (by decide) rfl wf8_7 inX8 rfl) ?_
  refine tok_cons (snd_bipush dX8_isGroup_28 (by decide) (inr_d rfl) rfl) ?_
  refine tok_cons (snd_iald dX8_isGroup_30 rfl) ?_
  refine tok_cons (snd_icmp_gt dX8_isGroup_31 (by decide) rfl) ?_
  refine tok_cons (snd_iconst dX8_isGroup_34 rfl (inr_d rfl) rfl) ?_
  refine tok_cons (snd_goto dX8_isGroup_35 (by decide)) ?_
  refine tok_cons (snd_iconst dX8_isGroup_38 rfl (inr_d rfl) rfl) ?_
  refine tok_cons (snd_istore_n dX8_isGroup_39 rfl rfl (by decide)) ?_
  refine tok_cons (snd_iload_n dX8_isGroup_40 rfl rfl) ?_
  refine tok_cons (snd_iconst dX8_isGroup_41 rfl (inr_d rfl) rfl) ?_
  refine tok_cons (snd_add dX8_isGroup_42 rfl) ?_
  refine tok_cons (snd_istore dX8_isGroup_43 rfl (by decide)) ?_
  refine tok_cons (snd_iload dX8_isGroup_45 rfl) ?_
  refine tok_cons (snd_iload_n dX8_isGroup_47 rfl rfl) ?_
  refine tok_cons (snd_icmp_ge dX8_isGroup_48 (by decide) rfl) ?_
  refine tok_cons (snd_iload_n dX8_isGroup_51 rfl rfl) ?_
  refine tok_cons (snd_if_eq dX8_isGroup_52 (by decide) rfl) ?_
  refine tok_cons (snd_aload_n dX8_isGroup_55 rfl rfl) ?_
  refine tok_cons (snd_gr (C := RX8) (T := TX8) (N := 21) dX8_isGroup_56 rfl (by decide) rfl wf8_7 inX8 rfl) ?_
  refine tok_cons (snd_bipush dX8_isGroup_59 (by decide) (inr_d rfl) rfl) ?_
  refine tok_cons (snd_iload dX8_isGroup_61 rfl) ?_
  refine tok_cons (snd_add dX8_isGroup_63 rfl) ?_
  refine tok_cons (snd_iald dX8_isGroup_64 rfl) ?_
  refine tok_cons (snd_if_ne dX8_isGroup_65 (by decide) rfl) ?_
  refine tok_cons (snd_iconst dX8_isGroup_68 rfl (inr_d rfl) rfl) ?_
  refine tok_cons (snd_goto dX8_isGroup_69 (by decide)) ?_
  refine tok_cons (snd_iconst dX8_isGroup_72 rfl (inr_d rfl) rfl) ?_
  refine tok_cons (snd_istore_n dX8_isGroup_73 rfl rfl (by decide)) ?_
  refine tok_cons (snd_iinc dX8_isGroup_74 rfl rfl (by decide)) ?_
  refine tok_cons (snd_goto dX8_isGroup_77 (by decide)) ?_
  refine tok_cons (snd_iload_n dX8_isGroup_80 rfl rfl) ?_
  refine tok_cons (snd_zret dX8_isGroup_81 rfl) ?_
  exact tok_nil
def tab_8_addNote (X : XT) : Tab := [(0, false, a_aload 0 1), (1, false, a_iload 1 2), (2, false, a_iload 2 3), (3, false, a_iload 3 4), (4, false, a_cv X M_8_addNote M_8_isLine 8 4 7), (7, false, a_if 0 21 10), (10, false, a_iload 4 12), (12, false, a_const 1 13), (13, false, a_const 10 15), (15, false, a_sv X M_8_addNote M_8_in 3 18), (18, false, a_if 1 23 21), (21, false, a_const (-1) 22), (22, false, a_iret M_8_addNote), (23, false, a_aload 0 24), (24, false, a_gr 8 0 27), (27, false, a_const 87 29), (29, false, a_ald false 30), (30, false, a_aload 0 31), (31, false, a_gr 8 0 34), (34, false, a_const 88 36), (36, false, a_ald false 37), (37, false, a_add 38), (38, false, a_const 40 40), (40, false, a_icmp 1 46 43), (43, false, a_const (-3) 45), (45, false, a_iret M_8_addNote), (46, false, a_aload 0 47), (47, false, a_cn X M_8_addNote M_8_records 8 1 50), (50, false, a_aload 0 51), (51, false, a_iload 2 52), (52, false, a_iload 1 53), (53, false, a_iload 3 54), (54, false, a_const 1 55), (55, false, a_add 56), (56, false, a_cv X M_8_addNote M_8_notesAhead 8 4 59), (59, false, a_istore 5 61), (61, false, a_const 40 63), (63, false, a_iload 2 64), (64, false, a_mul 65), (65, false, a_aload 0 66), (66, false, a_gr 8 0 69), (69, false, a_const 87 71), (71, false, a_iload 2 72), (72, false, a_add 73), (73, false, a_ald false 74), (74, false, a_add 75), (75, false, a_istore 6 77), (77, true, a_iload 6 79), (79, false, a_const 40 81), (81, false, a_iload 2 82), (82, false, a_mul 83), (83, false, a_iload 5 85), (85, false, a_add 86), (86, false, a_icmp 5 165 89), (89, false, a_aload 0 90), (90, false, a_gr 8 0 93), (93, false, a_const 89 95), (95, false, a_iload 6 97), (97, false, a_add 98), (98, false, a_aload 0 99), (99, false, a_gr 8 0 102), (102, false, a_const 89 104), (104, false, a_iload 6 106), (106, false, a_add 107), (107, false, a_const 1 108), (108, false, a_sub 109), (109, false, a_ald false 110), (110, false, a_ast false 111), (111, false, a_aload 0 112), (112, false, a_gr 8 0 115), (115, false, a_const 169 118), (118, false, a_iload 6 120), (120, false, a_add 121), (121, false, a_aload 0 122), (122, false, a_gr 8 0 125), (125, false, a_const 169 128), (128, false, a_iload 6 130), (130, false, a_add 131), (131, false, a_const 1 132), (132, false, a_sub 133), (133, false, a_ald false 134), (134, false, a_ast false 135), (135, false, a_aload 0 136), (136, false, a_gr 8 0 139), (139, false, a_const 249 142), (142, false, a_iload 6 144), (144, false, a_add 145), (145, false, a_aload 0 146), (146, false, a_gr 8 0 149), (149, false, a_const 249 152), (152, false, a_iload 6 154), (154, false, a_add 155), (155, false, a_const 1 156), (156, false, a_sub 157), (157, false, a_ald false 158), (158, false, a_ast false 159), (159, false, a_iinc 6 (-1) 162), (162, false, a_goto 77), (165, false, a_aload 0 166), (166, false, a_gr 8 0 169), (169, false, a_const 89 171), (171, false, a_const 40 173), (173, false, a_iload 2 174), (174, false, a_mul 175), (175, false, a_add 176), (176, false, a_iload 5 178), (178, false, a_add 179), (179, false, a_iload 1 180), (180, false, a_ast false 181), (181, false, a_aload 0 182), (182, false, a_gr 8 0 185), (185, false, a_const 169 188), (188, false, a_const 40 190), (190, false, a_iload 2 191), (191, false, a_mul 192), (192, false, a_add 193), (193, false, a_iload 5 195), (195, false, a_add 196), (196, false, a_iload 3 197), (197, false, a_ast false 198), (198, false, a_aload 0 199), (199, false, a_gr 8 0 202), (202, false, a_const 249 205), (205, false, a_const 40 207), (207, false, a_iload 2 208), (208, false, a_mul 209), (209, false, a_add 210), (210, false, a_iload 5 212), (212, false, a_add 213), (213, false, a_iload 4 215), (215, false, a_ast false 216), (216, false, a_aload 0 217), (217, false, a_gr 8 0 220), (220, false, a_const 87 222), (222, false, a_iload 2 223), (223, false, a_add 224), (224, false, a_dup2 225), (225, false, a_ald false 226), (226, false, a_const 1 227), (227, false, a_add 228), (228, false, a_ast false 229), (229, false, a_iload 5 231), (231, false, a_iret M_8_addNote)]
set_option maxRecDepth 20000 in
theorem t_8_addNote (X : XT) : tget (tab_8_addNote X) 0 = some (false, a_aload 0 1) ∧ tget (tab_8_addNote X) 1 = some (false, a_iload 1 2) ∧ tget (tab_8_addNote X) 2 = some (false, a_iload 2 3) ∧ tget (tab_8_addNote X) 3 = some (false, a_iload 3 4) ∧ tget (tab_8_addNote X) 4 = some (false, a_cv X M_8_addNote M_8_isLine 8 4 7) ∧ tget (tab_8_addNote X) 7 = some (false, a_if 0 21 10) ∧ tget (tab_8_addNote X) 10 = some (false, a_iload 4 12) ∧ tget (tab_8_addNote X) 12 = some (false, a_const 1 13) ∧ tget (tab_8_addNote X) 13 = some (false, a_const 10 15) ∧ tget (tab_8_addNote X) 15 = some (false, a_sv X M_8_addNote M_8_in 3 18) ∧ tget (tab_8_addNote X) 18 = some (false, a_if 1 23 21) ∧ tget (tab_8_addNote X) 21 = some (false, a_const (-1) 22) ∧ tget (tab_8_addNote X) 22 = some (false, a_iret M_8_addNote) ∧ tget (tab_8_addNote X) 23 = some (false, a_aload 0 24) ∧ tget (tab_8_addNote X) 24 = some (false, a_gr 8 0 27) ∧ tget (tab_8_addNote X) 27 = some (false, a_const 87 29) ∧ tget (tab_8_addNote X) 29 = some (false, a_ald false 30) ∧ tget (tab_8_addNote X) 30 = some (false, a_aload 0 31) ∧ tget (tab_8_addNote X) 31 = some (false, a_gr 8 0 34) ∧ tget (tab_8_addNote X) 34 = some (false, a_const 88 36) ∧ tget (tab_8_addNote X) 36 = some (false, a_ald false 37) ∧ tget (tab_8_addNote X) 37 = some (false, a_add 38) ∧ tget (tab_8_addNote X) 38 = some (false, a_const 40 40) ∧ tget (tab_8_addNote X) 40 = some (false, a_icmp 1 46 43) ∧ tget (tab_8_addNote X) 43 = some (false, a_const (-3) 45) ∧ tget (tab_8_addNote X) 45 = some (false, a_iret M_8_addNote) ∧ tget (tab_8_addNote X) 46 = some (false, a_aload 0 47) ∧ tget (tab_8_addNote X) 47 = some (false, a_cn X M_8_addNote M_8_records 8 1 50) ∧ tget (tab_8_addNote X) 50 = some (false, a_aload 0 51) ∧ tget (tab_8_addNote X) 51 = some (false, a_iload 2 52) ∧ tget (tab_8_addNote X) 52 = some (false, a_iload 1 53) ∧ tget (tab_8_addNote X) 53 = some (false, a_iload 3 54) ∧ tget (tab_8_addNote X) 54 = some (false, a_const 1 55) ∧ tget (tab_8_addNote X) 55 = some (false, a_add 56) ∧ tget (tab_8_addNote X) 56 = some (false, a_cv X M_8_addNote M_8_notesAhead 8 4 59) ∧ tget (tab_8_addNote X) 59 = some (false, a_istore 5 61) ∧ tget (tab_8_addNote X) 61 = some (false, a_const 40 63) ∧ tget (tab_8_addNote X) 63 = some (false, a_iload 2 64) ∧ tget (tab_8_addNote X) 64 = some (false, a_mul 65) ∧ tget (tab_8_addNote X) 65 = some (false, a_aload 0 66) ∧ tget (tab_8_addNote X) 66 = some (false, a_gr 8 0 69) ∧ tget (tab_8_addNote X) 69 = some (false, a_const 87 71) ∧ tget (tab_8_addNote X) 71 = some (false, a_iload 2 72) ∧ tget (tab_8_addNote X) 72 = some (false, a_add 73) ∧ tget (tab_8_addNote X) 73 = some (false, a_ald false 74) ∧ tget (tab_8_addNote X) 74 = some (false, a_add 75) ∧ tget (tab_8_addNote X) 75 = some (false, a_istore 6 77) ∧ tget (tab_8_addNote X) 77 = some (true, a_iload 6 79) ∧ tget (tab_8_addNote X) 79 = some (false, a_const 40 81) ∧ tget (tab_8_addNote X) 81 = some (false, a_iload 2 82) ∧ tget (tab_8_addNote X) 82 = some (false, a_mul 83) ∧ tget (tab_8_addNote X) 83 = some (false, a_iload 5 85) ∧ tget (tab_8_addNote X) 85 = some (false, a_add 86) ∧ tget (tab_8_addNote X) 86 = some (false, a_icmp 5 165 89) ∧ tget (tab_8_addNote X) 89 = some (false, a_aload 0 90) ∧ tget (tab_8_addNote X) 90 = some (false, a_gr 8 0 93) ∧ tget (tab_8_addNote X) 93 = some (false, a_const 89 95) ∧ tget (tab_8_addNote X) 95 = some (false, a_iload 6 97) ∧ tget (tab_8_addNote X) 97 = some (false, a_add 98) ∧ tget (tab_8_addNote X) 98 = some (false, a_aload 0 99) ∧ tget (tab_8_addNote X) 99 = some (false, a_gr 8 0 102) ∧ tget (tab_8_addNote X) 102 = some (false, a_const 89 104) ∧ tget (tab_8_addNote X) 104 = some (false, a_iload 6 106) ∧ tget (tab_8_addNote X) 106 = some (false, a_add 107) ∧ tget (tab_8_addNote X) 107 = some (false, a_const 1 108) ∧ tget (tab_8_addNote X) 108 = some (false, a_sub 109) ∧ tget (tab_8_addNote X) 109 = some (false, a_ald false 110) ∧ tget (tab_8_addNote X) 110 = some (false, a_ast false 111) ∧ tget (tab_8_addNote X) 111 = some (false, a_aload 0 112) ∧ tget (tab_8_addNote X) 112 = some (false, a_gr 8 0 115) ∧ tget (tab_8_addNote X) 115 = some (false, a_const 169 118) ∧ tget (tab_8_addNote X) 118 = some (false, a_iload 6 120) ∧ tget (tab_8_addNote X) 120 = some (false, a_add 121) ∧ tget (tab_8_addNote X) 121 = some (false, a_aload 0 122) ∧ tget (tab_8_addNote X) 122 = some (false, a_gr 8 0 125) ∧ tget (tab_8_addNote X) 125 = some (false, a_const 169 128) ∧ tget (tab_8_addNote X) 128 = some (false, a_iload 6 130) ∧ tget (tab_8_addNote X) 130 = some (false, a_add 131) ∧ tget (tab_8_addNote X) 131 = some (false, a_const 1 132) ∧ tget (tab_8_addNote X) 132 = some (false, a_sub 133) ∧ tget (tab_8_addNote X) 133 = some (false, a_ald false 134) ∧ tget (tab_8_addNote X) 134 = some (false, a_ast false 135) ∧ tget (tab_8_addNote X) 135 = some (false, a_aload 0 136) ∧ tget (tab_8_addNote X) 136 = some (false, a_gr 8 0 139) ∧ tget (tab_8_addNote X) 139 = some (false, a_const 249 142) ∧ tget (tab_8_addNote X) 142 = some (false, a_iload 6 144) ∧ tget (tab_8_addNote X) 144 = some (false, a_add 145) ∧ tget (tab_8_addNote X) 145 = some (false, a_aload 0 146) ∧ tget (tab_8_addNote X) 146 = some (false, a_gr 8 0 149) ∧ tget (tab_8_addNote X) 149 = some (false, a_const 249 152) ∧ tget (tab_8_addNote X) 152 = some (false, a_iload 6 154) ∧ tget (tab_8_addNote X) 154 = some (false, a_add 155) ∧ tget (tab_8_addNote X) 155 = some (false, a_const 1 156) ∧ tget (tab_8_addNote X) 156 = some (false, a_sub 157) ∧ tget (tab_8_addNote X) 157 = some (false, a_ald false 158) ∧ tget (tab_8_addNote X) 158 = some (false, a_ast false 159) ∧ tget (tab_8_addNote X) 159 = some (false, a_iinc 6 (-1) 162) ∧ tget (tab_8_addNote X) 162 = some (false, a_goto 77) ∧ tget (tab_8_addNote X) 165 = some (false, a_aload 0 166) ∧ tget (tab_8_addNote X) 166 = some (false, a_gr 8 0 169) ∧ tget (tab_8_addNote X) 169 = some (false, a_const 89 171) ∧ tget (tab_8_addNote X) 171 = some (false, a_const 40 173) ∧ tget (tab_8_addNote X) 173 = some (false, a_iload 2 174) ∧ tget (tab_8_addNote X) 174 = some (false, a_mul 175) ∧ tget (tab_8_addNote X) 175 = some (false, a_add 176) ∧ tget (tab_8_addNote X) 176 = some (false, a_iload 5 178) ∧ tget (tab_8_addNote X) 178 = some (false, a_add 179) ∧ tget (tab_8_addNote X) 179 = some (false, a_iload 1 180) ∧ tget (tab_8_addNote X) 180 = some (false, a_ast false 181) ∧ tget (tab_8_addNote X) 181 = some (false, a_aload 0 182) ∧ tget (tab_8_addNote X) 182 = some (false, a_gr 8 0 185) ∧ tget (tab_8_addNote X) 185 = some (false, a_const 169 188) ∧ tget (tab_8_addNote X) 188 = some (false, a_const 40 190) ∧ tget (tab_8_addNote X) 190 = some (false, a_iload 2 191) ∧ tget (tab_8_addNote X) 191 = some (false, a_mul 192) ∧ tget (tab_8_addNote X) 192 = some (false, a_add 193) ∧ tget (tab_8_addNote X) 193 = some (false, a_iload 5 195) ∧ tget (tab_8_addNote X) 195 = some (false, a_add 196) ∧ tget (tab_8_addNote X) 196 = some (false, a_iload 3 197) ∧ tget (tab_8_addNote X) 197 = some (false, a_ast false 198) ∧ tget (tab_8_addNote X) 198 = some (false, a_aload 0 199) ∧ tget (tab_8_addNote X) 199 = some (false, a_gr 8 0 202) ∧ tget (tab_8_addNote X) 202 = some (false, a_const 249 205) ∧ tget (tab_8_addNote X) 205 = some (false, a_const 40 207) ∧ tget (tab_8_addNote X) 207 = some (false, a_iload 2 208) ∧ tget (tab_8_addNote X) 208 = some (false, a_mul 209) ∧ tget (tab_8_addNote X) 209 = some (false, a_add 210) ∧ tget (tab_8_addNote X) 210 = some (false, a_iload 5 212) ∧ tget (tab_8_addNote X) 212 = some (false, a_add 213) ∧ tget (tab_8_addNote X) 213 = some (false, a_iload 4 215) ∧ tget (tab_8_addNote X) 215 = some (false, a_ast false 216) ∧ tget (tab_8_addNote X) 216 = some (false, a_aload 0 217) ∧ tget (tab_8_addNote X) 217 = some (false, a_gr 8 0 220) ∧ tget (tab_8_addNote X) 220 = some (false, a_const 87 222) ∧ tget (tab_8_addNote X) 222 = some (false, a_iload 2 223) ∧ tget (tab_8_addNote X) 223 = some (false, a_add 224) ∧ tget (tab_8_addNote X) 224 = some (false, a_dup2 225) ∧ tget (tab_8_addNote X) 225 = some (false, a_ald false 226) ∧ tget (tab_8_addNote X) 226 = some (false, a_const 1 227) ∧ tget (tab_8_addNote X) 227 = some (false, a_add 228) ∧ tget (tab_8_addNote X) 228 = some (false, a_ast false 229) ∧ tget (tab_8_addNote X) 229 = some (false, a_iload 5 231) ∧ tget (tab_8_addNote X) 231 = some (false, a_iret M_8_addNote) := ⟨rfl, rfl, rfl, rfl, rfl, rfl, rfl, rfl, rfl, rfl, rfl, rfl, rfl, rfl, rfl, rfl, rfl, rfl, rfl, rfl, rfl, rfl, rfl, rfl, rfl, rfl, rfl, rfl, rfl, rfl, rfl, rfl, rfl, rfl, rfl, rfl, rfl, rfl, rfl, rfl, rfl, rfl, rfl, rfl, rfl, rfl, rfl, rfl, rfl, rfl, rfl, rfl, rfl, rfl, rfl, rfl, rfl, rfl, rfl, rfl, rfl, rfl, rfl, rfl, rfl, rfl, rfl, rfl, rfl, rfl, rfl, rfl, rfl, rfl, rfl, rfl, rfl, rfl, rfl, rfl, rfl, rfl, rfl, rfl, rfl, rfl, rfl, rfl, rfl, rfl, rfl, rfl, rfl, rfl, rfl, rfl, rfl, rfl, rfl, rfl, rfl, rfl, rfl, rfl, rfl, rfl, rfl, rfl, rfl, rfl, rfl, rfl, rfl, rfl, rfl, rfl, rfl, rfl, rfl, rfl, rfl, rfl, rfl, rfl, rfl, rfl, rfl, rfl, rfl, rfl, rfl, rfl, rfl, rfl, rfl, rfl, rfl, rfl, rfl, rfl, rfl, rfl, rfl⟩
theorem tok_8_addNote (X : XT) : TabOK X M_8_addNote (tab_8_addNote X) := by
  unfold tab_8_addNote
  refine tok_cons (snd_aload_n dX8_addNote_0 rfl rfl) ?_
  refine tok_cons (snd_iload_n dX8_addNote_1 rfl rfl) ?_
  refine tok_cons (snd_iload_n dX8_addNote_2 rfl rfl) ?_
  refine tok_cons (snd_iload_n dX8_addNote_3 rfl rfl) ?_
  refine tok_cons (snd_cv dX8_addNote_4 mok_8_isLine ⟨wm8_88, wi_8_isLine, wl_8_isLine⟩ (rc := (RX8, TX8, 21)) rfl rfl pn_8_isLine (by decide) ⟨rfl, rfl⟩ rfl) ?_
  refine tok_cons (snd_if_eq dX8_addNote_7 (by decide) rfl) ?_
  refine tok_cons (snd_iload dX8_addNote_10 rfl) ?_
  refine tok_cons (snd_iconst dX8_addNote_12 rfl (inr_d rfl) rfl) ?_
  refine tok_cons (snd_bipush dX8_addNote_13 (by decide) (inr_d rfl) rfl) ?_
  refine tok_cons (snd_sv dX8_addNote_15 mok_8_in ⟨ws_8_in, Or.inl ⟨wm8_62, rfl⟩⟩ pn_8_in (by decide) ⟨rfl, rfl⟩ rfl) ?_
  refine tok_cons (snd_if_ne dX8_addNote_18 (by decide) rfl) ?_
  refine tok_cons (snd_iconst dX8_addNote_21 rfl (inr_d rfl) rfl) ?_
  refine tok_cons (snd_iret dX8_addNote_22 rfl) ?_
  refine tok_cons (snd_aload_n dX8_addNote_23 rfl rfl) ?_
  refine tok_cons (snd_gr (C := RX8) (T := TX8) (N := 21) dX8_addNote_24 rfl (by decide) rfl wf8_7 inX8 rfl) ?_
  refine tok_cons (snd_bipush dX8_addNote_27 (by decide) (inr_d rfl) rfl) ?_
  refine tok_cons (snd_iald dX8_addNote_29 rfl) ?_
  refine tok_cons (snd_aload_n dX8_addNote_30 rfl rfl) ?_
  refine tok_cons (snd_gr (C := RX8) (T := TX8) (N := 21) dX8_addNote_31 rfl (by decide) rfl wf8_7 inX8 rfl) ?_
  refine tok_cons (snd_bipush dX8_addNote_34 (by decide) (inr_d rfl) rfl) ?_
  refine tok_cons (snd_iald dX8_addNote_36 rfl) ?_
  refine tok_cons (snd_add dX8_addNote_37 rfl) ?_
  refine tok_cons (snd_bipush dX8_addNote_38 (by decide) (inr_d rfl) rfl) ?_
  refine tok_cons (snd_icmp_ne dX8_addNote_40 (by decide) rfl) ?_
  refine tok_cons (snd_bipush dX8_addNote_43 (by decide) (inr_d rfl) rfl) ?_
  refine tok_cons (snd_iret dX8_addNote_45 rfl) ?_
  refine tok_cons (snd_aload_n dX8_addNote_46 rfl rfl) ?_
  refine tok_cons (snd_cn dX8_addNote_47 mok_8_records ⟨wm8_81, wi_8_records, wl_8_records⟩ (rc := (RX8, TX8, 21)) rfl rfl pn_8_records (by decide) ⟨rfl, rfl⟩ rfl) ?_
  refine tok_cons (snd_aload_n dX8_addNote_50 rfl rfl) ?_
  refine tok_cons (snd_iload_n dX8_addNote_51 rfl rfl) ?_
  refine tok_cons (snd_iload_n dX8_addNote_52 rfl rfl) ?_
  refine tok_cons (snd_iload_n dX8_addNote_53 rfl rfl) ?_
  refine tok_cons (snd_iconst dX8_addNote_54 rfl (inr_d rfl) rfl) ?_
  refine tok_cons (snd_add dX8_addNote_55 rfl) ?_
  refine tok_cons (snd_cv dX8_addNote_56 mok_8_notesAhead ⟨wm8_91, wi_8_notesAhead, wl_8_notesAhead⟩ (rc := (RX8, TX8, 21)) rfl rfl pn_8_notesAhead (by decide) ⟨rfl, rfl⟩ rfl) ?_
  refine tok_cons (snd_istore dX8_addNote_59 rfl (by decide)) ?_
  refine tok_cons (snd_bipush dX8_addNote_61 (by decide) (inr_d rfl) rfl) ?_
  refine tok_cons (snd_iload_n dX8_addNote_63 rfl rfl) ?_
  refine tok_cons (snd_mul dX8_addNote_64 rfl) ?_
  refine tok_cons (snd_aload_n dX8_addNote_65 rfl rfl) ?_
  refine tok_cons (snd_gr (C := RX8) (T := TX8) (N := 21) dX8_addNote_66 rfl (by decide) rfl wf8_7 inX8 rfl) ?_
  refine tok_cons (snd_bipush dX8_addNote_69 (by decide) (inr_d rfl) rfl) ?_
  refine tok_cons (snd_iload_n dX8_addNote_71 rfl rfl) ?_
  refine tok_cons (snd_add dX8_addNote_72 rfl) ?_
  refine tok_cons (snd_iald dX8_addNote_73 rfl) ?_
  refine tok_cons (snd_add dX8_addNote_74 rfl) ?_
  refine tok_cons (snd_istore dX8_addNote_75 rfl (by decide)) ?_
  refine tok_cons (snd_iload dX8_addNote_77 rfl) ?_
  refine tok_cons (snd_bipush dX8_addNote_79 (by decide) (inr_d rfl) rfl) ?_
  refine tok_cons (snd_iload_n dX8_addNote_81 rfl rfl) ?_
  refine tok_cons (snd_mul dX8_addNote_82 rfl) ?_
  refine tok_cons (snd_iload dX8_addNote_83 rfl) ?_
  refine tok_cons (snd_add dX8_addNote_85 rfl) ?_
  refine tok_cons (snd_icmp_le dX8_addNote_86 (by decide) rfl) ?_
  refine tok_cons (snd_aload_n dX8_addNote_89 rfl rfl) ?_
  refine tok_cons (snd_gr (C := RX8) (T := TX8) (N := 21) dX8_addNote_90 rfl (by decide) rfl wf8_7 inX8 rfl) ?_
  refine tok_cons (snd_bipush dX8_addNote_93 (by decide) (inr_d rfl) rfl) ?_
  refine tok_cons (snd_iload dX8_addNote_95 rfl) ?_
  refine tok_cons (snd_add dX8_addNote_97 rfl) ?_
  refine tok_cons (snd_aload_n dX8_addNote_98 rfl rfl) ?_
  refine tok_cons (snd_gr (C := RX8) (T := TX8) (N := 21) dX8_addNote_99 rfl (by decide) rfl wf8_7 inX8 rfl) ?_
  refine tok_cons (snd_bipush dX8_addNote_102 (by decide) (inr_d rfl) rfl) ?_
  refine tok_cons (snd_iload dX8_addNote_104 rfl) ?_
  refine tok_cons (snd_add dX8_addNote_106 rfl) ?_
  refine tok_cons (snd_iconst dX8_addNote_107 rfl (inr_d rfl) rfl) ?_
  refine tok_cons (snd_sub dX8_addNote_108 rfl) ?_
  refine tok_cons (snd_iald dX8_addNote_109 rfl) ?_
  refine tok_cons (snd_iast dX8_addNote_110 rfl) ?_
  refine tok_cons (snd_aload_n dX8_addNote_111 rfl rfl) ?_
  refine tok_cons (snd_gr (C := RX8) (T := TX8) (N := 21) dX8_addNote_112 rfl (by decide) rfl wf8_7 inX8 rfl) ?_
  refine tok_cons (snd_sipush dX8_addNote_115 (by decide) (inr_d rfl) rfl) ?_
  refine tok_cons (snd_iload dX8_addNote_118 rfl) ?_
  refine tok_cons (snd_add dX8_addNote_120 rfl) ?_
  refine tok_cons (snd_aload_n dX8_addNote_121 rfl rfl) ?_
  refine tok_cons (snd_gr (C := RX8) (T := TX8) (N := 21) dX8_addNote_122 rfl (by decide) rfl wf8_7 inX8 rfl) ?_
  refine tok_cons (snd_sipush dX8_addNote_125 (by decide) (inr_d rfl) rfl) ?_
  refine tok_cons (snd_iload dX8_addNote_128 rfl) ?_
  refine tok_cons (snd_add dX8_addNote_130 rfl) ?_
  refine tok_cons (snd_iconst dX8_addNote_131 rfl (inr_d rfl) rfl) ?_
  refine tok_cons (snd_sub dX8_addNote_132 rfl) ?_
  refine tok_cons (snd_iald dX8_addNote_133 rfl) ?_
  refine tok_cons (snd_iast dX8_addNote_134 rfl) ?_
  refine tok_cons (snd_aload_n dX8_addNote_135 rfl rfl) ?_
  refine tok_cons (snd_gr (C := RX8) (T := TX8) (N := 21) dX8_addNote_136 rfl (by decide) rfl wf8_7 inX8 rfl) ?_
  refine tok_cons (snd_sipush dX8_addNote_139 (by decide) (inr_d rfl) rfl) ?_
  refine tok_cons (snd_iload dX8_addNote_142 rfl) ?_
  refine tok_cons (snd_add dX8_addNote_144 rfl) ?_
  refine tok_cons (snd_aload_n dX8_addNote_145 rfl rfl) ?_
  refine tok_cons (snd_gr (C := RX8) (T := TX8) (N := 21) dX8_addNote_146 rfl (by decide) rfl wf8_7 inX8 rfl) ?_
  refine tok_cons (snd_sipush dX8_addNote_149 (by decide) (inr_d rfl) rfl) ?_
  refine tok_cons (snd_iload dX8_addNote_152 rfl) ?_
  refine tok_cons (snd_add dX8_addNote_154 rfl) ?_
  refine tok_cons (snd_iconst dX8_addNote_155 rfl (inr_d rfl) rfl) ?_
  refine tok_cons (snd_sub dX8_addNote_156 rfl) ?_
  refine tok_cons (snd_iald dX8_addNote_157 rfl) ?_
  refine tok_cons (snd_iast dX8_addNote_158 rfl) ?_
  refine tok_cons (snd_iinc dX8_addNote_159 rfl rfl (by decide)) ?_
  refine tok_cons (snd_goto dX8_addNote_162 (by decide)) ?_
  refine tok_cons (snd_aload_n dX8_addNote_165 rfl rfl) ?_
  refine tok_cons (snd_gr (C := RX8) (T := TX8) (N := 21) dX8_addNote_166 rfl (by decide) rfl wf8_7 inX8 rfl) ?_
  refine tok_cons (snd_bipush dX8_addNote_169 (by decide) (inr_d rfl) rfl) ?_
  refine tok_cons (snd_bipush dX8_addNote_171 (by decide) (inr_d rfl) rfl) ?_
  refine tok_cons (snd_iload_n dX8_addNote_173 rfl rfl) ?_
  refine tok_cons (snd_mul dX8_addNote_174 rfl) ?_
  refine tok_cons (snd_add dX8_addNote_175 rfl) ?_
  refine tok_cons (snd_iload dX8_addNote_176 rfl) ?_
  refine tok_cons (snd_add dX8_addNote_178 rfl) ?_
  refine tok_cons (snd_iload_n dX8_addNote_179 rfl rfl) ?_
  refine tok_cons (snd_iast dX8_addNote_180 rfl) ?_
  refine tok_cons (snd_aload_n dX8_addNote_181 rfl rfl) ?_
  refine tok_cons (snd_gr (C := RX8) (T := TX8) (N := 21) dX8_addNote_182 rfl (by decide) rfl wf8_7 inX8 rfl) ?_
  refine tok_cons (snd_sipush dX8_addNote_185 (by decide) (inr_d rfl) rfl) ?_
  refine tok_cons (snd_bipush dX8_addNote_188 (by decide) (inr_d rfl) rfl) ?_
  refine tok_cons (snd_iload_n dX8_addNote_190 rfl rfl) ?_
  refine tok_cons (snd_mul dX8_addNote_191 rfl) ?_
  refine tok_cons (snd_add dX8_addNote_192 rfl) ?_
  refine tok_cons (snd_iload dX8_addNote_193 rfl) ?_
  refine tok_cons (snd_add dX8_addNote_195 rfl) ?_
  refine tok_cons (snd_iload_n dX8_addNote_196 rfl rfl) ?_
  refine tok_cons (snd_iast dX8_addNote_197 rfl) ?_
  refine tok_cons (snd_aload_n dX8_addNote_198 rfl rfl) ?_
  refine tok_cons (snd_gr (C := RX8) (T := TX8) (N := 21) dX8_addNote_199 rfl (by decide) rfl wf8_7 inX8 rfl) ?_
  refine tok_cons (snd_sipush dX8_addNote_202 (by decide) (inr_d rfl) rfl) ?_
  refine tok_cons (snd_bipush dX8_addNote_205 (by decide) (inr_d rfl) rfl) ?_
  refine tok_cons (snd_iload_n dX8_addNote_207 rfl rfl) ?_
  refine tok_cons (snd_mul dX8_addNote_208 rfl) ?_
  refine tok_cons (snd_add dX8_addNote_209 rfl) ?_
  refine tok_cons (snd_iload dX8_addNote_210 rfl) ?_
  refine tok_cons (snd_add dX8_addNote_212 rfl) ?_
  refine tok_cons (snd_iload dX8_addNote_213 rfl) ?_
  refine tok_cons (snd_iast dX8_addNote_215 rfl) ?_
  refine tok_cons (snd_aload_n dX8_addNote_216 rfl rfl) ?_
  refine tok_cons (snd_gr (C := RX8) (T := TX8) (N := 21) dX8_addNote_217 rfl (by decide) rfl wf8_7 inX8 rfl) ?_
  refine tok_cons (snd_bipush dX8_addNote_220 (by decide) (inr_d rfl) rfl) ?_
  refine tok_cons (snd_iload_n dX8_addNote_222 rfl rfl) ?_
  refine tok_cons (snd_add dX8_addNote_223 rfl) ?_
  refine tok_cons (snd_dup2 dX8_addNote_224 rfl) ?_
  refine tok_cons (snd_iald dX8_addNote_225 rfl) ?_
  refine tok_cons (snd_iconst dX8_addNote_226 rfl (inr_d rfl) rfl) ?_
  refine tok_cons (snd_add dX8_addNote_227 rfl) ?_
  refine tok_cons (snd_iast dX8_addNote_228 rfl) ?_
  refine tok_cons (snd_iload dX8_addNote_229 rfl) ?_
  refine tok_cons (snd_iret dX8_addNote_231 rfl) ?_
  exact tok_nil
def tab_8_fits (X : XT) : Tab := [(0, false, a_aload 0 1), (1, false, a_const 0 2), (2, false, a_iload 1 3), (3, false, a_cv X M_8_fits M_8_fitsOn 8 3 6), (6, false, a_if 0 22 9), (9, false, a_aload 0 10), (10, false, a_const 1 11), (11, false, a_iload 2 12), (12, false, a_cv X M_8_fits M_8_fitsOn 8 3 15), (15, false, a_if 0 22 18), (18, false, a_const 1 19), (19, false, a_goto 23), (22, false, a_const 0 23), (23, false, a_zret M_8_fits)]
set_option maxRecDepth 20000 in
theorem t_8_fits (X : XT) : tget (tab_8_fits X) 0 = some (false, a_aload 0 1) ∧ tget (tab_8_fits X) 1 = some (false, a_const 0 2) ∧ tget (tab_8_fits X) 2 = some (false, a_iload 1 3) ∧ tget (tab_8_fits X) 3 = some (false, a_cv X M_8_fits M_8_fitsOn 8 3 6) ∧ tget (tab_8_fits X) 6 = some (false, a_if 0 22 9) ∧ tget (tab_8_fits X) 9 = some (false, a_aload 0 10) ∧ tget (tab_8_fits X) 10 = some (false, a_const 1 11) ∧ tget (tab_8_fits X) 11 = some (false, a_iload 2 12) ∧ tget (tab_8_fits X) 12 = some (false, a_cv X M_8_fits M_8_fitsOn 8 3 15) ∧ tget (tab_8_fits X) 15 = some (false, a_if 0 22 18) ∧ tget (tab_8_fits X) 18 = some (false, a_const 1 19) ∧ tget (tab_8_fits X) 19 = some (false, a_goto 23) ∧ tget (tab_8_fits X) 22 = some (false, a_const 0 23) ∧ tget (tab_8_fits X) 23 = some (false, a_zret M_8_fits) := ⟨rfl, rfl, rfl, rfl, rfl, rfl, rfl, rfl, rfl, rfl, rfl, rfl, rfl, rfl⟩
theorem tok_8_fits (X : XT) : TabOK X M_8_fits (tab_8_fits X) := by
  unfold tab_8_fits
  refine tok_cons (snd_aload_n dX8_fits_0 rfl rfl) ?_
  refine tok_cons (snd_iconst dX8_fits_1 rfl (inr_d rfl) rfl) ?_
  refine tok_cons (snd_iload_n dX8_fits_2 rfl rfl) ?_
  refine tok_cons (snd_cv dX8_fits_3 mok_8_fitsOn ⟨wm8_127, wi_8_fitsOn, wl_8_fitsOn⟩ (rc := (RX8, TX8, 21)) rfl rfl pn_8_fitsOn (by decide) ⟨rfl, rfl⟩ rfl) ?_
  refine tok_cons (snd_if_eq dX8_fits_6 (by decide) rfl) ?_
  refine tok_cons (snd_aload_n dX8_fits_9 rfl rfl) ?_
  refine tok_cons (snd_iconst dX8_fits_10 rfl (inr_d rfl) rfl) ?_
  refine tok_cons (snd_iload_n dX8_fits_11 rfl rfl) ?_
  refine tok_cons (snd_cv dX8_fits_12 mok_8_fitsOn ⟨wm8_127, wi_8_fitsOn, wl_8_fitsOn⟩ (rc := (RX8, TX8, 21)) rfl rfl pn_8_fitsOn (by decide) ⟨rfl, rfl⟩ rfl) ?_
  refine tok_cons (snd_if_eq dX8_fits_15 (by decide) rfl) ?_
  refine tok_cons (snd_iconst dX8_fits_18 rfl (inr_d rfl) rfl) ?_
  refine tok_cons (snd_goto dX8_fits_19 (by decide)) ?_
  refine tok_cons (snd_iconst dX8_fits_22 rfl (inr_d rfl) rfl) ?_
  refine tok_cons (snd_zret dX8_fits_23 rfl) ?_
  exact tok_nil
def tab_8_divides (X : XT) : Tab := [(0, false, a_aload 0 1), (1, false, a_gr 8 0 4), (4, false, a_const 0 5), (5, false, a_ald false 6), (6, false, a_istore 1 7), (7, false, a_aload 0 8), (8, false, a_gr 8 19 11), (11, false, a_iload 1 12), (12, false, a_const 0 13), (13, false, a_ast false 14), (14, false, a_aload 0 15), (15, false, a_gr 8 20 18), (18, false, a_iload 1 19), (19, false, a_iload 1 20), (20, false, a_ast false 21), (21, false, a_iload 1 22), (22, false, a_const 1 23), (23, false, a_sub 24), (24, false, a_istore 2 25), (25, true, a_iload 2 26), (26, false, a_if 2 172 29), (29, false, a_aload 0 30), (30, false, a_gr 8 19 33), (33, false, a_iload 2 34), (34, false, a_const (-4) 36), (36, false, a_ast false 37), (37, false, a_iload 1 38), (38, false, a_istore 3 39), (39, true, a_iload 3 40), (40, false, a_iload 2 41), (41, false, a_icmp 5 166 44), (44, false, a_aload 0 45), (45, false, a_gr 8 19 48), (48, false, a_iload 3 49), (49, false, a_ald false 50), (50, false, a_if 2 160 53), (53, false, a_aload 0 54), (54, false, a_iload 2 55), (55, false, a_iload 3 56), (56, false, a_cv X M_8_divides M_8_isGroup 8 3 59), (59, false, a_if 0 160 62), (62, false, a_aload 0 63), (63, false, a_gr 8 0 66), (66, false, a_const 81 68), (68, false, a_ald false 69), (69, false, a_aload 0 70), (70, false, a_const 0 71), (71, false, a_iload 2 72), (72, false, a_iload 3 73), (73, false, a_cv X M_8_divides M_8_rowsOfGroup 8 4 76), (76, false, a_sub 77), (77, false, a_istore 4 79), (79, false, a_aload 0 80), (80, false, a_gr 8 0 83), (83, false, a_const 81 85), (85, false, a_ald false 86), (86, false, a_aload 0 87), (87, false, a_const 1 88), (88, false, a_iload 2 89), (89, false, a_iload 3 90), (90, false, a_cv X M_8_divides M_8_rowsOfGroup 8 4 93), (93, false, a_sub 94), (94, false, a_istore 5 96), (96, false, a_aload 0 97), (97, false, a_gr 8 19 100), (100, false, a_iload 3 101), (101, false, a_ald false 102), (102, false, a_iload 3 103), (103, false, a_iload 1 104), (104, false, a_icmp 1 111 107), (107, false, a_const 0 108), (108, false, a_goto 122), (111, false, a_iload 4 113), (113, false, a_iload 4 115), (115, false, a_mul 116), (116, false, a_iload 5 118), (118, false, a_iload 5 120), (120, false, a_mul 121), (121, false, a_add 122), (122, false, a_add 123), (123, false, a_istore 6 125), (125, false, a_aload 0 126), (126, false, a_gr 8 19 129), (129, false, a_iload 2 130), (130, false, a_ald false 131), (131, false, a_if 2 145 134), (134, false, a_iload 6 136), (136, false, a_aload 0 137), (137, false, a_gr 8 19 140), (140, false, a_iload 2 141), (141, false, a_ald false 142), (142, false, a_icmp 3 160 145), (145, false, a_aload 0 146), (146, false, a_gr 8 19 149), (149, false, a_iload 2 150), (150, false, a_iload 6 152), (152, false, a_ast false 153), (153, false, a_aload 0 154), (154, false, a_gr 8 20 157), (157, false, a_iload 2 158), (158, false, a_iload 3 159), (159, false, a_ast false 160), (160, false, a_iinc 3 (-1) 163), (163, false, a_goto 39), (166, false, a_iinc 2 (-1) 169), (169, false, a_goto 25), (172, false, a_ret M_8_divides)]
set_option maxRecDepth 20000 in
theorem t_8_divides (X : XT) : tget (tab_8_divides X) 0 = some (false, a_aload 0 1) ∧ tget (tab_8_divides X) 1 = some (false, a_gr 8 0 4) ∧ tget (tab_8_divides X) 4 = some (false, a_const 0 5) ∧ tget (tab_8_divides X) 5 = some (false, a_ald false 6) ∧ tget (tab_8_divides X) 6 = some (false, a_istore 1 7) ∧ tget (tab_8_divides X) 7 = some (false, a_aload 0 8) ∧ tget (tab_8_divides X) 8 = some (false, a_gr 8 19 11) ∧ tget (tab_8_divides X) 11 = some (false, a_iload 1 12) ∧ tget (tab_8_divides X) 12 = some (false, a_const 0 13) ∧ tget (tab_8_divides X) 13 = some (false, a_ast false 14) ∧ tget (tab_8_divides X) 14 = some (false, a_aload 0 15) ∧ tget (tab_8_divides X) 15 = some (false, a_gr 8 20 18) ∧ tget (tab_8_divides X) 18 = some (false, a_iload 1 19) ∧ tget (tab_8_divides X) 19 = some (false, a_iload 1 20) ∧ tget (tab_8_divides X) 20 = some (false, a_ast false 21) ∧ tget (tab_8_divides X) 21 = some (false, a_iload 1 22) ∧ tget (tab_8_divides X) 22 = some (false, a_const 1 23) ∧ tget (tab_8_divides X) 23 = some (false, a_sub 24) ∧ tget (tab_8_divides X) 24 = some (false, a_istore 2 25) ∧ tget (tab_8_divides X) 25 = some (true, a_iload 2 26) ∧ tget (tab_8_divides X) 26 = some (false, a_if 2 172 29) ∧ tget (tab_8_divides X) 29 = some (false, a_aload 0 30) ∧ tget (tab_8_divides X) 30 = some (false, a_gr 8 19 33) ∧ tget (tab_8_divides X) 33 = some (false, a_iload 2 34) ∧ tget (tab_8_divides X) 34 = some (false, a_const (-4) 36) ∧ tget (tab_8_divides X) 36 = some (false, a_ast false 37) ∧ tget (tab_8_divides X) 37 = some (false, a_iload 1 38) ∧ tget (tab_8_divides X) 38 = some (false, a_istore 3 39) ∧ tget (tab_8_divides X) 39 = some (true, a_iload 3 40) ∧ tget (tab_8_divides X) 40 = some (false, a_iload 2 41) ∧ tget (tab_8_divides X) 41 = some (false, a_icmp 5 166 44) ∧ tget (tab_8_divides X) 44 = some (false, a_aload 0 45) ∧ tget (tab_8_divides X) 45 = some (false, a_gr 8 19 48) ∧ tget (tab_8_divides X) 48 = some (false, a_iload 3 49) ∧ tget (tab_8_divides X) 49 = some (false, a_ald false 50) ∧ tget (tab_8_divides X) 50 = some (false, a_if 2 160 53) ∧ tget (tab_8_divides X) 53 = some (false, a_aload 0 54) ∧ tget (tab_8_divides X) 54 = some (false, a_iload 2 55) ∧ tget (tab_8_divides X) 55 = some (false, a_iload 3 56) ∧ tget (tab_8_divides X) 56 = some (false, a_cv X M_8_divides M_8_isGroup 8 3 59) ∧ tget (tab_8_divides X) 59 = some (false, a_if 0 160 62) ∧ tget (tab_8_divides X) 62 = some (false, a_aload 0 63) ∧ tget (tab_8_divides X) 63 = some (false, a_gr 8 0 66) ∧ tget (tab_8_divides X) 66 = some (false, a_const 81 68) ∧ tget (tab_8_divides X) 68 = some (false, a_ald false 69) ∧ tget (tab_8_divides X) 69 = some (false, a_aload 0 70) ∧ tget (tab_8_divides X) 70 = some (false, a_const 0 71) ∧ tget (tab_8_divides X) 71 = some (false, a_iload 2 72) ∧ tget (tab_8_divides X) 72 = some (false, a_iload 3 73) ∧ tget (tab_8_divides X) 73 = some (false, a_cv X M_8_divides M_8_rowsOfGroup 8 4 76) ∧ tget (tab_8_divides X) 76 = some (false, a_sub 77) ∧ tget (tab_8_divides X) 77 = some (false, a_istore 4 79) ∧ tget (tab_8_divides X) 79 = some (false, a_aload 0 80) ∧ tget (tab_8_divides X) 80 = some (false, a_gr 8 0 83) ∧ tget (tab_8_divides X) 83 = some (false, a_const 81 85) ∧ tget (tab_8_divides X) 85 = some (false, a_ald false 86) ∧ tget (tab_8_divides X) 86 = some (false, a_aload 0 87) ∧ tget (tab_8_divides X) 87 = some (false, a_const 1 88) ∧ tget (tab_8_divides X) 88 = some (false, a_iload 2 89) ∧ tget (tab_8_divides X) 89 = some (false, a_iload 3 90) ∧ tget (tab_8_divides X) 90 = some (false, a_cv X M_8_divides M_8_rowsOfGroup 8 4 93) ∧ tget (tab_8_divides X) 93 = some (false, a_sub 94) ∧ tget (tab_8_divides X) 94 = some (false, a_istore 5 96) ∧ tget (tab_8_divides X) 96 = some (false, a_aload 0 97) ∧ tget (tab_8_divides X) 97 = some (false, a_gr 8 19 100) ∧ tget (tab_8_divides X) 100 = some (false, a_iload 3 101) ∧ tget (tab_8_divides X) 101 = some (false, a_ald false 102) ∧ tget (tab_8_divides X) 102 = some (false, a_iload 3 103) ∧ tget (tab_8_divides X) 103 = some (false, a_iload 1 104) ∧ tget (tab_8_divides X) 104 = some (false, a_icmp 1 111 107) ∧ tget (tab_8_divides X) 107 = some (false, a_const 0 108) ∧ tget (tab_8_divides X) 108 = some (false, a_goto 122) ∧ tget (tab_8_divides X) 111 = some (false, a_iload 4 113) ∧ tget (tab_8_divides X) 113 = some (false, a_iload 4 115) ∧ tget (tab_8_divides X) 115 = some (false, a_mul 116) ∧ tget (tab_8_divides X) 116 = some (false, a_iload 5 118) ∧ tget (tab_8_divides X) 118 = some (false, a_iload 5 120) ∧ tget (tab_8_divides X) 120 = some (false, a_mul 121) ∧ tget (tab_8_divides X) 121 = some (false, a_add 122) ∧ tget (tab_8_divides X) 122 = some (false, a_add 123) ∧ tget (tab_8_divides X) 123 = some (false, a_istore 6 125) ∧ tget (tab_8_divides X) 125 = some (false, a_aload 0 126) ∧ tget (tab_8_divides X) 126 = some (false, a_gr 8 19 129) ∧ tget (tab_8_divides X) 129 = some (false, a_iload 2 130) ∧ tget (tab_8_divides X) 130 = some (false, a_ald false 131) ∧ tget (tab_8_divides X) 131 = some (false, a_if 2 145 134) ∧ tget (tab_8_divides X) 134 = some (false, a_iload 6 136) ∧ tget (tab_8_divides X) 136 = some (false, a_aload 0 137) ∧ tget (tab_8_divides X) 137 = some (false, a_gr 8 19 140) ∧ tget (tab_8_divides X) 140 = some (false, a_iload 2 141) ∧ tget (tab_8_divides X) 141 = some (false, a_ald false 142) ∧ tget (tab_8_divides X) 142 = some (false, a_icmp 3 160 145) ∧ tget (tab_8_divides X) 145 = some (false, a_aload 0 146) ∧ tget (tab_8_divides X) 146 = some (false, a_gr 8 19 149) ∧ tget (tab_8_divides X) 149 = some (false, a_iload 2 150) ∧ tget (tab_8_divides X) 150 = some (false, a_iload 6 152) ∧ tget (tab_8_divides X) 152 = some (false, a_ast false 153) ∧ tget (tab_8_divides X) 153 = some (false, a_aload 0 154) ∧ tget (tab_8_divides X) 154 = some (false, a_gr 8 20 157) ∧ tget (tab_8_divides X) 157 = some (false, a_iload 2 158) ∧ tget (tab_8_divides X) 158 = some (false, a_iload 3 159) ∧ tget (tab_8_divides X) 159 = some (false, a_ast false 160) ∧ tget (tab_8_divides X) 160 = some (false, a_iinc 3 (-1) 163) ∧ tget (tab_8_divides X) 163 = some (false, a_goto 39) ∧ tget (tab_8_divides X) 166 = some (false, a_iinc 2 (-1) 169) ∧ tget (tab_8_divides X) 169 = some (false, a_goto 25) ∧ tget (tab_8_divides X) 172 = some (false, a_ret M_8_divides) := ⟨rfl, rfl, rfl, rfl, rfl, rfl, rfl, rfl, rfl, rfl, rfl, rfl, rfl, rfl, rfl, rfl, rfl, rfl, rfl, rfl, rfl, rfl, rfl, rfl, rfl, rfl, rfl, rfl, rfl, rfl, rfl, rfl, rfl, rfl, rfl, rfl, rfl, rfl, rfl, rfl, rfl, rfl, rfl, rfl, rfl, rfl, rfl, rfl, rfl, rfl, rfl, rfl, rfl, rfl, rfl, rfl, rfl, rfl, rfl, rfl, rfl, rfl, rfl, rfl, rfl, rfl, rfl, rfl, rfl, rfl, rfl, rfl, rfl, rfl, rfl, rfl, rfl, rfl, rfl, rfl, rfl, rfl, rfl, rfl, rfl, rfl, rfl, rfl, rfl, rfl, rfl, rfl, rfl, rfl, rfl, rfl, rfl, rfl, rfl, rfl, rfl, rfl, rfl, rfl, rfl, rfl, rfl⟩
theorem tok_8_divides (X : XT) : TabOK X M_8_divides (tab_8_divides X) := by
  unfold tab_8_divides
  refine tok_cons (snd_aload_n dX8_divides_0 rfl rfl) ?_
  refine tok_cons (snd_gr (C := RX8) (T := TX8) (N := 21) dX8_divides_1 rfl (by decide) rfl wf8_7 inX8 rfl) ?_
  refine tok_cons (snd_iconst dX8_divides_4 rfl (inr_d rfl) rfl) ?_
  refine tok_cons (snd_iald dX8_divides_5 rfl) ?_
  refine tok_cons (snd_istore_n dX8_divides_6 rfl rfl (by decide)) ?_
  refine tok_cons (snd_aload_n dX8_divides_7 rfl rfl) ?_
  refine tok_cons (snd_gr (C := RX8) (T := TX8) (N := 21) dX8_divides_8 rfl (by decide) rfl wf8_56 inX8 rfl) ?_
  refine tok_cons (snd_iload_n dX8_divides_11 rfl rfl) ?_
  refine tok_cons (snd_iconst dX8_divides_12 rfl (inr_d rfl) rfl) ?_
  refine tok_cons (snd_iast dX8_divides_13 rfl) ?_
  refine tok_cons (snd_aload_n dX8_divides_14 rfl rfl) ?_
  refine tok_cons (snd_gr (C := RX8) (T := TX8) (N := 21) dX8_divides_15 rfl (by decide) rfl wf8_59 inX8 rfl) ?_
  refine tok_cons (snd_iload_n dX8_divides_18 rfl rfl) ?_
  refine tok_cons (snd_iload_n dX8_divides_19 rfl rfl) ?_
  refine tok_cons (snd_iast dX8_divides_20 rfl) ?_
  refine tok_cons (snd_iload_n dX8_divides_21 rfl rfl) ?_
  refine tok_cons (snd_iconst dX8_divides_22 rfl (inr_d rfl) rfl) ?_
  refine tok_cons (snd_sub dX8_divides_23 rfl) ?_
  refine tok_cons (snd_istore_n dX8_divides_24 rfl rfl (by decide)) ?_
  refine tok_cons (snd_iload_n dX8_divides_25 rfl rfl) ?_
  refine tok_cons (snd_if_lt dX8_divides_26 (by decide) rfl) ?_
  refine tok_cons (snd_aload_n dX8_divides_29 rfl rfl) ?_
  refine tok_cons (snd_gr (C := RX8) (T := TX8) (N := 21) dX8_divides_30 rfl (by decide) rfl wf8_56 inX8 rfl) ?_
  refine tok_cons (snd_iload_n dX8_divides_33 rfl rfl) ?_
  refine tok_cons (snd_bipush dX8_divides_34 (by decide) (inr_d rfl) rfl) ?_
  refine tok_cons (snd_iast dX8_divides_36 rfl) ?_
  refine tok_cons (snd_iload_n dX8_divides_37 rfl rfl) ?_
  refine tok_cons (snd_istore_n dX8_divides_38 rfl rfl (by decide)) ?_
  refine tok_cons (snd_iload_n dX8_divides_39 rfl rfl) ?_
  refine tok_cons (snd_iload_n dX8_divides_40 rfl rfl) ?_
  refine tok_cons (snd_icmp_le dX8_divides_41 (by decide) rfl) ?_
  refine tok_cons (snd_aload_n dX8_divides_44 rfl rfl) ?_
  refine tok_cons (snd_gr (C := RX8) (T := TX8) (N := 21) dX8_divides_45 rfl (by decide) rfl wf8_56 inX8 rfl) ?_
  refine tok_cons (snd_iload_n dX8_divides_48 rfl rfl) ?_
  refine tok_cons (snd_iald dX8_divides_49 rfl) ?_
  refine tok_cons (snd_if_lt dX8_divides_50 (by decide) rfl) ?_
  refine tok_cons (snd_aload_n dX8_divides_53 rfl rfl) ?_
  refine tok_cons (snd_iload_n dX8_divides_54 rfl rfl) ?_
  refine tok_cons (snd_iload_n dX8_divides_55 rfl rfl) ?_
  refine tok_cons (snd_cv dX8_divides_56 mok_8_isGroup ⟨wm8_166, wi_8_isGroup, wl_8_isGroup⟩ (rc := (RX8, TX8, 21)) rfl rfl pn_8_isGroup (by decide) ⟨rfl, rfl⟩ rfl) ?_
  refine tok_cons (snd_if_eq dX8_divides_59 (by decide) rfl) ?_
  refine tok_cons (snd_aload_n dX8_divides_62 rfl rfl) ?_
  refine tok_cons (snd_gr (C := RX8) (T := TX8) (N := 21) dX8_divides_63 rfl (by decide) rfl wf8_7 inX8 rfl) ?_
  refine tok_cons (snd_bipush dX8_divides_66 (by decide) (inr_d rfl) rfl) ?_
  refine tok_cons (snd_iald dX8_divides_68 rfl) ?_
  refine tok_cons (snd_aload_n dX8_divides_69 rfl rfl) ?_
  refine tok_cons (snd_iconst dX8_divides_70 rfl (inr_d rfl) rfl) ?_
  refine tok_cons (snd_iload_n dX8_divides_71 rfl rfl) ?_
  refine tok_cons (snd_iload_n dX8_divides_72 rfl rfl) ?_
  refine tok_cons (snd_cv dX8_divides_73 mok_8_rowsOfGroup ⟨wm8_163, wi_8_rowsOfGroup, wl_8_rowsOfGroup⟩ (rc := (RX8, TX8, 21)) rfl rfl pn_8_rowsOfGroup (by decide) ⟨rfl, rfl⟩ rfl) ?_
  refine tok_cons (snd_sub dX8_divides_76 rfl) ?_
  refine tok_cons (snd_istore dX8_divides_77 rfl (by decide)) ?_
  refine tok_cons (snd_aload_n dX8_divides_79 rfl rfl) ?_
  refine tok_cons (snd_gr (C := RX8) (T := TX8) (N := 21) dX8_divides_80 rfl (by decide) rfl wf8_7 inX8 rfl) ?_
  refine tok_cons (snd_bipush dX8_divides_83 (by decide) (inr_d rfl) rfl) ?_
  refine tok_cons (snd_iald dX8_divides_85 rfl) ?_
  refine tok_cons (snd_aload_n dX8_divides_86 rfl rfl) ?_
  refine tok_cons (snd_iconst dX8_divides_87 rfl (inr_d rfl) rfl) ?_
  refine tok_cons (snd_iload_n dX8_divides_88 rfl rfl) ?_
  refine tok_cons (snd_iload_n dX8_divides_89 rfl rfl) ?_
  refine tok_cons (snd_cv dX8_divides_90 mok_8_rowsOfGroup ⟨wm8_163, wi_8_rowsOfGroup, wl_8_rowsOfGroup⟩ (rc := (RX8, TX8, 21)) rfl rfl pn_8_rowsOfGroup (by decide) ⟨rfl, rfl⟩ rfl) ?_
  refine tok_cons (snd_sub dX8_divides_93 rfl) ?_
  refine tok_cons (snd_istore dX8_divides_94 rfl (by decide)) ?_
  refine tok_cons (snd_aload_n dX8_divides_96 rfl rfl) ?_
  refine tok_cons (snd_gr (C := RX8) (T := TX8) (N := 21) dX8_divides_97 rfl (by decide) rfl wf8_56 inX8 rfl) ?_
  refine tok_cons (snd_iload_n dX8_divides_100 rfl rfl) ?_
  refine tok_cons (snd_iald dX8_divides_101 rfl) ?_
  refine tok_cons (snd_iload_n dX8_divides_102 rfl rfl) ?_
  refine tok_cons (snd_iload_n dX8_divides_103 rfl rfl) ?_
  refine tok_cons (snd_icmp_ne dX8_divides_104 (by decide) rfl) ?_
  refine tok_cons (snd_iconst dX8_divides_107 rfl (inr_d rfl) rfl) ?_
  refine tok_cons (snd_goto dX8_divides_108 (by decide)) ?_
  refine tok_cons (snd_iload dX8_divides_111 rfl) ?_
  refine tok_cons (snd_iload dX8_divides_113 rfl) ?_
  refine tok_cons (snd_mul dX8_divides_115 rfl) ?_
  refine tok_cons (snd_iload dX8_divides_116 rfl) ?_
  refine tok_cons (snd_iload dX8_divides_118 rfl) ?_
  refine tok_cons (snd_mul dX8_divides_120 rfl) ?_
  refine tok_cons (snd_add dX8_divides_121 rfl) ?_
  refine tok_cons (snd_add dX8_divides_122 rfl) ?_
  refine tok_cons (snd_istore dX8_divides_123 rfl (by decide)) ?_
  refine tok_cons (snd_aload_n dX8_divides_125 rfl rfl) ?_
  refine tok_cons (snd_gr (C := RX8) (T := TX8) (N := 21) dX8_divides_126 rfl (by decide) rfl wf8_56 inX8 rfl) ?_
  refine tok_cons (snd_iload_n dX8_divides_129 rfl rfl) ?_
  refine tok_cons (snd_iald dX8_divides_130 rfl) ?_
  refine tok_cons (snd_if_lt dX8_divides_131 (by decide) rfl) ?_
  refine tok_cons (snd_iload dX8_divides_134 rfl) ?_
  refine tok_cons (snd_aload_n dX8_divides_136 rfl rfl) ?_
  refine tok_cons (snd_gr (C := RX8) (T := TX8) (N := 21) dX8_divides_137 rfl (by decide) rfl wf8_56 inX8 rfl) ?_
  refine tok_cons (snd_iload_n dX8_divides_140 rfl rfl) ?_
  refine tok_cons (snd_iald dX8_divides_141 rfl) ?_
  refine tok_cons (snd_icmp_ge dX8_divides_142 (by decide) rfl) ?_
  refine tok_cons (snd_aload_n dX8_divides_145 rfl rfl) ?_
  refine tok_cons (snd_gr (C := RX8) (T := TX8) (N := 21) dX8_divides_146 rfl (by decide) rfl wf8_56 inX8 rfl) ?_
  refine tok_cons (snd_iload_n dX8_divides_149 rfl rfl) ?_
  refine tok_cons (snd_iload dX8_divides_150 rfl) ?_
  refine tok_cons (snd_iast dX8_divides_152 rfl) ?_
  refine tok_cons (snd_aload_n dX8_divides_153 rfl rfl) ?_
  refine tok_cons (snd_gr (C := RX8) (T := TX8) (N := 21) dX8_divides_154 rfl (by decide) rfl wf8_59 inX8 rfl) ?_
  refine tok_cons (snd_iload_n dX8_divides_157 rfl rfl) ?_
  refine tok_cons (snd_iload_n dX8_divides_158 rfl rfl) ?_
  refine tok_cons (snd_iast dX8_divides_159 rfl) ?_
  refine tok_cons (snd_iinc dX8_divides_160 rfl rfl (by decide)) ?_
  refine tok_cons (snd_goto dX8_divides_163 (by decide)) ?_
  refine tok_cons (snd_iinc dX8_divides_166 rfl rfl (by decide)) ?_
  refine tok_cons (snd_goto dX8_divides_169 (by decide)) ?_
  refine tok_cons (snd_ret dX8_divides_172 rfl) ?_
  exact tok_nil
def tab_8_splits (X : XT) : Tab := [(0, false, a_aload 0 1), (1, false, a_aload 0 2), (2, false, a_gi 8 17 17 5), (5, false, a_const 0 6), (6, false, a_cv X M_8_splits M_8_lines 8 3 9), (9, false, a_aload 0 10), (10, false, a_gr 8 18 13), (13, false, a_const 0 14), (14, false, a_ald false 15), (15, false, a_sub 16), (16, false, a_istore 1 17), (17, false, a_aload 0 18), (18, false, a_aload 0 19), (19, false, a_gi 8 17 17 22), (22, false, a_const 1 23), (23, false, a_cv X M_8_splits M_8_lines 8 3 26), (26, false, a_aload 0 27), (27, false, a_gr 8 18 30), (30, false, a_const 1 31), (31, false, a_ald false 32), (32, false, a_sub 33), (33, false, a_istore 2 34), (34, false, a_iload 1 35), (35, false, a_aload 0 36), (36, false, a_gr 8 0 39), (39, false, a_const 84 41), (41, false, a_ald false 42), (42, false, a_sub 43), (43, false, a_istore 3 44), (44, true, a_iload 3 45), (45, false, a_aload 0 46), (46, false, a_gr 8 0 49), (49, false, a_const 84 51), (51, false, a_ald false 52), (52, false, a_icmp 2 119 55), (55, false, a_const 2 56), (56, false, a_iload 3 57), (57, false, a_mul 58), (58, false, a_iload 2 59), (59, false, a_mul 60), (60, false, a_iload 1 61), (61, false, a_add 62), (62, false, a_const 2 63), (63, false, a_iload 1 64), (64, false, a_mul 65), (65, false, a_div 66), (66, false, a_istore 4 68), (68, false, a_iload 4 70), (70, false, a_aload 0 71), (71, false, a_gr 8 0 74), (74, false, a_const 84 76), (76, false, a_ald false 77), (77, false, a_icmp 2 113 80), (80, false, a_iload 2 81), (81, false, a_iload 4 83), (83, false, a_sub 84), (84, false, a_aload 0 85), (85, false, a_gr 8 0 88), (88, false, a_const 84 90), (90, false, a_ald false 91), (91, false, a_icmp 2 113 94), (94, false, a_aload 0 95), (95, false, a_iload 3 96), (96, false, a_iload 4 98), (98, false, a_cv X M_8_splits M_8_fits 8 3 101), (101, false, a_if 0 113 104), (104, false, a_aload 0 105), (105, false, a_iload 3 106), (106, false, a_iload 4 108), (108, false, a_cn X M_8_splits M_8_puts 8 3 111), (111, false, a_const 1 112), (112, false, a_zret M_8_splits), (113, false, a_iinc 3 (-1) 116), (116, false, a_goto 44), (119, false, a_const 0 120), (120, false, a_zret M_8_splits)]
set_option maxRecDepth 20000 in
theorem t_8_splits (X : XT) : tget (tab_8_splits X) 0 = some (false, a_aload 0 1) ∧ tget (tab_8_splits X) 1 = some (false, a_aload 0 2) ∧ tget (tab_8_splits X) 2 = some (false, a_gi 8 17 17 5) ∧ tget (tab_8_splits X) 5 = some (false, a_const 0 6) ∧ tget (tab_8_splits X) 6 = some (false, a_cv X M_8_splits M_8_lines 8 3 9) ∧ tget (tab_8_splits X) 9 = some (false, a_aload 0 10) ∧ tget (tab_8_splits X) 10 = some (false, a_gr 8 18 13) ∧ tget (tab_8_splits X) 13 = some (false, a_const 0 14) ∧ tget (tab_8_splits X) 14 = some (false, a_ald false 15) ∧ tget (tab_8_splits X) 15 = some (false, a_sub 16) ∧ tget (tab_8_splits X) 16 = some (false, a_istore 1 17) ∧ tget (tab_8_splits X) 17 = some (false, a_aload 0 18) ∧ tget (tab_8_splits X) 18 = some (false, a_aload 0 19) ∧ tget (tab_8_splits X) 19 = some (false, a_gi 8 17 17 22) ∧ tget (tab_8_splits X) 22 = some (false, a_const 1 23) ∧ tget (tab_8_splits X) 23 = some (false, a_cv X M_8_splits M_8_lines 8 3 26) ∧ tget (tab_8_splits X) 26 = some (false, a_aload 0 27) ∧ tget (tab_8_splits X) 27 = some (false, a_gr 8 18 30) ∧ tget (tab_8_splits X) 30 = some (false, a_const 1 31) ∧ tget (tab_8_splits X) 31 = some (false, a_ald false 32) ∧ tget (tab_8_splits X) 32 = some (false, a_sub 33) ∧ tget (tab_8_splits X) 33 = some (false, a_istore 2 34) ∧ tget (tab_8_splits X) 34 = some (false, a_iload 1 35) ∧ tget (tab_8_splits X) 35 = some (false, a_aload 0 36) ∧ tget (tab_8_splits X) 36 = some (false, a_gr 8 0 39) ∧ tget (tab_8_splits X) 39 = some (false, a_const 84 41) ∧ tget (tab_8_splits X) 41 = some (false, a_ald false 42) ∧ tget (tab_8_splits X) 42 = some (false, a_sub 43) ∧ tget (tab_8_splits X) 43 = some (false, a_istore 3 44) ∧ tget (tab_8_splits X) 44 = some (true, a_iload 3 45) ∧ tget (tab_8_splits X) 45 = some (false, a_aload 0 46) ∧ tget (tab_8_splits X) 46 = some (false, a_gr 8 0 49) ∧ tget (tab_8_splits X) 49 = some (false, a_const 84 51) ∧ tget (tab_8_splits X) 51 = some (false, a_ald false 52) ∧ tget (tab_8_splits X) 52 = some (false, a_icmp 2 119 55) ∧ tget (tab_8_splits X) 55 = some (false, a_const 2 56) ∧ tget (tab_8_splits X) 56 = some (false, a_iload 3 57) ∧ tget (tab_8_splits X) 57 = some (false, a_mul 58) ∧ tget (tab_8_splits X) 58 = some (false, a_iload 2 59) ∧ tget (tab_8_splits X) 59 = some (false, a_mul 60) ∧ tget (tab_8_splits X) 60 = some (false, a_iload 1 61) ∧ tget (tab_8_splits X) 61 = some (false, a_add 62) ∧ tget (tab_8_splits X) 62 = some (false, a_const 2 63) ∧ tget (tab_8_splits X) 63 = some (false, a_iload 1 64) ∧ tget (tab_8_splits X) 64 = some (false, a_mul 65) ∧ tget (tab_8_splits X) 65 = some (false, a_div 66) ∧ tget (tab_8_splits X) 66 = some (false, a_istore 4 68) ∧ tget (tab_8_splits X) 68 = some (false, a_iload 4 70) ∧ tget (tab_8_splits X) 70 = some (false, a_aload 0 71) ∧ tget (tab_8_splits X) 71 = some (false, a_gr 8 0 74) ∧ tget (tab_8_splits X) 74 = some (false, a_const 84 76) ∧ tget (tab_8_splits X) 76 = some (false, a_ald false 77) ∧ tget (tab_8_splits X) 77 = some (false, a_icmp 2 113 80) ∧ tget (tab_8_splits X) 80 = some (false, a_iload 2 81) ∧ tget (tab_8_splits X) 81 = some (false, a_iload 4 83) ∧ tget (tab_8_splits X) 83 = some (false, a_sub 84) ∧ tget (tab_8_splits X) 84 = some (false, a_aload 0 85) ∧ tget (tab_8_splits X) 85 = some (false, a_gr 8 0 88) ∧ tget (tab_8_splits X) 88 = some (false, a_const 84 90) ∧ tget (tab_8_splits X) 90 = some (false, a_ald false 91) ∧ tget (tab_8_splits X) 91 = some (false, a_icmp 2 113 94) ∧ tget (tab_8_splits X) 94 = some (false, a_aload 0 95) ∧ tget (tab_8_splits X) 95 = some (false, a_iload 3 96) ∧ tget (tab_8_splits X) 96 = some (false, a_iload 4 98) ∧ tget (tab_8_splits X) 98 = some (false, a_cv X M_8_splits M_8_fits 8 3 101) ∧ tget (tab_8_splits X) 101 = some (false, a_if 0 113 104) ∧ tget (tab_8_splits X) 104 = some (false, a_aload 0 105) ∧ tget (tab_8_splits X) 105 = some (false, a_iload 3 106) ∧ tget (tab_8_splits X) 106 = some (false, a_iload 4 108) ∧ tget (tab_8_splits X) 108 = some (false, a_cn X M_8_splits M_8_puts 8 3 111) ∧ tget (tab_8_splits X) 111 = some (false, a_const 1 112) ∧ tget (tab_8_splits X) 112 = some (false, a_zret M_8_splits) ∧ tget (tab_8_splits X) 113 = some (false, a_iinc 3 (-1) 116) ∧ tget (tab_8_splits X) 116 = some (false, a_goto 44) ∧ tget (tab_8_splits X) 119 = some (false, a_const 0 120) ∧ tget (tab_8_splits X) 120 = some (false, a_zret M_8_splits) := ⟨rfl, rfl, rfl, rfl, rfl, rfl, rfl, rfl, rfl, rfl, rfl, rfl, rfl, rfl, rfl, rfl, rfl, rfl, rfl, rfl, rfl, rfl, rfl, rfl, rfl, rfl, rfl, rfl, rfl, rfl, rfl, rfl, rfl, rfl, rfl, rfl, rfl, rfl, rfl, rfl, rfl, rfl, rfl, rfl, rfl, rfl, rfl, rfl, rfl, rfl, rfl, rfl, rfl, rfl, rfl, rfl, rfl, rfl, rfl, rfl, rfl, rfl, rfl, rfl, rfl, rfl, rfl, rfl, rfl, rfl, rfl, rfl, rfl, rfl, rfl, rfl⟩
theorem tok_8_splits (X : XT) : TabOK X M_8_splits (tab_8_splits X) := by
  unfold tab_8_splits
  refine tok_cons (snd_aload_n dX8_splits_0 rfl rfl) ?_
  refine tok_cons (snd_aload_n dX8_splits_1 rfl rfl) ?_
  refine tok_cons (snd_gi (C := RX8) (T := TX8) (N := 21) dX8_splits_2 rfl (by decide) rfl wf8_111 inX8 rfl rfl) ?_
  refine tok_cons (snd_iconst dX8_splits_5 rfl (inr_d rfl) rfl) ?_
  refine tok_cons (snd_cv dX8_splits_6 mok_8_lines ⟨wm8_73, wi_8_lines, wl_8_lines⟩ (rc := (RX8, TX8, 21)) rfl rfl pn_8_lines (by decide) ⟨rfl, rfl⟩ rfl) ?_
  refine tok_cons (snd_aload_n dX8_splits_9 rfl rfl) ?_
  refine tok_cons (snd_gr (C := RX8) (T := TX8) (N := 21) dX8_splits_10 rfl (by decide) rfl wf8_53 inX8 rfl) ?_
  refine tok_cons (snd_iconst dX8_splits_13 rfl (inr_d rfl) rfl) ?_
  refine tok_cons (snd_iald dX8_splits_14 rfl) ?_
  refine tok_cons (snd_sub dX8_splits_15 rfl) ?_
  refine tok_cons (snd_istore_n dX8_splits_16 rfl rfl (by decide)) ?_
  refine tok_cons (snd_aload_n dX8_splits_17 rfl rfl) ?_
  refine tok_cons (snd_aload_n dX8_splits_18 rfl rfl) ?_
  refine tok_cons (snd_gi (C := RX8) (T := TX8) (N := 21) dX8_splits_19 rfl (by decide) rfl wf8_111 inX8 rfl rfl) ?_
  refine tok_cons (snd_iconst dX8_splits_22 rfl (inr_d rfl) rfl) ?_
  refine tok_cons (snd_cv dX8_splits_23 mok_8_lines ⟨wm8_73, wi_8_lines, wl_8_lines⟩ (rc := (RX8, TX8, 21)) rfl rfl pn_8_lines (by decide) ⟨rfl, rfl⟩ rfl) ?_
  refine tok_cons (snd_aload_n dX8_splits_26 rfl rfl) ?_
  refine tok_cons (snd_gr (C := RX8) (T := TX8) (N := 21) dX8_splits_27 rfl (by decide) rfl wf8_53 inX8 rfl) ?_
  refine tok_cons (snd_iconst dX8_splits_30 rfl (inr_d rfl) rfl) ?_
  refine tok_cons (snd_iald dX8_splits_31 rfl) ?_
  refine tok_cons (snd_sub dX8_splits_32 rfl) ?_
  refine tok_cons (snd_istore_n dX8_splits_33 rfl rfl (by decide)) ?_
  refine tok_cons (snd_iload_n dX8_splits_34 rfl rfl) ?_
  refine tok_cons (snd_aload_n dX8_splits_35 rfl rfl) ?_
  refine tok_cons (snd_gr (C := RX8) (T := TX8) (N := 21) dX8_splits_36 rfl (by decide) rfl wf8_7 inX8 rfl) ?_
  refine tok_cons (snd_bipush dX8_splits_39 (by decide) (inr_d rfl) rfl) ?_
  refine tok_cons (snd_iald dX8_splits_41 rfl) ?_
  refine tok_cons (snd_sub dX8_splits_42 rfl) ?_
  refine tok_cons (snd_istore_n dX8_splits_43 rfl rfl (by decide)) ?_
  refine tok_cons (snd_iload_n dX8_splits_44 rfl rfl) ?_
  refine tok_cons (snd_aload_n dX8_splits_45 rfl rfl) ?_
  refine tok_cons (snd_gr (C := RX8) (T := TX8) (N := 21) dX8_splits_46 rfl (by decide) rfl wf8_7 inX8 rfl) ?_
  refine tok_cons (snd_bipush dX8_splits_49 (by decide) (inr_d rfl) rfl) ?_
  refine tok_cons (snd_iald dX8_splits_51 rfl) ?_
  refine tok_cons (snd_icmp_lt dX8_splits_52 (by decide) rfl) ?_
  refine tok_cons (snd_iconst dX8_splits_55 rfl (inr_d rfl) rfl) ?_
  refine tok_cons (snd_iload_n dX8_splits_56 rfl rfl) ?_
  refine tok_cons (snd_mul dX8_splits_57 rfl) ?_
  refine tok_cons (snd_iload_n dX8_splits_58 rfl rfl) ?_
  refine tok_cons (snd_mul dX8_splits_59 rfl) ?_
  refine tok_cons (snd_iload_n dX8_splits_60 rfl rfl) ?_
  refine tok_cons (snd_add dX8_splits_61 rfl) ?_
  refine tok_cons (snd_iconst dX8_splits_62 rfl (inr_d rfl) rfl) ?_
  refine tok_cons (snd_iload_n dX8_splits_63 rfl rfl) ?_
  refine tok_cons (snd_mul dX8_splits_64 rfl) ?_
  refine tok_cons (snd_div dX8_splits_65 rfl) ?_
  refine tok_cons (snd_istore dX8_splits_66 rfl (by decide)) ?_
  refine tok_cons (snd_iload dX8_splits_68 rfl) ?_
  refine tok_cons (snd_aload_n dX8_splits_70 rfl rfl) ?_
  refine tok_cons (snd_gr (C := RX8) (T := TX8) (N := 21) dX8_splits_71 rfl (by decide) rfl wf8_7 inX8 rfl) ?_
  refine tok_cons (snd_bipush dX8_splits_74 (by decide) (inr_d rfl) rfl) ?_
  refine tok_cons (snd_iald dX8_splits_76 rfl) ?_
  refine tok_cons (snd_icmp_lt dX8_splits_77 (by decide) rfl) ?_
  refine tok_cons (snd_iload_n dX8_splits_80 rfl rfl) ?_
  refine tok_cons (snd_iload dX8_splits_81 rfl) ?_
  refine tok_cons (snd_sub dX8_splits_83 rfl) ?_
  refine tok_cons (snd_aload_n dX8_splits_84 rfl rfl) ?_
  refine tok_cons (snd_gr (C := RX8) (T := TX8) (N := 21) dX8_splits_85 rfl (by decide) rfl wf8_7 inX8 rfl) ?_
  refine tok_cons (snd_bipush dX8_splits_88 (by decide) (inr_d rfl) rfl) ?_
  refine tok_cons (snd_iald dX8_splits_90 rfl) ?_
  refine tok_cons (snd_icmp_lt dX8_splits_91 (by decide) rfl) ?_
  refine tok_cons (snd_aload_n dX8_splits_94 rfl rfl) ?_
  refine tok_cons (snd_iload_n dX8_splits_95 rfl rfl) ?_
  refine tok_cons (snd_iload dX8_splits_96 rfl) ?_
  refine tok_cons (snd_cv dX8_splits_98 mok_8_fits ⟨wm8_131, wi_8_fits, wl_8_fits⟩ (rc := (RX8, TX8, 21)) rfl rfl pn_8_fits (by decide) ⟨rfl, rfl⟩ rfl) ?_
  refine tok_cons (snd_if_eq dX8_splits_101 (by decide) rfl) ?_
  refine tok_cons (snd_aload_n dX8_splits_104 rfl rfl) ?_
  refine tok_cons (snd_iload_n dX8_splits_105 rfl rfl) ?_
  refine tok_cons (snd_iload dX8_splits_106 rfl) ?_
  refine tok_cons (snd_cn dX8_splits_108 mok_8_puts ⟨wm8_134, wi_8_puts, wl_8_puts⟩ (rc := (RX8, TX8, 21)) rfl rfl pn_8_puts (by decide) ⟨rfl, rfl⟩ rfl) ?_
  refine tok_cons (snd_iconst dX8_splits_111 rfl (inr_d rfl) rfl) ?_
  refine tok_cons (snd_zret dX8_splits_112 rfl) ?_
  refine tok_cons (snd_iinc dX8_splits_113 rfl rfl (by decide)) ?_
  refine tok_cons (snd_goto dX8_splits_116 (by decide)) ?_
  refine tok_cons (snd_iconst dX8_splits_119 rfl (inr_d rfl) rfl) ?_
  refine tok_cons (snd_zret dX8_splits_120 rfl) ?_
  exact tok_nil
def tab_8_bestCost (X : XT) : Tab := [(0, false, a_aload 0 1), (1, false, a_cn X M_8_bestCost M_8_divides 8 1 4), (4, false, a_aload 0 5), (5, false, a_gr 8 19 8), (8, false, a_const 0 9), (9, false, a_ald false 10), (10, false, a_iret M_8_bestCost)]
set_option maxRecDepth 20000 in
theorem t_8_bestCost (X : XT) : tget (tab_8_bestCost X) 0 = some (false, a_aload 0 1) ∧ tget (tab_8_bestCost X) 1 = some (false, a_cn X M_8_bestCost M_8_divides 8 1 4) ∧ tget (tab_8_bestCost X) 4 = some (false, a_aload 0 5) ∧ tget (tab_8_bestCost X) 5 = some (false, a_gr 8 19 8) ∧ tget (tab_8_bestCost X) 8 = some (false, a_const 0 9) ∧ tget (tab_8_bestCost X) 9 = some (false, a_ald false 10) ∧ tget (tab_8_bestCost X) 10 = some (false, a_iret M_8_bestCost) := ⟨rfl, rfl, rfl, rfl, rfl, rfl, rfl⟩
theorem tok_8_bestCost (X : XT) : TabOK X M_8_bestCost (tab_8_bestCost X) := by
  unfold tab_8_bestCost
  refine tok_cons (snd_aload_n dX8_bestCost_0 rfl rfl) ?_
  refine tok_cons (snd_cn dX8_bestCost_1 mok_8_divides ⟨wm8_169, wi_8_divides, wl_8_divides⟩ (rc := (RX8, TX8, 21)) rfl rfl pn_8_divides (by decide) ⟨rfl, rfl⟩ rfl) ?_
  refine tok_cons (snd_aload_n dX8_bestCost_4 rfl rfl) ?_
  refine tok_cons (snd_gr (C := RX8) (T := TX8) (N := 21) dX8_bestCost_5 rfl (by decide) rfl wf8_56 inX8 rfl) ?_
  refine tok_cons (snd_iconst dX8_bestCost_8 rfl (inr_d rfl) rfl) ?_
  refine tok_cons (snd_iald dX8_bestCost_9 rfl) ?_
  refine tok_cons (snd_iret dX8_bestCost_10 rfl) ?_
  exact tok_nil
def tab_8_bestBreak (X : XT) : Tab := [(0, false, a_iload 1 1), (1, false, a_if 3 6 4), (4, false, a_const (-1) 5), (5, false, a_iret M_8_bestBreak), (6, false, a_aload 0 7), (7, false, a_cn X M_8_bestBreak M_8_divides 8 1 10), (10, false, a_const 0 11), (11, false, a_istore 2 12), (12, false, a_const 0 13), (13, false, a_istore 3 14), (14, true, a_iload 3 15), (15, false, a_iload 1 16), (16, false, a_icmp 3 51 19), (19, false, a_aload 0 20), (20, false, a_gr 8 19 23), (23, false, a_const 0 24), (24, false, a_ald false 25), (25, false, a_if 2 51 28), (28, false, a_iload 2 29), (29, false, a_aload 0 30), (30, false, a_gr 8 0 33), (33, false, a_const 0 34), (34, false, a_ald false 35), (35, false, a_icmp 3 51 38), (38, false, a_aload 0 39), (39, false, a_gr 8 20 42), (42, false, a_iload 2 43), (43, false, a_ald false 44), (44, false, a_istore 2 45), (45, false, a_iinc 3 1 48), (48, false, a_goto 14), (51, false, a_aload 0 52), (52, false, a_gr 8 19 55), (55, false, a_const 0 56), (56, false, a_ald false 57), (57, false, a_if 2 70 60), (60, false, a_iload 2 61), (61, false, a_aload 0 62), (62, false, a_gr 8 0 65), (65, false, a_const 0 66), (66, false, a_ald false 67), (67, false, a_icmp 2 75 70), (70, false, a_const (-4) 72), (72, false, a_goto 76), (75, false, a_iload 2 76), (76, false, a_iret M_8_bestBreak)]
set_option maxRecDepth 20000 in
theorem t_8_bestBreak (X : XT) : tget (tab_8_bestBreak X) 0 = some (false, a_iload 1 1) ∧ tget (tab_8_bestBreak X) 1 = some (false, a_if 3 6 4) ∧ tget (tab_8_bestBreak X) 4 = some (false, a_const (-1) 5) ∧ tget (tab_8_bestBreak X) 5 = some (false, a_iret M_8_bestBreak) ∧ tget (tab_8_bestBreak X) 6 = some (false, a_aload 0 7) ∧ tget (tab_8_bestBreak X) 7 = some (false, a_cn X M_8_bestBreak M_8_divides 8 1 10) ∧ tget (tab_8_bestBreak X) 10 = some (false, a_const 0 11) ∧ tget (tab_8_bestBreak X) 11 = some (false, a_istore 2 12) ∧ tget (tab_8_bestBreak X) 12 = some (false, a_const 0 13) ∧ tget (tab_8_bestBreak X) 13 = some (false, a_istore 3 14) ∧ tget (tab_8_bestBreak X) 14 = some (true, a_iload 3 15) ∧ tget (tab_8_bestBreak X) 15 = some (false, a_iload 1 16) ∧ tget (tab_8_bestBreak X) 16 = some (false, a_icmp 3 51 19) ∧ tget (tab_8_bestBreak X) 19 = some (false, a_aload 0 20) ∧ tget (tab_8_bestBreak X) 20 = some (false, a_gr 8 19 23) ∧ tget (tab_8_bestBreak X) 23 = some (false, a_const 0 24) ∧ tget (tab_8_bestBreak X) 24 = some (false, a_ald false 25) ∧ tget (tab_8_bestBreak X) 25 = some (false, a_if 2 51 28) ∧ tget (tab_8_bestBreak X) 28 = some (false, a_iload 2 29) ∧ tget (tab_8_bestBreak X) 29 = some (false, a_aload 0 30) ∧ tget (tab_8_bestBreak X) 30 = some (false, a_gr 8 0 33) ∧ tget (tab_8_bestBreak X) 33 = some (false, a_const 0 34) ∧ tget (tab_8_bestBreak X) 34 = some (false, a_ald false 35) ∧ tget (tab_8_bestBreak X) 35 = some (false, a_icmp 3 51 38) ∧ tget (tab_8_bestBreak X) 38 = some (false, a_aload 0 39) ∧ tget (tab_8_bestBreak X) 39 = some (false, a_gr 8 20 42) ∧ tget (tab_8_bestBreak X) 42 = some (false, a_iload 2 43) ∧ tget (tab_8_bestBreak X) 43 = some (false, a_ald false 44) ∧ tget (tab_8_bestBreak X) 44 = some (false, a_istore 2 45) ∧ tget (tab_8_bestBreak X) 45 = some (false, a_iinc 3 1 48) ∧ tget (tab_8_bestBreak X) 48 = some (false, a_goto 14) ∧ tget (tab_8_bestBreak X) 51 = some (false, a_aload 0 52) ∧ tget (tab_8_bestBreak X) 52 = some (false, a_gr 8 19 55) ∧ tget (tab_8_bestBreak X) 55 = some (false, a_const 0 56) ∧ tget (tab_8_bestBreak X) 56 = some (false, a_ald false 57) ∧ tget (tab_8_bestBreak X) 57 = some (false, a_if 2 70 60) ∧ tget (tab_8_bestBreak X) 60 = some (false, a_iload 2 61) ∧ tget (tab_8_bestBreak X) 61 = some (false, a_aload 0 62) ∧ tget (tab_8_bestBreak X) 62 = some (false, a_gr 8 0 65) ∧ tget (tab_8_bestBreak X) 65 = some (false, a_const 0 66) ∧ tget (tab_8_bestBreak X) 66 = some (false, a_ald false 67) ∧ tget (tab_8_bestBreak X) 67 = some (false, a_icmp 2 75 70) ∧ tget (tab_8_bestBreak X) 70 = some (false, a_const (-4) 72) ∧ tget (tab_8_bestBreak X) 72 = some (false, a_goto 76) ∧ tget (tab_8_bestBreak X) 75 = some (false, a_iload 2 76) ∧ tget (tab_8_bestBreak X) 76 = some (false, a_iret M_8_bestBreak) := ⟨rfl, rfl, rfl, rfl, rfl, rfl, rfl, rfl, rfl, rfl, rfl, rfl, rfl, rfl, rfl, rfl, rfl, rfl, rfl, rfl, rfl, rfl, rfl, rfl, rfl, rfl, rfl, rfl, rfl, rfl, rfl, rfl, rfl, rfl, rfl, rfl, rfl, rfl, rfl, rfl, rfl, rfl, rfl, rfl, rfl, rfl⟩
theorem tok_8_bestBreak (X : XT) : TabOK X M_8_bestBreak (tab_8_bestBreak X) := by
  unfold tab_8_bestBreak
  refine tok_cons (snd_iload_n dX8_bestBreak_0 rfl rfl) ?_
  refine tok_cons (snd_if_ge dX8_bestBreak_1 (by decide) rfl) ?_
  refine tok_cons (snd_iconst dX8_bestBreak_4 rfl (inr_d rfl) rfl) ?_
  refine tok_cons (snd_iret dX8_bestBreak_5 rfl) ?_
  refine tok_cons (snd_aload_n dX8_bestBreak_6 rfl rfl) ?_
  refine tok_cons (snd_cn dX8_bestBreak_7 mok_8_divides ⟨wm8_169, wi_8_divides, wl_8_divides⟩ (rc := (RX8, TX8, 21)) rfl rfl pn_8_divides (by decide) ⟨rfl, rfl⟩ rfl) ?_
  refine tok_cons (snd_iconst dX8_bestBreak_10 rfl (inr_d rfl) rfl) ?_
  refine tok_cons (snd_istore_n dX8_bestBreak_11 rfl rfl (by decide)) ?_
  refine tok_cons (snd_iconst dX8_bestBreak_12 rfl (inr_d rfl) rfl) ?_
  refine tok_cons (snd_istore_n dX8_bestBreak_13 rfl rfl (by decide)) ?_
  refine tok_cons (snd_iload_n dX8_bestBreak_14 rfl rfl) ?_
  refine tok_cons (snd_iload_n dX8_bestBreak_15 rfl rfl) ?_
  refine tok_cons (snd_icmp_ge dX8_bestBreak_16 (by decide) rfl) ?_
  refine tok_cons (snd_aload_n dX8_bestBreak_19 rfl rfl) ?_
  refine tok_cons (snd_gr (C := RX8) (T := TX8) (N := 21) dX8_bestBreak_20 rfl (by decide) rfl wf8_56 inX8 rfl) ?_
  refine tok_cons (snd_iconst dX8_bestBreak_23 rfl (inr_d rfl) rfl) ?_
  refine tok_cons (snd_iald dX8_bestBreak_24 rfl) ?_
  refine tok_cons (snd_if_lt dX8_bestBreak_25 (by decide) rfl) ?_
  refine tok_cons (snd_iload_n dX8_bestBreak_28 rfl rfl) ?_
  refine tok_cons (snd_aload_n dX8_bestBreak_29 rfl rfl) ?_
  refine tok_cons (snd_gr (C := RX8) (T := TX8) (N := 21) dX8_bestBreak_30 rfl (by decide) rfl wf8_7 inX8 rfl) ?_
  refine tok_cons (snd_iconst dX8_bestBreak_33 rfl (inr_d rfl) rfl) ?_
  refine tok_cons (snd_iald dX8_bestBreak_34 rfl) ?_
  refine tok_cons (snd_icmp_ge dX8_bestBreak_35 (by decide) rfl) ?_
  refine tok_cons (snd_aload_n dX8_bestBreak_38 rfl rfl) ?_
  refine tok_cons (snd_gr (C := RX8) (T := TX8) (N := 21) dX8_bestBreak_39 rfl (by decide) rfl wf8_59 inX8 rfl) ?_
  refine tok_cons (snd_iload_n dX8_bestBreak_42 rfl rfl) ?_
  refine tok_cons (snd_iald dX8_bestBreak_43 rfl) ?_
  refine tok_cons (snd_istore_n dX8_bestBreak_44 rfl rfl (by decide)) ?_
  refine tok_cons (snd_iinc dX8_bestBreak_45 rfl rfl (by decide)) ?_
  refine tok_cons (snd_goto dX8_bestBreak_48 (by decide)) ?_
  refine tok_cons (snd_aload_n dX8_bestBreak_51 rfl rfl) ?_
  refine tok_cons (snd_gr (C := RX8) (T := TX8) (N := 21) dX8_bestBreak_52 rfl (by decide) rfl wf8_56 inX8 rfl) ?_
  refine tok_cons (snd_iconst dX8_bestBreak_55 rfl (inr_d rfl) rfl) ?_
  refine tok_cons (snd_iald dX8_bestBreak_56 rfl) ?_
  refine tok_cons (snd_if_lt dX8_bestBreak_57 (by decide) rfl) ?_
  refine tok_cons (snd_iload_n dX8_bestBreak_60 rfl rfl) ?_
  refine tok_cons (snd_aload_n dX8_bestBreak_61 rfl rfl) ?_
  refine tok_cons (snd_gr (C := RX8) (T := TX8) (N := 21) dX8_bestBreak_62 rfl (by decide) rfl wf8_7 inX8 rfl) ?_
  refine tok_cons (snd_iconst dX8_bestBreak_65 rfl (inr_d rfl) rfl) ?_
  refine tok_cons (snd_iald dX8_bestBreak_66 rfl) ?_
  refine tok_cons (snd_icmp_lt dX8_bestBreak_67 (by decide) rfl) ?_
  refine tok_cons (snd_bipush dX8_bestBreak_70 (by decide) (inr_d rfl) rfl) ?_
  refine tok_cons (snd_goto dX8_bestBreak_72 (by decide)) ?_
  refine tok_cons (snd_iload_n dX8_bestBreak_75 rfl rfl) ?_
  refine tok_cons (snd_iret dX8_bestBreak_76 rfl) ?_
  exact tok_nil
def tab_8_goesOn (X : XT) : Tab := [(0, false, a_aload 0 1), (1, false, a_gi 8 17 17 4), (4, false, a_aload 0 5), (5, false, a_gr 8 0 8), (8, false, a_const 0 9), (9, false, a_ald false 10), (10, false, a_icmp 1 15 13), (13, false, a_const 0 14), (14, false, a_zret M_8_goesOn), (15, false, a_aload 0 16), (16, false, a_gr 8 18 19), (19, false, a_const 0 20), (20, false, a_ald false 21), (21, false, a_if 1 37 24), (24, false, a_aload 0 25), (25, false, a_gr 8 18 28), (28, false, a_const 1 29), (29, false, a_ald false 30), (30, false, a_if 1 37 33), (33, false, a_const 1 34), (34, false, a_goto 38), (37, false, a_const 0 38), (38, false, a_istore 1 39), (39, false, a_aload 0 40), (40, false, a_cv X M_8_goesOn M_8_segmentsOfLast 8 1 43), (43, false, a_if 5 68 46), (46, false, a_iload 1 47), (47, false, a_if 0 68 50), (50, false, a_aload 0 51), (51, false, a_gr 8 0 54), (54, false, a_const 61 56), (56, false, a_aload 0 57), (57, false, a_gi 8 17 17 60), (60, false, a_add 61), (61, false, a_ald false 62), (62, false, a_const 1 63), (63, false, a_icmp 1 68 66), (66, false, a_const 0 67), (67, false, a_zret M_8_goesOn), (68, false, a_aload 0 69), (69, false, a_aload 0 70), (70, false, a_gi 8 17 17 73), (73, false, a_const 0 74), (74, false, a_cv X M_8_goesOn M_8_lines 8 3 77), (77, false, a_aload 0 78), (78, false, a_gr 8 18 81), (81, false, a_const 0 82), (82, false, a_ald false 83), (83, false, a_sub 84), (84, false, a_istore 2 85), (85, false, a_aload 0 86), (86, false, a_aload 0 87), (87, false, a_gi 8 17 17 90), (90, false, a_const 1 91), (91, false, a_cv X M_8_goesOn M_8_lines 8 3 94), (94, false, a_aload 0 95), (95, false, a_gr 8 18 98), (98, false, a_const 1 99), (99, false, a_ald false 100), (100, false, a_sub 101), (101, false, a_istore 3 102), (102, false, a_aload 0 103), (103, false, a_iload 2 104), (104, false, a_iload 3 105), (105, false, a_cv X M_8_goesOn M_8_fits 8 3 108), (108, false, a_if 0 119 111), (111, false, a_aload 0 112), (112, false, a_iload 2 113), (113, false, a_iload 3 114), (114, false, a_cn X M_8_goesOn M_8_puts 8 3 117), (117, false, a_const 1 118), (118, false, a_zret M_8_goesOn), (119, false, a_aload 0 120), (120, false, a_gr 8 0 123), (123, false, a_const 41 125), (125, false, a_aload 0 126), (126, false, a_gi 8 17 17 129), (129, false, a_add 130), (130, false, a_ald false 131), (131, false, a_const 1 132), (132, false, a_icmp 1 139 135), (135, false, a_const 1 136), (136, false, a_goto 140), (139, false, a_const 0 140), (140, false, a_istore 4 142), (142, false, a_iload 4 144), (144, false, a_if 1 154 147), (147, false, a_aload 0 148), (148, false, a_cv X M_8_goesOn M_8_splits 8 1 151), (151, false, a_if 1 177 154), (154, false, a_aload 0 155), (155, false, a_cv X M_8_goesOn M_8_segmentsOfLast 8 1 158), (158, false, a_if 1 177 161), (161, false, a_aload 0 162), (162, false, a_iload 2 163), (163, false, a_iload 3 164), (164, false, a_cn X M_8_goesOn M_8_puts 8 3 167), (167, false, a_aload 0 168), (168, false, a_gr 8 12 171), (171, false, a_aload 0 172), (172, false, a_gi 8 10 10 175), (175, false, a_const 1 176), (176, false, a_ast true 177), (177, false, a_const 0 178), (178, false, a_zret M_8_goesOn)]
set_option maxRecDepth 20000 in
theorem t_8_goesOn (X : XT) : tget (tab_8_goesOn X) 0 = some (false, a_aload 0 1) ∧ tget (tab_8_goesOn X) 1 = some (false, a_gi 8 17 17 4) ∧ tget (tab_8_goesOn X) 4 = some (false, a_aload 0 5) ∧ tget (tab_8_goesOn X) 5 = some (false, a_gr 8 0 8) ∧ tget (tab_8_goesOn X) 8 = some (false, a_const 0 9) ∧ tget (tab_8_goesOn X) 9 = some (false, a_ald false 10) ∧ tget (tab_8_goesOn X) 10 = some (false, a_icmp 1 15 13) ∧ tget (tab_8_goesOn X) 13 = some (false, a_const 0 14) ∧ tget (tab_8_goesOn X) 14 = some (false, a_zret M_8_goesOn) ∧ tget (tab_8_goesOn X) 15 = some (false, a_aload 0 16) ∧ tget (tab_8_goesOn X) 16 = some (false, a_gr 8 18 19) ∧ tget (tab_8_goesOn X) 19 = some (false, a_const 0 20) ∧ tget (tab_8_goesOn X) 20 = some (false, a_ald false 21) ∧ tget (tab_8_goesOn X) 21 = some (false, a_if 1 37 24) ∧ tget (tab_8_goesOn X) 24 = some (false, a_aload 0 25) ∧ tget (tab_8_goesOn X) 25 = some (false, a_gr 8 18 28) ∧ tget (tab_8_goesOn X) 28 = some (false, a_const 1 29) ∧ tget (tab_8_goesOn X) 29 = some (false, a_ald false 30) ∧ tget (tab_8_goesOn X) 30 = some (false, a_if 1 37 33) ∧ tget (tab_8_goesOn X) 33 = some (false, a_const 1 34) ∧ tget (tab_8_goesOn X) 34 = some (false, a_goto 38) ∧ tget (tab_8_goesOn X) 37 = some (false, a_const 0 38) ∧ tget (tab_8_goesOn X) 38 = some (false, a_istore 1 39) ∧ tget (tab_8_goesOn X) 39 = some (false, a_aload 0 40) ∧ tget (tab_8_goesOn X) 40 = some (false, a_cv X M_8_goesOn M_8_segmentsOfLast 8 1 43) ∧ tget (tab_8_goesOn X) 43 = some (false, a_if 5 68 46) ∧ tget (tab_8_goesOn X) 46 = some (false, a_iload 1 47) ∧ tget (tab_8_goesOn X) 47 = some (false, a_if 0 68 50) ∧ tget (tab_8_goesOn X) 50 = some (false, a_aload 0 51) ∧ tget (tab_8_goesOn X) 51 = some (false, a_gr 8 0 54) ∧ tget (tab_8_goesOn X) 54 = some (false, a_const 61 56) ∧ tget (tab_8_goesOn X) 56 = some (false, a_aload 0 57) ∧ tget (tab_8_goesOn X) 57 = some (false, a_gi 8 17 17 60) ∧ tget (tab_8_goesOn X) 60 = some (false, a_add 61) ∧ tget (tab_8_goesOn X) 61 = some (false, a_ald false 62) ∧ tget (tab_8_goesOn X) 62 = some (false, a_const 1 63) ∧ tget (tab_8_goesOn X) 63 = some (false, a_icmp 1 68 66) ∧ tget (tab_8_goesOn X) 66 = some (false, a_const 0 67) ∧ tget (tab_8_goesOn X) 67 = some (false, a_zret M_8_goesOn) ∧ tget (tab_8_goesOn X) 68 = some (false, a_aload 0 69) ∧ tget (tab_8_goesOn X) 69 = some (false, a_aload 0 70) ∧ tget (tab_8_goesOn X) 70 = some (false, a_gi 8 17 17 73) ∧ tget (tab_8_goesOn X) 73 = some (false, a_const 0 74) ∧ tget (tab_8_goesOn X) 74 = some (false, a_cv X M_8_goesOn M_8_lines 8 3 77) ∧ tget (tab_8_goesOn X) 77 = some (false, a_aload 0 78) ∧ tget (tab_8_goesOn X) 78 = some (false, a_gr 8 18 81) ∧ tget (tab_8_goesOn X) 81 = some (false, a_const 0 82) ∧ tget (tab_8_goesOn X) 82 = some (false, a_ald false 83) ∧ tget (tab_8_goesOn X) 83 = some (false, a_sub 84) ∧ tget (tab_8_goesOn X) 84 = some (false, a_istore 2 85) ∧ tget (tab_8_goesOn X) 85 = some (false, a_aload 0 86) ∧ tget (tab_8_goesOn X) 86 = some (false, a_aload 0 87) ∧ tget (tab_8_goesOn X) 87 = some (false, a_gi 8 17 17 90) ∧ tget (tab_8_goesOn X) 90 = some (false, a_const 1 91) ∧ tget (tab_8_goesOn X) 91 = some (false, a_cv X M_8_goesOn M_8_lines 8 3 94) ∧ tget (tab_8_goesOn X) 94 = some (false, a_aload 0 95) ∧ tget (tab_8_goesOn X) 95 = some (false, a_gr 8 18 98) ∧ tget (tab_8_goesOn X) 98 = some (false, a_const 1 99) ∧ tget (tab_8_goesOn X) 99 = some (false, a_ald false 100) ∧ tget (tab_8_goesOn X) 100 = some (false, a_sub 101) ∧ tget (tab_8_goesOn X) 101 = some (false, a_istore 3 102) ∧ tget (tab_8_goesOn X) 102 = some (false, a_aload 0 103) ∧ tget (tab_8_goesOn X) 103 = some (false, a_iload 2 104) ∧ tget (tab_8_goesOn X) 104 = some (false, a_iload 3 105) ∧ tget (tab_8_goesOn X) 105 = some (false, a_cv X M_8_goesOn M_8_fits 8 3 108) ∧ tget (tab_8_goesOn X) 108 = some (false, a_if 0 119 111) ∧ tget (tab_8_goesOn X) 111 = some (false, a_aload 0 112) ∧ tget (tab_8_goesOn X) 112 = some (false, a_iload 2 113) ∧ tget (tab_8_goesOn X) 113 = some (false, a_iload 3 114) ∧ tget (tab_8_goesOn X) 114 = some (false, a_cn X M_8_goesOn M_8_puts 8 3 117) ∧ tget (tab_8_goesOn X) 117 = some (false, a_const 1 118) ∧ tget (tab_8_goesOn X) 118 = some (false, a_zret M_8_goesOn) ∧ tget (tab_8_goesOn X) 119 = some (false, a_aload 0 120) ∧ tget (tab_8_goesOn X) 120 = some (false, a_gr 8 0 123) ∧ tget (tab_8_goesOn X) 123 = some (false, a_const 41 125) ∧ tget (tab_8_goesOn X) 125 = some (false, a_aload 0 126) ∧ tget (tab_8_goesOn X) 126 = some (false, a_gi 8 17 17 129) ∧ tget (tab_8_goesOn X) 129 = some (false, a_add 130) ∧ tget (tab_8_goesOn X) 130 = some (false, a_ald false 131) ∧ tget (tab_8_goesOn X) 131 = some (false, a_const 1 132) ∧ tget (tab_8_goesOn X) 132 = some (false, a_icmp 1 139 135) ∧ tget (tab_8_goesOn X) 135 = some (false, a_const 1 136) ∧ tget (tab_8_goesOn X) 136 = some (false, a_goto 140) ∧ tget (tab_8_goesOn X) 139 = some (false, a_const 0 140) ∧ tget (tab_8_goesOn X) 140 = some (false, a_istore 4 142) ∧ tget (tab_8_goesOn X) 142 = some (false, a_iload 4 144) ∧ tget (tab_8_goesOn X) 144 = some (false, a_if 1 154 147) ∧ tget (tab_8_goesOn X) 147 = some (false, a_aload 0 148) ∧ tget (tab_8_goesOn X) 148 = some (false, a_cv X M_8_goesOn M_8_splits 8 1 151) ∧ tget (tab_8_goesOn X) 151 = some (false, a_if 1 177 154) ∧ tget (tab_8_goesOn X) 154 = some (false, a_aload 0 155) ∧ tget (tab_8_goesOn X) 155 = some (false, a_cv X M_8_goesOn M_8_segmentsOfLast 8 1 158) ∧ tget (tab_8_goesOn X) 158 = some (false, a_if 1 177 161) ∧ tget (tab_8_goesOn X) 161 = some (false, a_aload 0 162) ∧ tget (tab_8_goesOn X) 162 = some (false, a_iload 2 163) ∧ tget (tab_8_goesOn X) 163 = some (false, a_iload 3 164) ∧ tget (tab_8_goesOn X) 164 = some (false, a_cn X M_8_goesOn M_8_puts 8 3 167) ∧ tget (tab_8_goesOn X) 167 = some (false, a_aload 0 168) ∧ tget (tab_8_goesOn X) 168 = some (false, a_gr 8 12 171) ∧ tget (tab_8_goesOn X) 171 = some (false, a_aload 0 172) ∧ tget (tab_8_goesOn X) 172 = some (false, a_gi 8 10 10 175) ∧ tget (tab_8_goesOn X) 175 = some (false, a_const 1 176) ∧ tget (tab_8_goesOn X) 176 = some (false, a_ast true 177) ∧ tget (tab_8_goesOn X) 177 = some (false, a_const 0 178) ∧ tget (tab_8_goesOn X) 178 = some (false, a_zret M_8_goesOn) := ⟨rfl, rfl, rfl, rfl, rfl, rfl, rfl, rfl, rfl, rfl, rfl, rfl, rfl, rfl, rfl, rfl, rfl, rfl, rfl, rfl, rfl, rfl, rfl, rfl, rfl, rfl, rfl, rfl, rfl, rfl, rfl, rfl, rfl, rfl, rfl, rfl, rfl, rfl, rfl, rfl, rfl, rfl, rfl, rfl, rfl, rfl, rfl, rfl, rfl, rfl, rfl, rfl, rfl, rfl, rfl, rfl, rfl, rfl, rfl, rfl, rfl, rfl, rfl, rfl, rfl, rfl, rfl, rfl, rfl, rfl, rfl, rfl, rfl, rfl, rfl, rfl, rfl, rfl, rfl, rfl, rfl, rfl, rfl, rfl, rfl, rfl, rfl, rfl, rfl, rfl, rfl, rfl, rfl, rfl, rfl, rfl, rfl, rfl, rfl, rfl, rfl, rfl, rfl, rfl, rfl⟩
theorem tok_8_goesOn (X : XT) : TabOK X M_8_goesOn (tab_8_goesOn X) := by
  unfold tab_8_goesOn
  refine tok_cons (snd_aload_n dX8_goesOn_0 rfl rfl) ?_
  refine tok_cons (snd_gi (C := RX8) (T := TX8) (N := 21) dX8_goesOn_1 rfl (by decide) rfl wf8_111 inX8 rfl rfl) ?_
  refine tok_cons (snd_aload_n dX8_goesOn_4 rfl rfl) ?_
  refine tok_cons (snd_gr (C := RX8) (T := TX8) (N := 21) dX8_goesOn_5 rfl (by decide) rfl wf8_7 inX8 rfl) ?_
  refine tok_cons (snd_iconst dX8_goesOn_8 rfl (inr_d rfl) rfl) ?_
  refine tok_cons (snd_iald dX8_goesOn_9 rfl) ?_
  refine tok_cons (snd_icmp_ne dX8_goesOn_10 (by decide) rfl) ?_
  refine tok_cons (snd_iconst dX8_goesOn_13 rfl (inr_d rfl) rfl) ?_
  refine tok_cons (snd_zret dX8_goesOn_14 rfl) ?_
  refine tok_cons (snd_aload_n dX8_goesOn_15 rfl rfl) ?_
  refine tok_cons (snd_gr (C := RX8) (T := TX8) (N := 21) dX8_goesOn_16 rfl (by decide) rfl wf8_53 inX8 rfl) ?_
  refine tok_cons (snd_iconst dX8_goesOn_19 rfl (inr_d rfl) rfl) ?_
  refine tok_cons (snd_iald dX8_goesOn_20 rfl) ?_
  refine tok_cons (snd_if_ne dX8_goesOn_21 (by decide) rfl) ?_
  refine tok_cons (snd_aload_n dX8_goesOn_24 rfl rfl) ?_
  refine tok_cons (snd_gr (C := RX8) (T := TX8) (N := 21) dX8_goesOn_25 rfl (by decide) rfl wf8_53 inX8 rfl) ?_
  refine tok_cons (snd_iconst dX8_goesOn_28 rfl (inr_d rfl) rfl) ?_
  refine tok_cons (snd_iald dX8_goesOn_29 rfl) ?_
  refine tok_cons (snd_if_ne dX8_goesOn_30 (by decide) rfl) ?_
  refine tok_cons (snd_iconst dX8_goesOn_33 rfl (inr_d rfl) rfl) ?_
  refine tok_cons (snd_goto dX8_goesOn_34 (by decide)) ?_
  refine tok_cons (snd_iconst dX8_goesOn_37 rfl (inr_d rfl) rfl) ?_
  refine tok_cons (snd_istore_n dX8_goesOn_38 rfl rfl (by decide)) ?_
  refine tok_cons (snd_aload_n dX8_goesOn_39 rfl rfl) ?_
  refine tok_cons (snd_cv dX8_goesOn_40 mok_8_segmentsOfLast ⟨wm8_101, wi_8_segmentsOfLast, wl_8_segmentsOfLast⟩ (rc := (RX8, TX8, 21)) rfl rfl pn_8_segmentsOfLast (by decide) ⟨rfl, rfl⟩ rfl) ?_
  refine tok_cons (snd_if_le dX8_goesOn_43 (by decide) rfl) ?_
  refine tok_cons (snd_iload_n dX8_goesOn_46 rfl rfl) ?_
  refine tok_cons (snd_if_eq dX8_goesOn_47 (by decide) rfl) ?_
  refine tok_cons (snd_aload_n dX8_goesOn_50 rfl rfl) ?_
  refine tok_cons (snd_gr (C := RX8) (T := TX8) (N := 21) dX8_goesOn_51 rfl (by decide) rfl wf8_7 inX8 rfl) ?_
  refine tok_cons (snd_bipush dX8_goesOn_54 (by decide) (inr_d rfl) rfl) ?_
  refine tok_cons (snd_aload_n dX8_goesOn_56 rfl rfl) ?_
  refine tok_cons (snd_gi (C := RX8) (T := TX8) (N := 21) dX8_goesOn_57 rfl (by decide) rfl wf8_111 inX8 rfl rfl) ?_
  refine tok_cons (snd_add dX8_goesOn_60 rfl) ?_
  refine tok_cons (snd_iald dX8_goesOn_61 rfl) ?_
  refine tok_cons (snd_iconst dX8_goesOn_62 rfl (inr_d rfl) rfl) ?_
  refine tok_cons (snd_icmp_ne dX8_goesOn_63 (by decide) rfl) ?_
  refine tok_cons (snd_iconst dX8_goesOn_66 rfl (inr_d rfl) rfl) ?_
  refine tok_cons (snd_zret dX8_goesOn_67 rfl) ?_
  refine tok_cons (snd_aload_n dX8_goesOn_68 rfl rfl) ?_
  refine tok_cons (snd_aload_n dX8_goesOn_69 rfl rfl) ?_
  refine tok_cons (snd_gi (C := RX8) (T := TX8) (N := 21) dX8_goesOn_70 rfl (by decide) rfl wf8_111 inX8 rfl rfl) ?_
  refine tok_cons (snd_iconst dX8_goesOn_73 rfl (inr_d rfl) rfl) ?_
  refine tok_cons (snd_cv dX8_goesOn_74 mok_8_lines ⟨wm8_73, wi_8_lines, wl_8_lines⟩ (rc := (RX8, TX8, 21)) rfl rfl pn_8_lines (by decide) ⟨rfl, rfl⟩ rfl) ?_
  refine tok_cons (snd_aload_n dX8_goesOn_77 rfl rfl) ?_
  refine tok_cons (snd_gr (C := RX8) (T := TX8) (N := 21) dX8_goesOn_78 rfl (by decide) rfl wf8_53 inX8 rfl) ?_
  refine tok_cons (snd_iconst dX8_goesOn_81 rfl (inr_d rfl) rfl) ?_
  refine tok_cons (snd_iald dX8_goesOn_82 rfl) ?_
  refine tok_cons (snd_sub dX8_goesOn_83 rfl) ?_
  refine tok_cons (snd_istore_n dX8_goesOn_84 rfl rfl (by decide)) ?_
  refine tok_cons (snd_aload_n dX8_goesOn_85 rfl rfl) ?_
  refine tok_cons (snd_aload_n dX8_goesOn_86 rfl rfl) ?_
  refine tok_cons (snd_gi (C := RX8) (T := TX8) (N := 21) dX8_goesOn_87 rfl (by decide) rfl wf8_111 inX8 rfl rfl) ?_
  refine tok_cons (snd_iconst dX8_goesOn_90 rfl (inr_d rfl) rfl) ?_
  refine tok_cons (snd_cv dX8_goesOn_91 mok_8_lines ⟨wm8_73, wi_8_lines, wl_8_lines⟩ (rc := (RX8, TX8, 21)) rfl rfl pn_8_lines (by decide) ⟨rfl, rfl⟩ rfl) ?_
  refine tok_cons (snd_aload_n dX8_goesOn_94 rfl rfl) ?_
  refine tok_cons (snd_gr (C := RX8) (T := TX8) (N := 21) dX8_goesOn_95 rfl (by decide) rfl wf8_53 inX8 rfl) ?_
  refine tok_cons (snd_iconst dX8_goesOn_98 rfl (inr_d rfl) rfl) ?_
  refine tok_cons (snd_iald dX8_goesOn_99 rfl) ?_
  refine tok_cons (snd_sub dX8_goesOn_100 rfl) ?_
  refine tok_cons (snd_istore_n dX8_goesOn_101 rfl rfl (by decide)) ?_
  refine tok_cons (snd_aload_n dX8_goesOn_102 rfl rfl) ?_
  refine tok_cons (snd_iload_n dX8_goesOn_103 rfl rfl) ?_
  refine tok_cons (snd_iload_n dX8_goesOn_104 rfl rfl) ?_
  refine tok_cons (snd_cv dX8_goesOn_105 mok_8_fits ⟨wm8_131, wi_8_fits, wl_8_fits⟩ (rc := (RX8, TX8, 21)) rfl rfl pn_8_fits (by decide) ⟨rfl, rfl⟩ rfl) ?_
  refine tok_cons (snd_if_eq dX8_goesOn_108 (by decide) rfl) ?_
  refine tok_cons (snd_aload_n dX8_goesOn_111 rfl rfl) ?_
  refine tok_cons (snd_iload_n dX8_goesOn_112 rfl rfl) ?_
  refine tok_cons (snd_iload_n dX8_goesOn_113 rfl rfl) ?_
  refine tok_cons (snd_cn dX8_goesOn_114 mok_8_puts ⟨wm8_134, wi_8_puts, wl_8_puts⟩ (rc := (RX8, TX8, 21)) rfl rfl pn_8_puts (by decide) ⟨rfl, rfl⟩ rfl) ?_
  refine tok_cons (snd_iconst dX8_goesOn_117 rfl (inr_d rfl) rfl) ?_
  refine tok_cons (snd_zret dX8_goesOn_118 rfl) ?_
  refine tok_cons (snd_aload_n dX8_goesOn_119 rfl rfl) ?_
  refine tok_cons (snd_gr (C := RX8) (T := TX8) (N := 21) dX8_goesOn_120 rfl (by decide) rfl wf8_7 inX8 rfl) ?_
  refine tok_cons (snd_bipush dX8_goesOn_123 (by decide) (inr_d rfl) rfl) ?_
  refine tok_cons (snd_aload_n dX8_goesOn_125 rfl rfl) ?_
  refine tok_cons (snd_gi (C := RX8) (T := TX8) (N := 21) dX8_goesOn_126 rfl (by decide) rfl wf8_111 inX8 rfl rfl) ?_
  refine tok_cons (snd_add dX8_goesOn_129 rfl) ?_
  refine tok_cons (snd_iald dX8_goesOn_130 rfl) ?_
  refine tok_cons (snd_iconst dX8_goesOn_131 rfl (inr_d rfl) rfl) ?_
  refine tok_cons (snd_icmp_ne dX8_goesOn_132 (by decide) rfl) ?_
  refine tok_cons (snd_iconst dX8_goesOn_135 rfl (inr_d rfl) rfl) ?_
  refine tok_cons (snd_goto dX8_goesOn_136 (by decide)) ?_
  refine tok_cons (snd_iconst dX8_goesOn_139 rfl (inr_d rfl) rfl) ?_
  refine tok_cons (snd_istore dX8_goesOn_140 rfl (by decide)) ?_
  refine tok_cons (snd_iload dX8_goesOn_142 rfl) ?_
  refine tok_cons (snd_if_ne dX8_goesOn_144 (by decide) rfl) ?_
  refine tok_cons (snd_aload_n dX8_goesOn_147 rfl rfl) ?_
  refine tok_cons (snd_cv dX8_goesOn_148 mok_8_splits ⟨wm8_137, wi_8_splits, wl_8_splits⟩ (rc := (RX8, TX8, 21)) rfl rfl pn_8_splits (by decide) ⟨rfl, rfl⟩ rfl) ?_
  refine tok_cons (snd_if_ne dX8_goesOn_151 (by decide) rfl) ?_
  refine tok_cons (snd_aload_n dX8_goesOn_154 rfl rfl) ?_
  refine tok_cons (snd_cv dX8_goesOn_155 mok_8_segmentsOfLast ⟨wm8_101, wi_8_segmentsOfLast, wl_8_segmentsOfLast⟩ (rc := (RX8, TX8, 21)) rfl rfl pn_8_segmentsOfLast (by decide) ⟨rfl, rfl⟩ rfl) ?_
  refine tok_cons (snd_if_ne dX8_goesOn_158 (by decide) rfl) ?_
  refine tok_cons (snd_aload_n dX8_goesOn_161 rfl rfl) ?_
  refine tok_cons (snd_iload_n dX8_goesOn_162 rfl rfl) ?_
  refine tok_cons (snd_iload_n dX8_goesOn_163 rfl rfl) ?_
  refine tok_cons (snd_cn dX8_goesOn_164 mok_8_puts ⟨wm8_134, wi_8_puts, wl_8_puts⟩ (rc := (RX8, TX8, 21)) rfl rfl pn_8_puts (by decide) ⟨rfl, rfl⟩ rfl) ?_
  refine tok_cons (snd_aload_n dX8_goesOn_167 rfl rfl) ?_
  refine tok_cons (snd_gr (C := RX8) (T := TX8) (N := 21) dX8_goesOn_168 rfl (by decide) rfl wf8_37 inX8 rfl) ?_
  refine tok_cons (snd_aload_n dX8_goesOn_171 rfl rfl) ?_
  refine tok_cons (snd_gi (C := RX8) (T := TX8) (N := 21) dX8_goesOn_172 rfl (by decide) rfl wf8_98 inX8 rfl rfl) ?_
  refine tok_cons (snd_iconst dX8_goesOn_175 rfl (inr_d rfl) rfl) ?_
  refine tok_cons (snd_bast dX8_goesOn_176 rfl) ?_
  refine tok_cons (snd_iconst dX8_goesOn_177 rfl (inr_d rfl) rfl) ?_
  refine tok_cons (snd_zret dX8_goesOn_178 rfl) ?_
  exact tok_nil
def tab_8_sets (X : XT) : Tab := [(0, false, a_aload 0 1), (1, false, a_const 0 2), (2, false, a_pi 8 10 10 false 5), (5, false, a_aload 0 6), (6, false, a_const 0 7), (7, false, a_pi 8 5 5 false 10), (10, false, a_aload 0 11), (11, false, a_const 0 12), (12, false, a_pi 8 17 17 false 15), (15, false, a_aload 0 16), (16, false, a_gr 8 18 19), (19, false, a_const 0 20), (20, false, a_const 0 21), (21, false, a_ast false 22), (22, false, a_aload 0 23), (23, false, a_gr 8 18 26), (26, false, a_const 1 27), (27, false, a_const 0 28), (28, false, a_ast false 29), (29, false, a_aload 0 30), (30, false, a_gr 8 16 33), (33, false, a_const 0 34), (34, false, a_const 0 35), (35, false, a_ast false 36), (36, false, a_aload 0 37), (37, false, a_gr 8 16 40), (40, false, a_const 1 41), (41, false, a_const 0 42), (42, false, a_ast false 43), (43, false, a_aload 0 44), (44, false, a_gr 8 0 47), (47, false, a_const 0 48), (48, false, a_ald false 49), (49, false, a_if 5 56 52), (52, false, a_const 1 53), (53, false, a_goto 57), (56, false, a_const 0 57), (57, false, a_istore 1 58), (58, true, a_iload 1 59), (59, false, a_if 0 173 62), (62, false, a_aload 0 63), (63, false, a_gr 8 11 66), (66, false, a_aload 0 67), (67, false, a_gi 8 10 10 70), (70, false, a_aload 0 71), (71, false, a_gi 8 5 5 74), (74, false, a_ast false 75), (75, false, a_aload 0 76), (76, false, a_gr 8 12 79), (79, false, a_aload 0 80), (80, false, a_gi 8 10 10 83), (83, false, a_const 0 84), (84, false, a_ast true 85), (85, false, a_const 1 86), (86, false, a_istore 2 87), (87, true, a_iload 2 88), (88, false, a_if 0 99 91), (91, false, a_aload 0 92), (92, false, a_cv X M_8_sets M_8_goesOn 8 1 95), (95, false, a_istore 2 96), (96, false, a_goto 87), (99, false, a_aload 0 100), (100, false, a_const 0 101), (101, false, a_cn X M_8_sets M_8_closes 8 2 104), (104, false, a_aload 0 105), (105, false, a_const 1 106), (106, false, a_cn X M_8_sets M_8_closes 8 2 109), (109, false, a_aload 0 110), (110, false, a_dup 111), (111, false, a_gi 8 10 10 114), (114, false, a_const 1 115), (115, false, a_add 116), (116, false, a_pi 8 10 10 false 119), (119, false, a_aload 0 120), (120, false, a_gi 8 17 17 123), (123, false, a_aload 0 124), (124, false, a_gr 8 0 127), (127, false, a_const 0 128), (128, false, a_ald false 129), (129, false, a_icmp 2 164 132), (132, false, a_aload 0 133), (133, false, a_gr 8 15 136), (136, false, a_const 2 137), (137, false, a_aload 0 138), (138, false, a_gi 8 10 10 141), (141, false, a_mul 142), (142, false, a_const 2 143), (143, false, a_sub 144), (144, false, a_ald false 145), (145, false, a_if 4 164 148), (148, false, a_aload 0 149), (149, false, a_gr 8 15 152), (152, false, a_const 2 153), (153, false, a_aload 0 154), (154, false, a_gi 8 10 10 157), (157, false, a_mul 158), (158, false, a_const 1 159), (159, false, a_sub 160), (160, false, a_ald false 161), (161, false, a_if 5 168 164), (164, false, a_const 1 165), (165, false, a_goto 169), (168, false, a_const 0 169), (169, false, a_istore 1 170), (170, false, a_goto 58), (173, false, a_aload 0 174), (174, false, a_gr 8 11 177), (177, false, a_aload 0 178), (178, false, a_gi 8 10 10 181), (181, false, a_aload 0 182), (182, false, a_gi 8 5 5 185), (185, false, a_ast false 186), (186, false, a_ret M_8_sets)]
set_option maxRecDepth 20000 in
theorem t_8_sets (X : XT) : tget (tab_8_sets X) 0 = some (false, a_aload 0 1) ∧ tget (tab_8_sets X) 1 = some (false, a_const 0 2) ∧ tget (tab_8_sets X) 2 = some (false, a_pi 8 10 10 false 5) ∧ tget (tab_8_sets X) 5 = some (false, a_aload 0 6) ∧ tget (tab_8_sets X) 6 = some (false, a_const 0 7) ∧ tget (tab_8_sets X) 7 = some (false, a_pi 8 5 5 false 10) ∧ tget (tab_8_sets X) 10 = some (false, a_aload 0 11) ∧ tget (tab_8_sets X) 11 = some (false, a_const 0 12) ∧ tget (tab_8_sets X) 12 = some (false, a_pi 8 17 17 false 15) ∧ tget (tab_8_sets X) 15 = some (false, a_aload 0 16) ∧ tget (tab_8_sets X) 16 = some (false, a_gr 8 18 19) ∧ tget (tab_8_sets X) 19 = some (false, a_const 0 20) ∧ tget (tab_8_sets X) 20 = some (false, a_const 0 21) ∧ tget (tab_8_sets X) 21 = some (false, a_ast false 22) ∧ tget (tab_8_sets X) 22 = some (false, a_aload 0 23) ∧ tget (tab_8_sets X) 23 = some (false, a_gr 8 18 26) ∧ tget (tab_8_sets X) 26 = some (false, a_const 1 27) ∧ tget (tab_8_sets X) 27 = some (false, a_const 0 28) ∧ tget (tab_8_sets X) 28 = some (false, a_ast false 29) ∧ tget (tab_8_sets X) 29 = some (false, a_aload 0 30) ∧ tget (tab_8_sets X) 30 = some (false, a_gr 8 16 33) ∧ tget (tab_8_sets X) 33 = some (false, a_const 0 34) ∧ tget (tab_8_sets X) 34 = some (false, a_const 0 35) ∧ tget (tab_8_sets X) 35 = some (false, a_ast false 36) ∧ tget (tab_8_sets X) 36 = some (false, a_aload 0 37) ∧ tget (tab_8_sets X) 37 = some (false, a_gr 8 16 40) ∧ tget (tab_8_sets X) 40 = some (false, a_const 1 41) ∧ tget (tab_8_sets X) 41 = some (false, a_const 0 42) ∧ tget (tab_8_sets X) 42 = some (false, a_ast false 43) ∧ tget (tab_8_sets X) 43 = some (false, a_aload 0 44) ∧ tget (tab_8_sets X) 44 = some (false, a_gr 8 0 47) ∧ tget (tab_8_sets X) 47 = some (false, a_const 0 48) ∧ tget (tab_8_sets X) 48 = some (false, a_ald false 49) ∧ tget (tab_8_sets X) 49 = some (false, a_if 5 56 52) ∧ tget (tab_8_sets X) 52 = some (false, a_const 1 53) ∧ tget (tab_8_sets X) 53 = some (false, a_goto 57) ∧ tget (tab_8_sets X) 56 = some (false, a_const 0 57) ∧ tget (tab_8_sets X) 57 = some (false, a_istore 1 58) ∧ tget (tab_8_sets X) 58 = some (true, a_iload 1 59) ∧ tget (tab_8_sets X) 59 = some (false, a_if 0 173 62) ∧ tget (tab_8_sets X) 62 = some (false, a_aload 0 63) ∧ tget (tab_8_sets X) 63 = some (false, a_gr 8 11 66) ∧ tget (tab_8_sets X) 66 = some (false, a_aload 0 67) ∧ tget (tab_8_sets X) 67 = some (false, a_gi 8 10 10 70) ∧ tget (tab_8_sets X) 70 = some (false, a_aload 0 71) ∧ tget (tab_8_sets X) 71 = some (false, a_gi 8 5 5 74) ∧ tget (tab_8_sets X) 74 = some (false, a_ast false 75) ∧ tget (tab_8_sets X) 75 = some (false, a_aload 0 76) ∧ tget (tab_8_sets X) 76 = some (false, a_gr 8 12 79) ∧ tget (tab_8_sets X) 79 = some (false, a_aload 0 80) ∧ tget (tab_8_sets X) 80 = some (false, a_gi 8 10 10 83) ∧ tget (tab_8_sets X) 83 = some (false, a_const 0 84) ∧ tget (tab_8_sets X) 84 = some (false, a_ast true 85) ∧ tget (tab_8_sets X) 85 = some (false, a_const 1 86) ∧ tget (tab_8_sets X) 86 = some (false, a_istore 2 87) ∧ tget (tab_8_sets X) 87 = some (true, a_iload 2 88) ∧ tget (tab_8_sets X) 88 = some (false, a_if 0 99 91) ∧ tget (tab_8_sets X) 91 = some (false, a_aload 0 92) ∧ tget (tab_8_sets X) 92 = some (false, a_cv X M_8_sets M_8_goesOn 8 1 95) ∧ tget (tab_8_sets X) 95 = some (false, a_istore 2 96) ∧ tget (tab_8_sets X) 96 = some (false, a_goto 87) ∧ tget (tab_8_sets X) 99 = some (false, a_aload 0 100) ∧ tget (tab_8_sets X) 100 = some (false, a_const 0 101) ∧ tget (tab_8_sets X) 101 = some (false, a_cn X M_8_sets M_8_closes 8 2 104) ∧ tget (tab_8_sets X) 104 = some (false, a_aload 0 105) ∧ tget (tab_8_sets X) 105 = some (false, a_const 1 106) ∧ tget (tab_8_sets X) 106 = some (false, a_cn X M_8_sets M_8_closes 8 2 109) ∧ tget (tab_8_sets X) 109 = some (false, a_aload 0 110) ∧ tget (tab_8_sets X) 110 = some (false, a_dup 111) ∧ tget (tab_8_sets X) 111 = some (false, a_gi 8 10 10 114) ∧ tget (tab_8_sets X) 114 = some (false, a_const 1 115) ∧ tget (tab_8_sets X) 115 = some (false, a_add 116) ∧ tget (tab_8_sets X) 116 = some (false, a_pi 8 10 10 false 119) ∧ tget (tab_8_sets X) 119 = some (false, a_aload 0 120) ∧ tget (tab_8_sets X) 120 = some (false, a_gi 8 17 17 123) ∧ tget (tab_8_sets X) 123 = some (false, a_aload 0 124) ∧ tget (tab_8_sets X) 124 = some (false, a_gr 8 0 127) ∧ tget (tab_8_sets X) 127 = some (false, a_const 0 128) ∧ tget (tab_8_sets X) 128 = some (false, a_ald false 129) ∧ tget (tab_8_sets X) 129 = some (false, a_icmp 2 164 132) ∧ tget (tab_8_sets X) 132 = some (false, a_aload 0 133) ∧ tget (tab_8_sets X) 133 = some (false, a_gr 8 15 136) ∧ tget (tab_8_sets X) 136 = some (false, a_const 2 137) ∧ tget (tab_8_sets X) 137 = some (false, a_aload 0 138) ∧ tget (tab_8_sets X) 138 = some (false, a_gi 8 10 10 141) ∧ tget (tab_8_sets X) 141 = some (false, a_mul 142) ∧ tget (tab_8_sets X) 142 = some (false, a_const 2 143) ∧ tget (tab_8_sets X) 143 = some (false, a_sub 144) ∧ tget (tab_8_sets X) 144 = some (false, a_ald false 145) ∧ tget (tab_8_sets X) 145 = some (false, a_if 4 164 148) ∧ tget (tab_8_sets X) 148 = some (false, a_aload 0 149) ∧ tget (tab_8_sets X) 149 = some (false, a_gr 8 15 152) ∧ tget (tab_8_sets X) 152 = some (false, a_const 2 153) ∧ tget (tab_8_sets X) 153 = some (false, a_aload 0 154) ∧ tget (tab_8_sets X) 154 = some (false, a_gi 8 10 10 157) ∧ tget (tab_8_sets X) 157 = some (false, a_mul 158) ∧ tget (tab_8_sets X) 158 = some (false, a_const 1 159) ∧ tget (tab_8_sets X) 159 = some (false, a_sub 160) ∧ tget (tab_8_sets X) 160 = some (false, a_ald false 161) ∧ tget (tab_8_sets X) 161 = some (false, a_if 5 168 164) ∧ tget (tab_8_sets X) 164 = some (false, a_const 1 165) ∧ tget (tab_8_sets X) 165 = some (false, a_goto 169) ∧ tget (tab_8_sets X) 168 = some (false, a_const 0 169) ∧ tget (tab_8_sets X) 169 = some (false, a_istore 1 170) ∧ tget (tab_8_sets X) 170 = some (false, a_goto 58) ∧ tget (tab_8_sets X) 173 = some (false, a_aload 0 174) ∧ tget (tab_8_sets X) 174 = some (false, a_gr 8 11 177) ∧ tget (tab_8_sets X) 177 = some (false, a_aload 0 178) ∧ tget (tab_8_sets X) 178 = some (false, a_gi 8 10 10 181) ∧ tget (tab_8_sets X) 181 = some (false, a_aload 0 182) ∧ tget (tab_8_sets X) 182 = some (false, a_gi 8 5 5 185) ∧ tget (tab_8_sets X) 185 = some (false, a_ast false 186) ∧ tget (tab_8_sets X) 186 = some (false, a_ret M_8_sets) := ⟨rfl, rfl, rfl, rfl, rfl, rfl, rfl, rfl, rfl, rfl, rfl, rfl, rfl, rfl, rfl, rfl, rfl, rfl, rfl, rfl, rfl, rfl, rfl, rfl, rfl, rfl, rfl, rfl, rfl, rfl, rfl, rfl, rfl, rfl, rfl, rfl, rfl, rfl, rfl, rfl, rfl, rfl, rfl, rfl, rfl, rfl, rfl, rfl, rfl, rfl, rfl, rfl, rfl, rfl, rfl, rfl, rfl, rfl, rfl, rfl, rfl, rfl, rfl, rfl, rfl, rfl, rfl, rfl, rfl, rfl, rfl, rfl, rfl, rfl, rfl, rfl, rfl, rfl, rfl, rfl, rfl, rfl, rfl, rfl, rfl, rfl, rfl, rfl, rfl, rfl, rfl, rfl, rfl, rfl, rfl, rfl, rfl, rfl, rfl, rfl, rfl, rfl, rfl, rfl, rfl, rfl, rfl, rfl, rfl, rfl, rfl, rfl, rfl⟩
theorem tok_8_sets (X : XT) : TabOK X M_8_sets (tab_8_sets X) := by
  unfold tab_8_sets
  refine tok_cons (snd_aload_n dX8_sets_0 rfl rfl) ?_
  refine tok_cons (snd_iconst dX8_sets_1 rfl (inr_d rfl) rfl) ?_
  refine tok_cons (snd_pi (C := RX8) (T := TX8) (N := 21) (ty0 := tyX8) dX8_sets_2 rfl (by decide) rfl wf8_98 inX8 tyX8_ok nmX8 (by decide +kernel) rfl rfl) ?_
  refine tok_cons (snd_aload_n dX8_sets_5 rfl rfl) ?_
  refine tok_cons (snd_iconst dX8_sets_6 rfl (inr_d rfl) rfl) ?_
  refine tok_cons (snd_pi (C := RX8) (T := TX8) (N := 21) (ty0 := tyX8) dX8_sets_7 rfl (by decide) rfl wf8_95 inX8 tyX8_ok nmX8 (by decide +kernel) rfl rfl) ?_
  refine tok_cons (snd_aload_n dX8_sets_10 rfl rfl) ?_
  refine tok_cons (snd_iconst dX8_sets_11 rfl (inr_d rfl) rfl) ?_
  refine tok_cons (snd_pi (C := RX8) (T := TX8) (N := 21) (ty0 := tyX8) dX8_sets_12 rfl (by decide) rfl wf8_111 inX8 tyX8_ok nmX8 (by decide +kernel) rfl rfl) ?_
  refine tok_cons (snd_aload_n dX8_sets_15 rfl rfl) ?_
  refine tok_cons (snd_gr (C := RX8) (T := TX8) (N := 21) dX8_sets_16 rfl (by decide) rfl wf8_53 inX8 rfl) ?_
  refine tok_cons (snd_iconst dX8_sets_19 rfl (inr_d rfl) rfl) ?_
  refine tok_cons (snd_iconst dX8_sets_20 rfl (inr_d rfl) rfl) ?_
  refine tok_cons (snd_iast dX8_sets_21 rfl) ?_
  refine tok_cons (snd_aload_n dX8_sets_22 rfl rfl) ?_
  refine tok_cons (snd_gr (C := RX8) (T := TX8) (N := 21) dX8_sets_23 rfl (by decide) rfl wf8_53 inX8 rfl) ?_
  refine tok_cons (snd_iconst dX8_sets_26 rfl (inr_d rfl) rfl) ?_
  refine tok_cons (snd_iconst dX8_sets_27 rfl (inr_d rfl) rfl) ?_
  refine tok_cons (snd_iast dX8_sets_28 rfl) ?_
  refine tok_cons (snd_aload_n dX8_sets_29 rfl rfl) ?_
  refine tok_cons (snd_gr (C := RX8) (T := TX8) (N := 21) dX8_sets_30 rfl (by decide) rfl wf8_50 inX8 rfl) ?_
  refine tok_cons (snd_iconst dX8_sets_33 rfl (inr_d rfl) rfl) ?_
  refine tok_cons (snd_iconst dX8_sets_34 rfl (inr_d rfl) rfl) ?_
  refine tok_cons (snd_iast dX8_sets_35 rfl) ?_
  refine tok_cons (snd_aload_n dX8_sets_36 rfl rfl) ?_
  refine tok_cons (snd_gr (C := RX8) (T := TX8) (N := 21) dX8_sets_37 rfl (by decide) rfl wf8_50 inX8 rfl) ?_
  refine tok_cons (snd_iconst dX8_sets_40 rfl (inr_d rfl) rfl) ?_
  refine tok_cons (snd_iconst dX8_sets_41 rfl (inr_d rfl) rfl) ?_
  refine tok_cons (snd_iast dX8_sets_42 rfl) ?_
  refine tok_cons (snd_aload_n dX8_sets_43 rfl rfl) ?_
  refine tok_cons (snd_gr (C := RX8) (T := TX8) (N := 21) dX8_sets_44 rfl (by decide) rfl wf8_7 inX8 rfl) ?_
  refine tok_cons (snd_iconst dX8_sets_47 rfl (inr_d rfl) rfl) ?_
  refine tok_cons (snd_iald dX8_sets_48 rfl) ?_
  refine tok_cons (snd_if_le dX8_sets_49 (by decide) rfl) ?_
  refine tok_cons (snd_iconst dX8_sets_52 rfl (inr_d rfl) rfl) ?_
  refine tok_cons (snd_goto dX8_sets_53 (by decide)) ?_
  refine tok_cons (snd_iconst dX8_sets_56 rfl (inr_d rfl) rfl) ?_
  refine tok_cons (snd_istore_n dX8_sets_57 rfl rfl (by decide)) ?_
  refine tok_cons (snd_iload_n dX8_sets_58 rfl rfl) ?_
  refine tok_cons (snd_if_eq dX8_sets_59 (by decide) rfl) ?_
  refine tok_cons (snd_aload_n dX8_sets_62 rfl rfl) ?_
  refine tok_cons (snd_gr (C := RX8) (T := TX8) (N := 21) dX8_sets_63 rfl (by decide) rfl wf8_34 inX8 rfl) ?_
  refine tok_cons (snd_aload_n dX8_sets_66 rfl rfl) ?_
  refine tok_cons (snd_gi (C := RX8) (T := TX8) (N := 21) dX8_sets_67 rfl (by decide) rfl wf8_98 inX8 rfl rfl) ?_
  refine tok_cons (snd_aload_n dX8_sets_70 rfl rfl) ?_
  refine tok_cons (snd_gi (C := RX8) (T := TX8) (N := 21) dX8_sets_71 rfl (by decide) rfl wf8_95 inX8 rfl rfl) ?_
  refine tok_cons (snd_iast dX8_sets_74 rfl) ?_
  refine tok_cons (snd_aload_n dX8_sets_75 rfl rfl) ?_
  refine tok_cons (snd_gr (C := RX8) (T := TX8) (N := 21) dX8_sets_76 rfl (by decide) rfl wf8_37 inX8 rfl) ?_
  refine tok_cons (snd_aload_n dX8_sets_79 rfl rfl) ?_
  refine tok_cons (snd_gi (C := RX8) (T := TX8) (N := 21) dX8_sets_80 rfl (by decide) rfl wf8_98 inX8 rfl rfl) ?_
  refine tok_cons (snd_iconst dX8_sets_83 rfl (inr_d rfl) rfl) ?_
  refine tok_cons (snd_bast dX8_sets_84 rfl) ?_
  refine tok_cons (snd_iconst dX8_sets_85 rfl (inr_d rfl) rfl) ?_
  refine tok_cons (snd_istore_n dX8_sets_86 rfl rfl (by decide)) ?_
  refine tok_cons (snd_iload_n dX8_sets_87 rfl rfl) ?_
  refine tok_cons (snd_if_eq dX8_sets_88 (by decide) rfl) ?_
  refine tok_cons (snd_aload_n dX8_sets_91 rfl rfl) ?_
  refine tok_cons (snd_cv dX8_sets_92 mok_8_goesOn ⟨wm8_141, wi_8_goesOn, wl_8_goesOn⟩ (rc := (RX8, TX8, 21)) rfl rfl pn_8_goesOn (by decide) ⟨rfl, rfl⟩ rfl) ?_
  refine tok_cons (snd_istore_n dX8_sets_95 rfl rfl (by decide)) ?_
  refine tok_cons (snd_goto dX8_sets_96 (by decide)) ?_
  refine tok_cons (snd_aload_n dX8_sets_99 rfl rfl) ?_
  refine tok_cons (snd_iconst dX8_sets_100 rfl (inr_d rfl) rfl) ?_
  refine tok_cons (snd_cn dX8_sets_101 mok_8_closes ⟨wm8_144, wi_8_closes, wl_8_closes⟩ (rc := (RX8, TX8, 21)) rfl rfl pn_8_closes (by decide) ⟨rfl, rfl⟩ rfl) ?_
  refine tok_cons (snd_aload_n dX8_sets_104 rfl rfl) ?_
  refine tok_cons (snd_iconst dX8_sets_105 rfl (inr_d rfl) rfl) ?_
  refine tok_cons (snd_cn dX8_sets_106 mok_8_closes ⟨wm8_144, wi_8_closes, wl_8_closes⟩ (rc := (RX8, TX8, 21)) rfl rfl pn_8_closes (by decide) ⟨rfl, rfl⟩ rfl) ?_
  refine tok_cons (snd_aload_n dX8_sets_109 rfl rfl) ?_
  refine tok_cons (snd_dup dX8_sets_110 rfl) ?_
  refine tok_cons (snd_gi (C := RX8) (T := TX8) (N := 21) dX8_sets_111 rfl (by decide) rfl wf8_98 inX8 rfl rfl) ?_
  refine tok_cons (snd_iconst dX8_sets_114 rfl (inr_d rfl) rfl) ?_
  refine tok_cons (snd_add dX8_sets_115 rfl) ?_
  refine tok_cons (snd_pi (C := RX8) (T := TX8) (N := 21) (ty0 := tyX8) dX8_sets_116 rfl (by decide) rfl wf8_98 inX8 tyX8_ok nmX8 (by decide +kernel) rfl rfl) ?_
  refine tok_cons (snd_aload_n dX8_sets_119 rfl rfl) ?_
  refine tok_cons (snd_gi (C := RX8) (T := TX8) (N := 21) dX8_sets_120 rfl (by decide) rfl wf8_111 inX8 rfl rfl) ?_
  refine tok_cons (snd_aload_n dX8_sets_123 rfl rfl) ?_
  refine tok_cons (snd_gr (C := RX8) (T := TX8) (N := 21) dX8_sets_124 rfl (by decide) rfl wf8_7 inX8 rfl) ?_
  refine tok_cons (snd_iconst dX8_sets_127 rfl (inr_d rfl) rfl) ?_
  refine tok_cons (snd_iald dX8_sets_128 rfl) ?_
  refine tok_cons (snd_icmp_lt dX8_sets_129 (by decide) rfl) ?_
  refine tok_cons (snd_aload_n dX8_sets_132 rfl rfl) ?_
  refine tok_cons (snd_gr (C := RX8) (T := TX8) (N := 21) dX8_sets_133 rfl (by decide) rfl wf8_47 inX8 rfl) ?_
  refine tok_cons (snd_iconst dX8_sets_136 rfl (inr_d rfl) rfl) ?_
  refine tok_cons (snd_aload_n dX8_sets_137 rfl rfl) ?_
  refine tok_cons (snd_gi (C := RX8) (T := TX8) (N := 21) dX8_sets_138 rfl (by decide) rfl wf8_98 inX8 rfl rfl) ?_
  refine tok_cons (snd_mul dX8_sets_141 rfl) ?_
  refine tok_cons (snd_iconst dX8_sets_142 rfl (inr_d rfl) rfl) ?_
  refine tok_cons (snd_sub dX8_sets_143 rfl) ?_
  refine tok_cons (snd_iald dX8_sets_144 rfl) ?_
  refine tok_cons (snd_if_gt dX8_sets_145 (by decide) rfl) ?_
  refine tok_cons (snd_aload_n dX8_sets_148 rfl rfl) ?_
  refine tok_cons (snd_gr (C := RX8) (T := TX8) (N := 21) dX8_sets_149 rfl (by decide) rfl wf8_47 inX8 rfl) ?_
  refine tok_cons (snd_iconst dX8_sets_152 rfl (inr_d rfl) rfl) ?_
  refine tok_cons (snd_aload_n dX8_sets_153 rfl rfl) ?_
  refine tok_cons (snd_gi (C := RX8) (T := TX8) (N := 21) dX8_sets_154 rfl (by decide) rfl wf8_98 inX8 rfl rfl) ?_
  refine tok_cons (snd_mul dX8_sets_157 rfl) ?_
  refine tok_cons (snd_iconst dX8_sets_158 rfl (inr_d rfl) rfl) ?_
  refine tok_cons (snd_sub dX8_sets_159 rfl) ?_
  refine tok_cons (snd_iald dX8_sets_160 rfl) ?_
  refine tok_cons (snd_if_le dX8_sets_161 (by decide) rfl) ?_
  refine tok_cons (snd_iconst dX8_sets_164 rfl (inr_d rfl) rfl) ?_
  refine tok_cons (snd_goto dX8_sets_165 (by decide)) ?_
  refine tok_cons (snd_iconst dX8_sets_168 rfl (inr_d rfl) rfl) ?_
  refine tok_cons (snd_istore_n dX8_sets_169 rfl rfl (by decide)) ?_
  refine tok_cons (snd_goto dX8_sets_170 (by decide)) ?_
  refine tok_cons (snd_aload_n dX8_sets_173 rfl rfl) ?_
  refine tok_cons (snd_gr (C := RX8) (T := TX8) (N := 21) dX8_sets_174 rfl (by decide) rfl wf8_34 inX8 rfl) ?_
  refine tok_cons (snd_aload_n dX8_sets_177 rfl rfl) ?_
  refine tok_cons (snd_gi (C := RX8) (T := TX8) (N := 21) dX8_sets_178 rfl (by decide) rfl wf8_98 inX8 rfl rfl) ?_
  refine tok_cons (snd_aload_n dX8_sets_181 rfl rfl) ?_
  refine tok_cons (snd_gi (C := RX8) (T := TX8) (N := 21) dX8_sets_182 rfl (by decide) rfl wf8_95 inX8 rfl rfl) ?_
  refine tok_cons (snd_iast dX8_sets_185 rfl) ?_
  refine tok_cons (snd_ret dX8_sets_186 rfl) ?_
  exact tok_nil
def tab_8_isSpread (X : XT) : Tab := [(0, false, a_aload 0 1), (1, false, a_cn X M_8_isSpread M_8_sets 8 1 4), (4, false, a_iload 1 5), (5, false, a_const 0 6), (6, false, a_aload 0 7), (7, false, a_gi 8 10 10 10), (10, false, a_const 1 11), (11, false, a_sub 12), (12, false, a_sv X M_8_isSpread M_8_in 3 15), (15, false, a_zret M_8_isSpread)]
set_option maxRecDepth 20000 in
theorem t_8_isSpread (X : XT) : tget (tab_8_isSpread X) 0 = some (false, a_aload 0 1) ∧ tget (tab_8_isSpread X) 1 = some (false, a_cn X M_8_isSpread M_8_sets 8 1 4) ∧ tget (tab_8_isSpread X) 4 = some (false, a_iload 1 5) ∧ tget (tab_8_isSpread X) 5 = some (false, a_const 0 6) ∧ tget (tab_8_isSpread X) 6 = some (false, a_aload 0 7) ∧ tget (tab_8_isSpread X) 7 = some (false, a_gi 8 10 10 10) ∧ tget (tab_8_isSpread X) 10 = some (false, a_const 1 11) ∧ tget (tab_8_isSpread X) 11 = some (false, a_sub 12) ∧ tget (tab_8_isSpread X) 12 = some (false, a_sv X M_8_isSpread M_8_in 3 15) ∧ tget (tab_8_isSpread X) 15 = some (false, a_zret M_8_isSpread) := ⟨rfl, rfl, rfl, rfl, rfl, rfl, rfl, rfl, rfl, rfl⟩
theorem tok_8_isSpread (X : XT) : TabOK X M_8_isSpread (tab_8_isSpread X) := by
  unfold tab_8_isSpread
  refine tok_cons (snd_aload_n dX8_isSpread_0 rfl rfl) ?_
  refine tok_cons (snd_cn dX8_isSpread_1 mok_8_sets ⟨wm8_148, wi_8_sets, wl_8_sets⟩ (rc := (RX8, TX8, 21)) rfl rfl pn_8_sets (by decide) ⟨rfl, rfl⟩ rfl) ?_
  refine tok_cons (snd_iload_n dX8_isSpread_4 rfl rfl) ?_
  refine tok_cons (snd_iconst dX8_isSpread_5 rfl (inr_d rfl) rfl) ?_
  refine tok_cons (snd_aload_n dX8_isSpread_6 rfl rfl) ?_
  refine tok_cons (snd_gi (C := RX8) (T := TX8) (N := 21) dX8_isSpread_7 rfl (by decide) rfl wf8_98 inX8 rfl rfl) ?_
  refine tok_cons (snd_iconst dX8_isSpread_10 rfl (inr_d rfl) rfl) ?_
  refine tok_cons (snd_sub dX8_isSpread_11 rfl) ?_
  refine tok_cons (snd_sv dX8_isSpread_12 mok_8_in ⟨ws_8_in, Or.inl ⟨wm8_62, rfl⟩⟩ pn_8_in (by decide) ⟨rfl, rfl⟩ rfl) ?_
  refine tok_cons (snd_zret dX8_isSpread_15 rfl) ?_
  exact tok_nil
def tab_8_spreadCount (X : XT) : Tab := [(0, false, a_aload 0 1), (1, false, a_cn X M_8_spreadCount M_8_sets 8 1 4), (4, false, a_aload 0 5), (5, false, a_gi 8 10 10 8), (8, false, a_iret M_8_spreadCount)]
set_option maxRecDepth 20000 in
theorem t_8_spreadCount (X : XT) : tget (tab_8_spreadCount X) 0 = some (false, a_aload 0 1) ∧ tget (tab_8_spreadCount X) 1 = some (false, a_cn X M_8_spreadCount M_8_sets 8 1 4) ∧ tget (tab_8_spreadCount X) 4 = some (false, a_aload 0 5) ∧ tget (tab_8_spreadCount X) 5 = some (false, a_gi 8 10 10 8) ∧ tget (tab_8_spreadCount X) 8 = some (false, a_iret M_8_spreadCount) := ⟨rfl, rfl, rfl, rfl, rfl⟩
theorem tok_8_spreadCount (X : XT) : TabOK X M_8_spreadCount (tab_8_spreadCount X) := by
  unfold tab_8_spreadCount
  refine tok_cons (snd_aload_n dX8_spreadCount_0 rfl rfl) ?_
  refine tok_cons (snd_cn dX8_spreadCount_1 mok_8_sets ⟨wm8_148, wi_8_sets, wl_8_sets⟩ (rc := (RX8, TX8, 21)) rfl rfl pn_8_sets (by decide) ⟨rfl, rfl⟩ rfl) ?_
  refine tok_cons (snd_aload_n dX8_spreadCount_4 rfl rfl) ?_
  refine tok_cons (snd_gi (C := RX8) (T := TX8) (N := 21) dX8_spreadCount_5 rfl (by decide) rfl wf8_98 inX8 rfl rfl) ?_
  refine tok_cons (snd_iret dX8_spreadCount_8 rfl) ?_
  exact tok_nil
def tab_8_spreadOf (X : XT) : Tab := [(0, false, a_aload 0 1), (1, false, a_iload 1 2), (2, false, a_iload 2 3), (3, false, a_iload 3 4), (4, false, a_cv X M_8_spreadOf M_8_isLine 8 4 7), (7, false, a_if 1 12 10), (10, false, a_const (-1) 11), (11, false, a_iret M_8_spreadOf), (12, false, a_aload 0 13), (13, false, a_cn X M_8_spreadOf M_8_sets 8 1 16), (16, false, a_aload 0 17), (17, false, a_iload 1 18), (18, false, a_iload 2 19), (19, false, a_iload 3 20), (20, false, a_cv X M_8_spreadOf M_8_segmentOf 8 4 23), (23, false, a_istore 4 25), (25, false, a_const 0 26), (26, false, a_istore 5 28), (28, true, a_aload 0 29), (29, false, a_gr 8 11 32), (32, false, a_iload 5 34), (34, false, a_const 1 35), (35, false, a_add 36), (36, false, a_ald false 37), (37, false, a_iload 4 39), (39, false, a_icmp 4 48 42), (42, false, a_iinc 5 1 45), (45, false, a_goto 28), (48, false, a_iload 5 50), (50, false, a_iret M_8_spreadOf)]
set_option maxRecDepth 20000 in
theorem t_8_spreadOf (X : XT) : tget (tab_8_spreadOf X) 0 = some (false, a_aload 0 1) ∧ tget (tab_8_spreadOf X) 1 = some (false, a_iload 1 2) ∧ tget (tab_8_spreadOf X) 2 = some (false, a_iload 2 3) ∧ tget (tab_8_spreadOf X) 3 = some (false, a_iload 3 4) ∧ tget (tab_8_spreadOf X) 4 = some (false, a_cv X M_8_spreadOf M_8_isLine 8 4 7) ∧ tget (tab_8_spreadOf X) 7 = some (false, a_if 1 12 10) ∧ tget (tab_8_spreadOf X) 10 = some (false, a_const (-1) 11) ∧ tget (tab_8_spreadOf X) 11 = some (false, a_iret M_8_spreadOf) ∧ tget (tab_8_spreadOf X) 12 = some (false, a_aload 0 13) ∧ tget (tab_8_spreadOf X) 13 = some (false, a_cn X M_8_spreadOf M_8_sets 8 1 16) ∧ tget (tab_8_spreadOf X) 16 = some (false, a_aload 0 17) ∧ tget (tab_8_spreadOf X) 17 = some (false, a_iload 1 18) ∧ tget (tab_8_spreadOf X) 18 = some (false, a_iload 2 19) ∧ tget (tab_8_spreadOf X) 19 = some (false, a_iload 3 20) ∧ tget (tab_8_spreadOf X) 20 = some (false, a_cv X M_8_spreadOf M_8_segmentOf 8 4 23) ∧ tget (tab_8_spreadOf X) 23 = some (false, a_istore 4 25) ∧ tget (tab_8_spreadOf X) 25 = some (false, a_const 0 26) ∧ tget (tab_8_spreadOf X) 26 = some (false, a_istore 5 28) ∧ tget (tab_8_spreadOf X) 28 = some (true, a_aload 0 29) ∧ tget (tab_8_spreadOf X) 29 = some (false, a_gr 8 11 32) ∧ tget (tab_8_spreadOf X) 32 = some (false, a_iload 5 34) ∧ tget (tab_8_spreadOf X) 34 = some (false, a_const 1 35) ∧ tget (tab_8_spreadOf X) 35 = some (false, a_add 36) ∧ tget (tab_8_spreadOf X) 36 = some (false, a_ald false 37) ∧ tget (tab_8_spreadOf X) 37 = some (false, a_iload 4 39) ∧ tget (tab_8_spreadOf X) 39 = some (false, a_icmp 4 48 42) ∧ tget (tab_8_spreadOf X) 42 = some (false, a_iinc 5 1 45) ∧ tget (tab_8_spreadOf X) 45 = some (false, a_goto 28) ∧ tget (tab_8_spreadOf X) 48 = some (false, a_iload 5 50) ∧ tget (tab_8_spreadOf X) 50 = some (false, a_iret M_8_spreadOf) := ⟨rfl, rfl, rfl, rfl, rfl, rfl, rfl, rfl, rfl, rfl, rfl, rfl, rfl, rfl, rfl, rfl, rfl, rfl, rfl, rfl, rfl, rfl, rfl, rfl, rfl, rfl, rfl, rfl, rfl, rfl⟩
theorem tok_8_spreadOf (X : XT) : TabOK X M_8_spreadOf (tab_8_spreadOf X) := by
  unfold tab_8_spreadOf
  refine tok_cons (snd_aload_n dX8_spreadOf_0 rfl rfl) ?_
  refine tok_cons (snd_iload_n dX8_spreadOf_1 rfl rfl) ?_
  refine tok_cons (snd_iload_n dX8_spreadOf_2 rfl rfl) ?_
  refine tok_cons (snd_iload_n dX8_spreadOf_3 rfl rfl) ?_
  refine tok_cons (snd_cv dX8_spreadOf_4 mok_8_isLine ⟨wm8_88, wi_8_isLine, wl_8_isLine⟩ (rc := (RX8, TX8, 21)) rfl rfl pn_8_isLine (by decide) ⟨rfl, rfl⟩ rfl) ?_
  refine tok_cons (snd_if_ne dX8_spreadOf_7 (by decide) rfl) ?_
  refine tok_cons (snd_iconst dX8_spreadOf_10 rfl (inr_d rfl) rfl) ?_
  refine tok_cons (snd_iret dX8_spreadOf_11 rfl) ?_
  refine tok_cons (snd_aload_n dX8_spreadOf_12 rfl rfl) ?_
  refine tok_cons (snd_cn dX8_spreadOf_13 mok_8_sets ⟨wm8_148, wi_8_sets, wl_8_sets⟩ (rc := (RX8, TX8, 21)) rfl rfl pn_8_sets (by decide) ⟨rfl, rfl⟩ rfl) ?_
  refine tok_cons (snd_aload_n dX8_spreadOf_16 rfl rfl) ?_
  refine tok_cons (snd_iload_n dX8_spreadOf_17 rfl rfl) ?_
  refine tok_cons (snd_iload_n dX8_spreadOf_18 rfl rfl) ?_
  refine tok_cons (snd_iload_n dX8_spreadOf_19 rfl rfl) ?_
  refine tok_cons (snd_cv dX8_spreadOf_20 mok_8_segmentOf ⟨wm8_157, wi_8_segmentOf, wl_8_segmentOf⟩ (rc := (RX8, TX8, 21)) rfl rfl pn_8_segmentOf (by decide) ⟨rfl, rfl⟩ rfl) ?_
  refine tok_cons (snd_istore dX8_spreadOf_23 rfl (by decide)) ?_
  refine tok_cons (snd_iconst dX8_spreadOf_25 rfl (inr_d rfl) rfl) ?_
  refine tok_cons (snd_istore dX8_spreadOf_26 rfl (by decide)) ?_
  refine tok_cons (snd_aload_n dX8_spreadOf_28 rfl rfl) ?_
  refine tok_cons (snd_gr (C := RX8) (T := TX8) (N := 21) dX8_spreadOf_29 rfl (by decide) rfl wf8_34 inX8 rfl) ?_
  refine tok_cons (snd_iload dX8_spreadOf_32 rfl) ?_
  refine tok_cons (snd_iconst dX8_spreadOf_34 rfl (inr_d rfl) rfl) ?_
  refine tok_cons (snd_add dX8_spreadOf_35 rfl) ?_
  refine tok_cons (snd_iald dX8_spreadOf_36 rfl) ?_
  refine tok_cons (snd_iload dX8_spreadOf_37 rfl) ?_
  refine tok_cons (snd_icmp_gt dX8_spreadOf_39 (by decide) rfl) ?_
  refine tok_cons (snd_iinc dX8_spreadOf_42 rfl rfl (by decide)) ?_
  refine tok_cons (snd_goto dX8_spreadOf_45 (by decide)) ?_
  refine tok_cons (snd_iload dX8_spreadOf_48 rfl) ?_
  refine tok_cons (snd_iret dX8_spreadOf_50 rfl) ?_
  exact tok_nil
def tab_8_rowOf (X : XT) : Tab := [(0, false, a_aload 0 1), (1, false, a_iload 1 2), (2, false, a_iload 2 3), (3, false, a_iload 3 4), (4, false, a_cv X M_8_rowOf M_8_isLine 8 4 7), (7, false, a_if 1 12 10), (10, false, a_const (-1) 11), (11, false, a_iret M_8_rowOf), (12, false, a_aload 0 13), (13, false, a_cn X M_8_rowOf M_8_sets 8 1 16), (16, false, a_aload 0 17), (17, false, a_iload 1 18), (18, false, a_iload 2 19), (19, false, a_iload 3 20), (20, false, a_cv X M_8_rowOf M_8_segmentOf 8 4 23), (23, false, a_istore 4 25), (25, false, a_aload 0 26), (26, false, a_gr 8 9 29), (29, false, a_const 2 30), (30, false, a_iload 4 32), (32, false, a_mul 33), (33, false, a_iload 2 34), (34, false, a_add 35), (35, false, a_ald false 36), (36, false, a_iload 3 37), (37, false, a_add 38), (38, false, a_aload 0 39), (39, false, a_gr 8 7 42), (42, false, a_const 2 43), (43, false, a_iload 4 45), (45, false, a_mul 46), (46, false, a_iload 2 47), (47, false, a_add 48), (48, false, a_ald false 49), (49, false, a_sub 50), (50, false, a_iret M_8_rowOf)]
set_option maxRecDepth 20000 in
theorem t_8_rowOf (X : XT) : tget (tab_8_rowOf X) 0 = some (false, a_aload 0 1) ∧ tget (tab_8_rowOf X) 1 = some (false, a_iload 1 2) ∧ tget (tab_8_rowOf X) 2 = some (false, a_iload 2 3) ∧ tget (tab_8_rowOf X) 3 = some (false, a_iload 3 4) ∧ tget (tab_8_rowOf X) 4 = some (false, a_cv X M_8_rowOf M_8_isLine 8 4 7) ∧ tget (tab_8_rowOf X) 7 = some (false, a_if 1 12 10) ∧ tget (tab_8_rowOf X) 10 = some (false, a_const (-1) 11) ∧ tget (tab_8_rowOf X) 11 = some (false, a_iret M_8_rowOf) ∧ tget (tab_8_rowOf X) 12 = some (false, a_aload 0 13) ∧ tget (tab_8_rowOf X) 13 = some (false, a_cn X M_8_rowOf M_8_sets 8 1 16) ∧ tget (tab_8_rowOf X) 16 = some (false, a_aload 0 17) ∧ tget (tab_8_rowOf X) 17 = some (false, a_iload 1 18) ∧ tget (tab_8_rowOf X) 18 = some (false, a_iload 2 19) ∧ tget (tab_8_rowOf X) 19 = some (false, a_iload 3 20) ∧ tget (tab_8_rowOf X) 20 = some (false, a_cv X M_8_rowOf M_8_segmentOf 8 4 23) ∧ tget (tab_8_rowOf X) 23 = some (false, a_istore 4 25) ∧ tget (tab_8_rowOf X) 25 = some (false, a_aload 0 26) ∧ tget (tab_8_rowOf X) 26 = some (false, a_gr 8 9 29) ∧ tget (tab_8_rowOf X) 29 = some (false, a_const 2 30) ∧ tget (tab_8_rowOf X) 30 = some (false, a_iload 4 32) ∧ tget (tab_8_rowOf X) 32 = some (false, a_mul 33) ∧ tget (tab_8_rowOf X) 33 = some (false, a_iload 2 34) ∧ tget (tab_8_rowOf X) 34 = some (false, a_add 35) ∧ tget (tab_8_rowOf X) 35 = some (false, a_ald false 36) ∧ tget (tab_8_rowOf X) 36 = some (false, a_iload 3 37) ∧ tget (tab_8_rowOf X) 37 = some (false, a_add 38) ∧ tget (tab_8_rowOf X) 38 = some (false, a_aload 0 39) ∧ tget (tab_8_rowOf X) 39 = some (false, a_gr 8 7 42) ∧ tget (tab_8_rowOf X) 42 = some (false, a_const 2 43) ∧ tget (tab_8_rowOf X) 43 = some (false, a_iload 4 45) ∧ tget (tab_8_rowOf X) 45 = some (false, a_mul 46) ∧ tget (tab_8_rowOf X) 46 = some (false, a_iload 2 47) ∧ tget (tab_8_rowOf X) 47 = some (false, a_add 48) ∧ tget (tab_8_rowOf X) 48 = some (false, a_ald false 49) ∧ tget (tab_8_rowOf X) 49 = some (false, a_sub 50) ∧ tget (tab_8_rowOf X) 50 = some (false, a_iret M_8_rowOf) := ⟨rfl, rfl, rfl, rfl, rfl, rfl, rfl, rfl, rfl, rfl, rfl, rfl, rfl, rfl, rfl, rfl, rfl, rfl, rfl, rfl, rfl, rfl, rfl, rfl, rfl, rfl, rfl, rfl, rfl, rfl, rfl, rfl, rfl, rfl, rfl, rfl⟩
theorem tok_8_rowOf (X : XT) : TabOK X M_8_rowOf (tab_8_rowOf X) := by
  unfold tab_8_rowOf
  refine tok_cons (snd_aload_n dX8_rowOf_0 rfl rfl) ?_
  refine tok_cons (snd_iload_n dX8_rowOf_1 rfl rfl) ?_
  refine tok_cons (snd_iload_n dX8_rowOf_2 rfl rfl) ?_
  refine tok_cons (snd_iload_n dX8_rowOf_3 rfl rfl) ?_
  refine tok_cons (snd_cv dX8_rowOf_4 mok_8_isLine ⟨wm8_88, wi_8_isLine, wl_8_isLine⟩ (rc := (RX8, TX8, 21)) rfl rfl pn_8_isLine (by decide) ⟨rfl, rfl⟩ rfl) ?_
  refine tok_cons (snd_if_ne dX8_rowOf_7 (by decide) rfl) ?_
  refine tok_cons (snd_iconst dX8_rowOf_10 rfl (inr_d rfl) rfl) ?_
  refine tok_cons (snd_iret dX8_rowOf_11 rfl) ?_
  refine tok_cons (snd_aload_n dX8_rowOf_12 rfl rfl) ?_
  refine tok_cons (snd_cn dX8_rowOf_13 mok_8_sets ⟨wm8_148, wi_8_sets, wl_8_sets⟩ (rc := (RX8, TX8, 21)) rfl rfl pn_8_sets (by decide) ⟨rfl, rfl⟩ rfl) ?_
  refine tok_cons (snd_aload_n dX8_rowOf_16 rfl rfl) ?_
  refine tok_cons (snd_iload_n dX8_rowOf_17 rfl rfl) ?_
  refine tok_cons (snd_iload_n dX8_rowOf_18 rfl rfl) ?_
  refine tok_cons (snd_iload_n dX8_rowOf_19 rfl rfl) ?_
  refine tok_cons (snd_cv dX8_rowOf_20 mok_8_segmentOf ⟨wm8_157, wi_8_segmentOf, wl_8_segmentOf⟩ (rc := (RX8, TX8, 21)) rfl rfl pn_8_segmentOf (by decide) ⟨rfl, rfl⟩ rfl) ?_
  refine tok_cons (snd_istore dX8_rowOf_23 rfl (by decide)) ?_
  refine tok_cons (snd_aload_n dX8_rowOf_25 rfl rfl) ?_
  refine tok_cons (snd_gr (C := RX8) (T := TX8) (N := 21) dX8_rowOf_26 rfl (by decide) rfl wf8_31 inX8 rfl) ?_
  refine tok_cons (snd_iconst dX8_rowOf_29 rfl (inr_d rfl) rfl) ?_
  refine tok_cons (snd_iload dX8_rowOf_30 rfl) ?_
  refine tok_cons (snd_mul dX8_rowOf_32 rfl) ?_
  refine tok_cons (snd_iload_n dX8_rowOf_33 rfl rfl) ?_
  refine tok_cons (snd_add dX8_rowOf_34 rfl) ?_
  refine tok_cons (snd_iald dX8_rowOf_35 rfl) ?_
  refine tok_cons (snd_iload_n dX8_rowOf_36 rfl rfl) ?_
  refine tok_cons (snd_add dX8_rowOf_37 rfl) ?_
  refine tok_cons (snd_aload_n dX8_rowOf_38 rfl rfl) ?_
  refine tok_cons (snd_gr (C := RX8) (T := TX8) (N := 21) dX8_rowOf_39 rfl (by decide) rfl wf8_25 inX8 rfl) ?_
  refine tok_cons (snd_iconst dX8_rowOf_42 rfl (inr_d rfl) rfl) ?_
  refine tok_cons (snd_iload dX8_rowOf_43 rfl) ?_
  refine tok_cons (snd_mul dX8_rowOf_45 rfl) ?_
  refine tok_cons (snd_iload_n dX8_rowOf_46 rfl rfl) ?_
  refine tok_cons (snd_add dX8_rowOf_47 rfl) ?_
  refine tok_cons (snd_iald dX8_rowOf_48 rfl) ?_
  refine tok_cons (snd_sub dX8_rowOf_49 rfl) ?_
  refine tok_cons (snd_iret dX8_rowOf_50 rfl) ?_
  exact tok_nil
def tab_8_cost (X : XT) : Tab := [(0, false, a_aload 0 1), (1, false, a_cn X M_8_cost M_8_sets 8 1 4), (4, false, a_const 0 5), (5, false, a_istore 1 6), (6, false, a_const 0 7), (7, false, a_istore 2 8), (8, true, a_iload 2 9), (9, false, a_const 2 10), (10, false, a_aload 0 11), (11, false, a_gi 8 10 10 14), (14, false, a_mul 15), (15, false, a_const 2 16), (16, false, a_sub 17), (17, false, a_icmp 3 40 20), (20, false, a_iload 1 21), (21, false, a_aload 0 22), (22, false, a_iload 2 23), (23, false, a_cv X M_8_cost M_8_blank 8 2 26), (26, false, a_aload 0 27), (27, false, a_iload 2 28), (28, false, a_cv X M_8_cost M_8_blank 8 2 31), (31, false, a_mul 32), (32, false, a_add 33), (33, false, a_istore 1 34), (34, false, a_iinc 2 1 37), (37, false, a_goto 8), (40, false, a_iload 1 41), (41, false, a_iret M_8_cost)]
set_option maxRecDepth 20000 in
theorem t_8_cost (X : XT) : tget (tab_8_cost X) 0 = some (false, a_aload 0 1) ∧ tget (tab_8_cost X) 1 = some (false, a_cn X M_8_cost M_8_sets 8 1 4) ∧ tget (tab_8_cost X) 4 = some (false, a_const 0 5) ∧ tget (tab_8_cost X) 5 = some (false, a_istore 1 6) ∧ tget (tab_8_cost X) 6 = some (false, a_const 0 7) ∧ tget (tab_8_cost X) 7 = some (false, a_istore 2 8) ∧ tget (tab_8_cost X) 8 = some (true, a_iload 2 9) ∧ tget (tab_8_cost X) 9 = some (false, a_const 2 10) ∧ tget (tab_8_cost X) 10 = some (false, a_aload 0 11) ∧ tget (tab_8_cost X) 11 = some (false, a_gi 8 10 10 14) ∧ tget (tab_8_cost X) 14 = some (false, a_mul 15) ∧ tget (tab_8_cost X) 15 = some (false, a_const 2 16) ∧ tget (tab_8_cost X) 16 = some (false, a_sub 17) ∧ tget (tab_8_cost X) 17 = some (false, a_icmp 3 40 20) ∧ tget (tab_8_cost X) 20 = some (false, a_iload 1 21) ∧ tget (tab_8_cost X) 21 = some (false, a_aload 0 22) ∧ tget (tab_8_cost X) 22 = some (false, a_iload 2 23) ∧ tget (tab_8_cost X) 23 = some (false, a_cv X M_8_cost M_8_blank 8 2 26) ∧ tget (tab_8_cost X) 26 = some (false, a_aload 0 27) ∧ tget (tab_8_cost X) 27 = some (false, a_iload 2 28) ∧ tget (tab_8_cost X) 28 = some (false, a_cv X M_8_cost M_8_blank 8 2 31) ∧ tget (tab_8_cost X) 31 = some (false, a_mul 32) ∧ tget (tab_8_cost X) 32 = some (false, a_add 33) ∧ tget (tab_8_cost X) 33 = some (false, a_istore 1 34) ∧ tget (tab_8_cost X) 34 = some (false, a_iinc 2 1 37) ∧ tget (tab_8_cost X) 37 = some (false, a_goto 8) ∧ tget (tab_8_cost X) 40 = some (false, a_iload 1 41) ∧ tget (tab_8_cost X) 41 = some (false, a_iret M_8_cost) := ⟨rfl, rfl, rfl, rfl, rfl, rfl, rfl, rfl, rfl, rfl, rfl, rfl, rfl, rfl, rfl, rfl, rfl, rfl, rfl, rfl, rfl, rfl, rfl, rfl, rfl, rfl, rfl, rfl⟩
theorem tok_8_cost (X : XT) : TabOK X M_8_cost (tab_8_cost X) := by
  unfold tab_8_cost
  refine tok_cons (snd_aload_n dX8_cost_0 rfl rfl) ?_
  refine tok_cons (snd_cn dX8_cost_1 mok_8_sets ⟨wm8_148, wi_8_sets, wl_8_sets⟩ (rc := (RX8, TX8, 21)) rfl rfl pn_8_sets (by decide) ⟨rfl, rfl⟩ rfl) ?_
  refine tok_cons (snd_iconst dX8_cost_4 rfl (inr_d rfl) rfl) ?_
  refine tok_cons (snd_istore_n dX8_cost_5 rfl rfl (by decide)) ?_
  refine tok_cons (snd_iconst dX8_cost_6 rfl (inr_d rfl) rfl) ?_
  refine tok_cons (snd_istore_n dX8_cost_7 rfl rfl (by decide)) ?_
  refine tok_cons (snd_iload_n dX8_cost_8 rfl rfl) ?_
  refine tok_cons (snd_iconst dX8_cost_9 rfl (inr_d rfl) rfl) ?_
  refine tok_cons (snd_aload_n dX8_cost_10 rfl rfl) ?_
  refine tok_cons (snd_gi (C := RX8) (T := TX8) (N := 21) dX8_cost_11 rfl (by decide) rfl wf8_98 inX8 rfl rfl) ?_
  refine tok_cons (snd_mul dX8_cost_14 rfl) ?_
  refine tok_cons (snd_iconst dX8_cost_15 rfl (inr_d rfl) rfl) ?_
  refine tok_cons (snd_sub dX8_cost_16 rfl) ?_
  refine tok_cons (snd_icmp_ge dX8_cost_17 (by decide) rfl) ?_
  refine tok_cons (snd_iload_n dX8_cost_20 rfl rfl) ?_
  refine tok_cons (snd_aload_n dX8_cost_21 rfl rfl) ?_
  refine tok_cons (snd_iload_n dX8_cost_22 rfl rfl) ?_
  refine tok_cons (snd_cv dX8_cost_23 mok_8_blank ⟨wm8_154, wi_8_blank, wl_8_blank⟩ (rc := (RX8, TX8, 21)) rfl rfl pn_8_blank (by decide) ⟨rfl, rfl⟩ rfl) ?_
  refine tok_cons (snd_aload_n dX8_cost_26 rfl rfl) ?_
  refine tok_cons (snd_iload_n dX8_cost_27 rfl rfl) ?_
  refine tok_cons (snd_cv dX8_cost_28 mok_8_blank ⟨wm8_154, wi_8_blank, wl_8_blank⟩ (rc := (RX8, TX8, 21)) rfl rfl pn_8_blank (by decide) ⟨rfl, rfl⟩ rfl) ?_
  refine tok_cons (snd_mul dX8_cost_31 rfl) ?_
  refine tok_cons (snd_add dX8_cost_32 rfl) ?_
  refine tok_cons (snd_istore_n dX8_cost_33 rfl rfl (by decide)) ?_
  refine tok_cons (snd_iinc dX8_cost_34 rfl rfl (by decide)) ?_
  refine tok_cons (snd_goto dX8_cost_37 (by decide)) ?_
  refine tok_cons (snd_iload_n dX8_cost_40 rfl rfl) ?_
  refine tok_cons (snd_iret dX8_cost_41 rfl) ?_
  exact tok_nil
def tab_8_leastHeight (X : XT) : Tab := [(0, false, a_iload 1 1), (1, false, a_const 1 2), (2, false, a_const 40 4), (4, false, a_sv X M_8_leastHeight M_8_in 3 7), (7, false, a_if 1 12 10), (10, false, a_const (-1) 11), (11, false, a_iret M_8_leastHeight), (12, false, a_aload 0 13), (13, false, a_gr 8 0 16), (16, false, a_const 81 18), (18, false, a_ald false 19), (19, false, a_istore 2 20), (20, false, a_const (-4) 22), (22, false, a_istore 3 23), (23, false, a_const 8 25), (25, false, a_istore 4 27), (27, true, a_iload 4 29), (29, false, a_const 60 31), (31, false, a_icmp 4 74 34), (34, false, a_iload 3 35), (35, false, a_const (-4) 37), (37, false, a_icmp 1 74 40), (40, false, a_aload 0 41), (41, false, a_gr 8 0 44), (44, false, a_const 81 46), (46, false, a_iload 4 48), (48, false, a_ast false 49), (49, false, a_aload 0 50), (50, false, a_cn X M_8_leastHeight M_8_sets 8 1 53), (53, false, a_aload 0 54), (54, false, a_gi 8 10 10 57), (57, false, a_iload 1 58), (58, false, a_icmp 4 66 61), (61, false, a_iload 4 63), (63, false, a_goto 67), (66, false, a_iload 3 67), (67, false, a_istore 3 68), (68, false, a_iinc 4 1 71), (71, false, a_goto 27), (74, false, a_aload 0 75), (75, false, a_gr 8 0 78), (78, false, a_const 81 80), (80, false, a_iload 2 81), (81, false, a_ast false 82), (82, false, a_iload 3 83), (83, false, a_iret M_8_leastHeight)]
set_option maxRecDepth 20000 in
theorem t_8_leastHeight (X : XT) : tget (tab_8_leastHeight X) 0 = some (false, a_iload 1 1) ∧ tget (tab_8_leastHeight X) 1 = some (false, a_const 1 2) ∧ tget (tab_8_leastHeight X) 2 = some (false, a_const 40 4) ∧ tget (tab_8_leastHeight X) 4 = some (false, a_sv X M_8_leastHeight M_8_in 3 7) ∧ tget (tab_8_leastHeight X) 7 = some (false, a_if 1 12 10) ∧ tget (tab_8_leastHeight X) 10 = some (false, a_const (-1) 11) ∧ tget (tab_8_leastHeight X) 11 = some (false, a_iret M_8_leastHeight) ∧ tget (tab_8_leastHeight X) 12 = some (false, a_aload 0 13) ∧ tget (tab_8_leastHeight X) 13 = some (false, a_gr 8 0 16) ∧ tget (tab_8_leastHeight X) 16 = some (false, a_const 81 18) ∧ tget (tab_8_leastHeight X) 18 = some (false, a_ald false 19) ∧ tget (tab_8_leastHeight X) 19 = some (false, a_istore 2 20) ∧ tget (tab_8_leastHeight X) 20 = some (false, a_const (-4) 22) ∧ tget (tab_8_leastHeight X) 22 = some (false, a_istore 3 23) ∧ tget (tab_8_leastHeight X) 23 = some (false, a_const 8 25) ∧ tget (tab_8_leastHeight X) 25 = some (false, a_istore 4 27) ∧ tget (tab_8_leastHeight X) 27 = some (true, a_iload 4 29) ∧ tget (tab_8_leastHeight X) 29 = some (false, a_const 60 31) ∧ tget (tab_8_leastHeight X) 31 = some (false, a_icmp 4 74 34) ∧ tget (tab_8_leastHeight X) 34 = some (false, a_iload 3 35) ∧ tget (tab_8_leastHeight X) 35 = some (false, a_const (-4) 37) ∧ tget (tab_8_leastHeight X) 37 = some (false, a_icmp 1 74 40) ∧ tget (tab_8_leastHeight X) 40 = some (false, a_aload 0 41) ∧ tget (tab_8_leastHeight X) 41 = some (false, a_gr 8 0 44) ∧ tget (tab_8_leastHeight X) 44 = some (false, a_const 81 46) ∧ tget (tab_8_leastHeight X) 46 = some (false, a_iload 4 48) ∧ tget (tab_8_leastHeight X) 48 = some (false, a_ast false 49) ∧ tget (tab_8_leastHeight X) 49 = some (false, a_aload 0 50) ∧ tget (tab_8_leastHeight X) 50 = some (false, a_cn X M_8_leastHeight M_8_sets 8 1 53) ∧ tget (tab_8_leastHeight X) 53 = some (false, a_aload 0 54) ∧ tget (tab_8_leastHeight X) 54 = some (false, a_gi 8 10 10 57) ∧ tget (tab_8_leastHeight X) 57 = some (false, a_iload 1 58) ∧ tget (tab_8_leastHeight X) 58 = some (false, a_icmp 4 66 61) ∧ tget (tab_8_leastHeight X) 61 = some (false, a_iload 4 63) ∧ tget (tab_8_leastHeight X) 63 = some (false, a_goto 67) ∧ tget (tab_8_leastHeight X) 66 = some (false, a_iload 3 67) ∧ tget (tab_8_leastHeight X) 67 = some (false, a_istore 3 68) ∧ tget (tab_8_leastHeight X) 68 = some (false, a_iinc 4 1 71) ∧ tget (tab_8_leastHeight X) 71 = some (false, a_goto 27) ∧ tget (tab_8_leastHeight X) 74 = some (false, a_aload 0 75) ∧ tget (tab_8_leastHeight X) 75 = some (false, a_gr 8 0 78) ∧ tget (tab_8_leastHeight X) 78 = some (false, a_const 81 80) ∧ tget (tab_8_leastHeight X) 80 = some (false, a_iload 2 81) ∧ tget (tab_8_leastHeight X) 81 = some (false, a_ast false 82) ∧ tget (tab_8_leastHeight X) 82 = some (false, a_iload 3 83) ∧ tget (tab_8_leastHeight X) 83 = some (false, a_iret M_8_leastHeight) := ⟨rfl, rfl, rfl, rfl, rfl, rfl, rfl, rfl, rfl, rfl, rfl, rfl, rfl, rfl, rfl, rfl, rfl, rfl, rfl, rfl, rfl, rfl, rfl, rfl, rfl, rfl, rfl, rfl, rfl, rfl, rfl, rfl, rfl, rfl, rfl, rfl, rfl, rfl, rfl, rfl, rfl, rfl, rfl, rfl, rfl, rfl⟩
theorem tok_8_leastHeight (X : XT) : TabOK X M_8_leastHeight (tab_8_leastHeight X) := by
  unfold tab_8_leastHeight
  refine tok_cons (snd_iload_n dX8_leastHeight_0 rfl rfl) ?_
  refine tok_cons (snd_iconst dX8_leastHeight_1 rfl (inr_d rfl) rfl) ?_
  refine tok_cons (snd_bipush dX8_leastHeight_2 (by decide) (inr_d rfl) rfl) ?_
  refine tok_cons (snd_sv dX8_leastHeight_4 mok_8_in ⟨ws_8_in, Or.inl ⟨wm8_62, rfl⟩⟩ pn_8_in (by decide) ⟨rfl, rfl⟩ rfl) ?_
  refine tok_cons (snd_if_ne dX8_leastHeight_7 (by decide) rfl) ?_
  refine tok_cons (snd_iconst dX8_leastHeight_10 rfl (inr_d rfl) rfl) ?_
  refine tok_cons (snd_iret dX8_leastHeight_11 rfl) ?_
  refine tok_cons (snd_aload_n dX8_leastHeight_12 rfl rfl) ?_
  refine tok_cons (snd_gr (C := RX8) (T := TX8) (N := 21) dX8_leastHeight_13 rfl (by decide) rfl wf8_7 inX8 rfl) ?_
  refine tok_cons (snd_bipush dX8_leastHeight_16 (by decide) (inr_d rfl) rfl) ?_
  refine tok_cons (snd_iald dX8_leastHeight_18 rfl) ?_
  refine tok_cons (snd_istore_n dX8_leastHeight_19 rfl rfl (by decide)) ?_
  refine tok_cons (snd_bipush dX8_leastHeight_20 (by decide) (inr_d rfl) rfl) ?_
  refine tok_cons (snd_istore_n dX8_leastHeight_22 rfl rfl (by decide)) ?_
  refine tok_cons (snd_bipush dX8_leastHeight_23 (by decide) (inr_d rfl) rfl) ?_
  refine tok_cons (snd_istore dX8_leastHeight_25 rfl (by decide)) ?_
  refine tok_cons (snd_iload dX8_leastHeight_27 rfl) ?_
  refine tok_cons (snd_bipush dX8_leastHeight_29 (by decide) (inr_d rfl) rfl) ?_
  refine tok_cons (snd_icmp_gt dX8_leastHeight_31 (by decide) rfl) ?_
  refine tok_cons (snd_iload_n dX8_leastHeight_34 rfl rfl) ?_
  refine tok_cons (snd_bipush dX8_leastHeight_35 (by decide) (inr_d rfl) rfl) ?_
  refine tok_cons (snd_icmp_ne dX8_leastHeight_37 (by decide) rfl) ?_
  refine tok_cons (snd_aload_n dX8_leastHeight_40 rfl rfl) ?_
  refine tok_cons (snd_gr (C := RX8) (T := TX8) (N := 21) dX8_leastHeight_41 rfl (by decide) rfl wf8_7 inX8 rfl) ?_
  refine tok_cons (snd_bipush dX8_leastHeight_44 (by decide) (inr_d rfl) rfl) ?_
  refine tok_cons (snd_iload dX8_leastHeight_46 rfl) ?_
  refine tok_cons (snd_iast dX8_leastHeight_48 rfl) ?_
  refine tok_cons (snd_aload_n dX8_leastHeight_49 rfl rfl) ?_
  refine tok_cons (snd_cn dX8_leastHeight_50 mok_8_sets ⟨wm8_148, wi_8_sets, wl_8_sets⟩ (rc := (RX8, TX8, 21)) rfl rfl pn_8_sets (by decide) ⟨rfl, rfl⟩ rfl) ?_
  refine tok_cons (snd_aload_n dX8_leastHeight_53 rfl rfl) ?_
  refine tok_cons (snd_gi (C := RX8) (T := TX8) (N := 21) dX8_leastHeight_54 rfl (by decide) rfl wf8_98 inX8 rfl rfl) ?_
  refine tok_cons (snd_iload_n dX8_leastHeight_57 rfl rfl) ?_
  refine tok_cons (snd_icmp_gt dX8_leastHeight_58 (by decide) rfl) ?_
  refine tok_cons (snd_iload dX8_leastHeight_61 rfl) ?_
  refine tok_cons (snd_goto dX8_leastHeight_63 (by decide)) ?_
  refine tok_cons (snd_iload_n dX8_leastHeight_66 rfl rfl) ?_
  refine tok_cons (snd_istore_n dX8_leastHeight_67 rfl rfl (by decide)) ?_
  refine tok_cons (snd_iinc dX8_leastHeight_68 rfl rfl (by decide)) ?_
  refine tok_cons (snd_goto dX8_leastHeight_71 (by decide)) ?_
  refine tok_cons (snd_aload_n dX8_leastHeight_74 rfl rfl) ?_
  refine tok_cons (snd_gr (C := RX8) (T := TX8) (N := 21) dX8_leastHeight_75 rfl (by decide) rfl wf8_7 inX8 rfl) ?_
  refine tok_cons (snd_bipush dX8_leastHeight_78 (by decide) (inr_d rfl) rfl) ?_
  refine tok_cons (snd_iload_n dX8_leastHeight_80 rfl rfl) ?_
  refine tok_cons (snd_iast dX8_leastHeight_81 rfl) ?_
  refine tok_cons (snd_iload_n dX8_leastHeight_82 rfl rfl) ?_
  refine tok_cons (snd_iret dX8_leastHeight_83 rfl) ?_
  exact tok_nil
def tab_8_overfullWith (X : XT) : Tab := [(0, false, a_iload 1 1), (1, false, a_const 8 3), (3, false, a_const 60 5), (5, false, a_sv X M_8_overfullWith M_8_in 3 8), (8, false, a_if 1 13 11), (11, false, a_const (-1) 12), (12, false, a_iret M_8_overfullWith), (13, false, a_aload 0 14), (14, false, a_gr 8 0 17), (17, false, a_const 81 19), (19, false, a_ald false 20), (20, false, a_istore 2 21), (21, false, a_aload 0 22), (22, false, a_gr 8 0 25), (25, false, a_const 81 27), (27, false, a_iload 1 28), (28, false, a_ast false 29), (29, false, a_aload 0 30), (30, false, a_cn X M_8_overfullWith M_8_sets 8 1 33), (33, false, a_aload 0 34), (34, false, a_gr 8 0 37), (37, false, a_const 81 39), (39, false, a_iload 2 40), (40, false, a_ast false 41), (41, false, a_const 0 42), (42, false, a_istore 3 43), (43, false, a_const 0 44), (44, false, a_istore 4 46), (46, true, a_iload 4 48), (48, false, a_aload 0 49), (49, false, a_gi 8 10 10 52), (52, false, a_icmp 3 79 55), (55, false, a_iload 3 56), (56, false, a_aload 0 57), (57, false, a_gr 8 12 60), (60, false, a_iload 4 62), (62, false, a_ald true 63), (63, false, a_if 0 70 66), (66, false, a_const 1 67), (67, false, a_goto 71), (70, false, a_const 0 71), (71, false, a_add 72), (72, false, a_istore 3 73), (73, false, a_iinc 4 1 76), (76, false, a_goto 46), (79, false, a_iload 3 80), (80, false, a_iret M_8_overfullWith)]
set_option maxRecDepth 20000 in
theorem t_8_overfullWith (X : XT) : tget (tab_8_overfullWith X) 0 = some (false, a_iload 1 1) ∧ tget (tab_8_overfullWith X) 1 = some (false, a_const 8 3) ∧ tget (tab_8_overfullWith X) 3 = some (false, a_const 60 5) ∧ tget (tab_8_overfullWith X) 5 = some (false, a_sv X M_8_overfullWith M_8_in 3 8) ∧ tget (tab_8_overfullWith X) 8 = some (false, a_if 1 13 11) ∧ tget (tab_8_overfullWith X) 11 = some (false, a_const (-1) 12) ∧ tget (tab_8_overfullWith X) 12 = some (false, a_iret M_8_overfullWith) ∧ tget (tab_8_overfullWith X) 13 = some (false, a_aload 0 14) ∧ tget (tab_8_overfullWith X) 14 = some (false, a_gr 8 0 17) ∧ tget (tab_8_overfullWith X) 17 = some (false, a_const 81 19) ∧ tget (tab_8_overfullWith X) 19 = some (false, a_ald false 20) ∧ tget (tab_8_overfullWith X) 20 = some (false, a_istore 2 21) ∧ tget (tab_8_overfullWith X) 21 = some (false, a_aload 0 22) ∧ tget (tab_8_overfullWith X) 22 = some (false, a_gr 8 0 25) ∧ tget (tab_8_overfullWith X) 25 = some (false, a_const 81 27) ∧ tget (tab_8_overfullWith X) 27 = some (false, a_iload 1 28) ∧ tget (tab_8_overfullWith X) 28 = some (false, a_ast false 29) ∧ tget (tab_8_overfullWith X) 29 = some (false, a_aload 0 30) ∧ tget (tab_8_overfullWith X) 30 = some (false, a_cn X M_8_overfullWith M_8_sets 8 1 33) ∧ tget (tab_8_overfullWith X) 33 = some (false, a_aload 0 34) ∧ tget (tab_8_overfullWith X) 34 = some (false, a_gr 8 0 37) ∧ tget (tab_8_overfullWith X) 37 = some (false, a_const 81 39) ∧ tget (tab_8_overfullWith X) 39 = some (false, a_iload 2 40) ∧ tget (tab_8_overfullWith X) 40 = some (false, a_ast false 41) ∧ tget (tab_8_overfullWith X) 41 = some (false, a_const 0 42) ∧ tget (tab_8_overfullWith X) 42 = some (false, a_istore 3 43) ∧ tget (tab_8_overfullWith X) 43 = some (false, a_const 0 44) ∧ tget (tab_8_overfullWith X) 44 = some (false, a_istore 4 46) ∧ tget (tab_8_overfullWith X) 46 = some (true, a_iload 4 48) ∧ tget (tab_8_overfullWith X) 48 = some (false, a_aload 0 49) ∧ tget (tab_8_overfullWith X) 49 = some (false, a_gi 8 10 10 52) ∧ tget (tab_8_overfullWith X) 52 = some (false, a_icmp 3 79 55) ∧ tget (tab_8_overfullWith X) 55 = some (false, a_iload 3 56) ∧ tget (tab_8_overfullWith X) 56 = some (false, a_aload 0 57) ∧ tget (tab_8_overfullWith X) 57 = some (false, a_gr 8 12 60) ∧ tget (tab_8_overfullWith X) 60 = some (false, a_iload 4 62) ∧ tget (tab_8_overfullWith X) 62 = some (false, a_ald true 63) ∧ tget (tab_8_overfullWith X) 63 = some (false, a_if 0 70 66) ∧ tget (tab_8_overfullWith X) 66 = some (false, a_const 1 67) ∧ tget (tab_8_overfullWith X) 67 = some (false, a_goto 71) ∧ tget (tab_8_overfullWith X) 70 = some (false, a_const 0 71) ∧ tget (tab_8_overfullWith X) 71 = some (false, a_add 72) ∧ tget (tab_8_overfullWith X) 72 = some (false, a_istore 3 73) ∧ tget (tab_8_overfullWith X) 73 = some (false, a_iinc 4 1 76) ∧ tget (tab_8_overfullWith X) 76 = some (false, a_goto 46) ∧ tget (tab_8_overfullWith X) 79 = some (false, a_iload 3 80) ∧ tget (tab_8_overfullWith X) 80 = some (false, a_iret M_8_overfullWith) := ⟨rfl, rfl, rfl, rfl, rfl, rfl, rfl, rfl, rfl, rfl, rfl, rfl, rfl, rfl, rfl, rfl, rfl, rfl, rfl, rfl, rfl, rfl, rfl, rfl, rfl, rfl, rfl, rfl, rfl, rfl, rfl, rfl, rfl, rfl, rfl, rfl, rfl, rfl, rfl, rfl, rfl, rfl, rfl, rfl, rfl, rfl, rfl⟩
theorem tok_8_overfullWith (X : XT) : TabOK X M_8_overfullWith (tab_8_overfullWith X) := by
  unfold tab_8_overfullWith
  refine tok_cons (snd_iload_n dX8_overfullWith_0 rfl rfl) ?_
  refine tok_cons (snd_bipush dX8_overfullWith_1 (by decide) (inr_d rfl) rfl) ?_
  refine tok_cons (snd_bipush dX8_overfullWith_3 (by decide) (inr_d rfl) rfl) ?_
  refine tok_cons (snd_sv dX8_overfullWith_5 mok_8_in ⟨ws_8_in, Or.inl ⟨wm8_62, rfl⟩⟩ pn_8_in (by decide) ⟨rfl, rfl⟩ rfl) ?_
  refine tok_cons (snd_if_ne dX8_overfullWith_8 (by decide) rfl) ?_
  refine tok_cons (snd_iconst dX8_overfullWith_11 rfl (inr_d rfl) rfl) ?_
  refine tok_cons (snd_iret dX8_overfullWith_12 rfl) ?_
  refine tok_cons (snd_aload_n dX8_overfullWith_13 rfl rfl) ?_
  refine tok_cons (snd_gr (C := RX8) (T := TX8) (N := 21) dX8_overfullWith_14 rfl (by decide) rfl wf8_7 inX8 rfl) ?_
  refine tok_cons (snd_bipush dX8_overfullWith_17 (by decide) (inr_d rfl) rfl) ?_
  refine tok_cons (snd_iald dX8_overfullWith_19 rfl) ?_
  refine tok_cons (snd_istore_n dX8_overfullWith_20 rfl rfl (by decide)) ?_
  refine tok_cons (snd_aload_n dX8_overfullWith_21 rfl rfl) ?_
  refine tok_cons (snd_gr (C := RX8) (T := TX8) (N := 21) dX8_overfullWith_22 rfl (by decide) rfl wf8_7 inX8 rfl) ?_
  refine tok_cons (snd_bipush dX8_overfullWith_25 (by decide) (inr_d rfl) rfl) ?_
  refine tok_cons (snd_iload_n dX8_overfullWith_27 rfl rfl) ?_
  refine tok_cons (snd_iast dX8_overfullWith_28 rfl) ?_
  refine tok_cons (snd_aload_n dX8_overfullWith_29 rfl rfl) ?_
  refine tok_cons (snd_cn dX8_overfullWith_30 mok_8_sets ⟨wm8_148, wi_8_sets, wl_8_sets⟩ (rc := (RX8, TX8, 21)) rfl rfl pn_8_sets (by decide) ⟨rfl, rfl⟩ rfl) ?_
  refine tok_cons (snd_aload_n dX8_overfullWith_33 rfl rfl) ?_
  refine tok_cons (snd_gr (C := RX8) (T := TX8) (N := 21) dX8_overfullWith_34 rfl (by decide) rfl wf8_7 inX8 rfl) ?_
  refine tok_cons (snd_bipush dX8_overfullWith_37 (by decide) (inr_d rfl) rfl) ?_
  refine tok_cons (snd_iload_n dX8_overfullWith_39 rfl rfl) ?_
  refine tok_cons (snd_iast dX8_overfullWith_40 rfl) ?_
  refine tok_cons (snd_iconst dX8_overfullWith_41 rfl (inr_d rfl) rfl) ?_
  refine tok_cons (snd_istore_n dX8_overfullWith_42 rfl rfl (by decide)) ?_
  refine tok_cons (snd_iconst dX8_overfullWith_43 rfl (inr_d rfl) rfl) ?_
  refine tok_cons (snd_istore dX8_overfullWith_44 rfl (by decide)) ?_
  refine tok_cons (snd_iload dX8_overfullWith_46 rfl) ?_
  refine tok_cons (snd_aload_n dX8_overfullWith_48 rfl rfl) ?_
  refine tok_cons (snd_gi (C := RX8) (T := TX8) (N := 21) dX8_overfullWith_49 rfl (by decide) rfl wf8_98 inX8 rfl rfl) ?_
  refine tok_cons (snd_icmp_ge dX8_overfullWith_52 (by decide) rfl) ?_
  refine tok_cons (snd_iload_n dX8_overfullWith_55 rfl rfl) ?_
  refine tok_cons (snd_aload_n dX8_overfullWith_56 rfl rfl) ?_
  refine tok_cons (snd_gr (C := RX8) (T := TX8) (N := 21) dX8_overfullWith_57 rfl (by decide) rfl wf8_37 inX8 rfl) ?_
  refine tok_cons (snd_iload dX8_overfullWith_60 rfl) ?_
  refine tok_cons (snd_bald dX8_overfullWith_62 rfl) ?_
  refine tok_cons (snd_if_eq dX8_overfullWith_63 (by decide) rfl) ?_
  refine tok_cons (snd_iconst dX8_overfullWith_66 rfl (inr_d rfl) rfl) ?_
  refine tok_cons (snd_goto dX8_overfullWith_67 (by decide)) ?_
  refine tok_cons (snd_iconst dX8_overfullWith_70 rfl (inr_d rfl) rfl) ?_
  refine tok_cons (snd_add dX8_overfullWith_71 rfl) ?_
  refine tok_cons (snd_istore_n dX8_overfullWith_72 rfl rfl (by decide)) ?_
  refine tok_cons (snd_iinc dX8_overfullWith_73 rfl rfl (by decide)) ?_
  refine tok_cons (snd_goto dX8_overfullWith_76 (by decide)) ?_
  refine tok_cons (snd_iload_n dX8_overfullWith_79 rfl rfl) ?_
  refine tok_cons (snd_iret dX8_overfullWith_80 rfl) ?_
  exact tok_nil
def tab_8_splitPairs (X : XT) : Tab := [(0, false, a_aload 0 1), (1, false, a_cn X M_8_splitPairs M_8_sets 8 1 4), (4, false, a_const 0 5), (5, false, a_istore 1 6), (6, false, a_const 1 7), (7, false, a_istore 2 8), (8, true, a_iload 2 9), (9, false, a_aload 0 10), (10, false, a_gi 8 5 5 13), (13, false, a_icmp 3 79 16), (16, false, a_aload 0 17), (17, false, a_gr 8 6 20), (20, false, a_iload 2 21), (21, false, a_ald false 22), (22, false, a_aload 0 23), (23, false, a_gr 8 6 26), (26, false, a_iload 2 27), (27, false, a_const 1 28), (28, false, a_sub 29), (29, false, a_ald false 30), (30, false, a_icmp 1 37 33), (33, false, a_const 1 34), (34, false, a_goto 38), (37, false, a_const 0 38), (38, false, a_istore 3 39), (39, false, a_iload 1 40), (40, false, a_iload 3 41), (41, false, a_if 0 70 44), (44, false, a_iload 2 45), (45, false, a_const 1 46), (46, false, a_icmp 0 66 49), (49, false, a_aload 0 50), (50, false, a_gr 8 6 53), (53, false, a_iload 2 54), (54, false, a_const 2 55), (55, false, a_sub 56), (56, false, a_ald false 57), (57, false, a_aload 0 58), (58, false, a_gr 8 6 61), (61, false, a_iload 2 62), (62, false, a_ald false 63), (63, false, a_icmp 0 70 66), (66, false, a_const 1 67), (67, false, a_goto 71), (70, false, a_const 0 71), (71, false, a_add 72), (72, false, a_istore 1 73), (73, false, a_iinc 2 1 76), (76, false, a_goto 8), (79, false, a_iload 1 80), (80, false, a_iret M_8_splitPairs)]
set_option maxRecDepth 20000 in
theorem t_8_splitPairs (X : XT) : tget (tab_8_splitPairs X) 0 = some (false, a_aload 0 1) ∧ tget (tab_8_splitPairs X) 1 = some (false, a_cn X M_8_splitPairs M_8_sets 8 1 4) ∧ tget (tab_8_splitPairs X) 4 = some (false, a_const 0 5) ∧ tget (tab_8_splitPairs X) 5 = some (false, a_istore 1 6) ∧ tget (tab_8_splitPairs X) 6 = some (false, a_const 1 7) ∧ tget (tab_8_splitPairs X) 7 = some (false, a_istore 2 8) ∧ tget (tab_8_splitPairs X) 8 = some (true, a_iload 2 9) ∧ tget (tab_8_splitPairs X) 9 = some (false, a_aload 0 10) ∧ tget (tab_8_splitPairs X) 10 = some (false, a_gi 8 5 5 13) ∧ tget (tab_8_splitPairs X) 13 = some (false, a_icmp 3 79 16) ∧ tget (tab_8_splitPairs X) 16 = some (false, a_aload 0 17) ∧ tget (tab_8_splitPairs X) 17 = some (false, a_gr 8 6 20) ∧ tget (tab_8_splitPairs X) 20 = some (false, a_iload 2 21) ∧ tget (tab_8_splitPairs X) 21 = some (false, a_ald false 22) ∧ tget (tab_8_splitPairs X) 22 = some (false, a_aload 0 23) ∧ tget (tab_8_splitPairs X) 23 = some (false, a_gr 8 6 26) ∧ tget (tab_8_splitPairs X) 26 = some (false, a_iload 2 27) ∧ tget (tab_8_splitPairs X) 27 = some (false, a_const 1 28) ∧ tget (tab_8_splitPairs X) 28 = some (false, a_sub 29) ∧ tget (tab_8_splitPairs X) 29 = some (false, a_ald false 30) ∧ tget (tab_8_splitPairs X) 30 = some (false, a_icmp 1 37 33) ∧ tget (tab_8_splitPairs X) 33 = some (false, a_const 1 34) ∧ tget (tab_8_splitPairs X) 34 = some (false, a_goto 38) ∧ tget (tab_8_splitPairs X) 37 = some (false, a_const 0 38) ∧ tget (tab_8_splitPairs X) 38 = some (false, a_istore 3 39) ∧ tget (tab_8_splitPairs X) 39 = some (false, a_iload 1 40) ∧ tget (tab_8_splitPairs X) 40 = some (false, a_iload 3 41) ∧ tget (tab_8_splitPairs X) 41 = some (false, a_if 0 70 44) ∧ tget (tab_8_splitPairs X) 44 = some (false, a_iload 2 45) ∧ tget (tab_8_splitPairs X) 45 = some (false, a_const 1 46) ∧ tget (tab_8_splitPairs X) 46 = some (false, a_icmp 0 66 49) ∧ tget (tab_8_splitPairs X) 49 = some (false, a_aload 0 50) ∧ tget (tab_8_splitPairs X) 50 = some (false, a_gr 8 6 53) ∧ tget (tab_8_splitPairs X) 53 = some (false, a_iload 2 54) ∧ tget (tab_8_splitPairs X) 54 = some (false, a_const 2 55) ∧ tget (tab_8_splitPairs X) 55 = some (false, a_sub 56) ∧ tget (tab_8_splitPairs X) 56 = some (false, a_ald false 57) ∧ tget (tab_8_splitPairs X) 57 = some (false, a_aload 0 58) ∧ tget (tab_8_splitPairs X) 58 = some (false, a_gr 8 6 61) ∧ tget (tab_8_splitPairs X) 61 = some (false, a_iload 2 62) ∧ tget (tab_8_splitPairs X) 62 = some (false, a_ald false 63) ∧ tget (tab_8_splitPairs X) 63 = some (false, a_icmp 0 70 66) ∧ tget (tab_8_splitPairs X) 66 = some (false, a_const 1 67) ∧ tget (tab_8_splitPairs X) 67 = some (false, a_goto 71) ∧ tget (tab_8_splitPairs X) 70 = some (false, a_const 0 71) ∧ tget (tab_8_splitPairs X) 71 = some (false, a_add 72) ∧ tget (tab_8_splitPairs X) 72 = some (false, a_istore 1 73) ∧ tget (tab_8_splitPairs X) 73 = some (false, a_iinc 2 1 76) ∧ tget (tab_8_splitPairs X) 76 = some (false, a_goto 8) ∧ tget (tab_8_splitPairs X) 79 = some (false, a_iload 1 80) ∧ tget (tab_8_splitPairs X) 80 = some (false, a_iret M_8_splitPairs) := ⟨rfl, rfl, rfl, rfl, rfl, rfl, rfl, rfl, rfl, rfl, rfl, rfl, rfl, rfl, rfl, rfl, rfl, rfl, rfl, rfl, rfl, rfl, rfl, rfl, rfl, rfl, rfl, rfl, rfl, rfl, rfl, rfl, rfl, rfl, rfl, rfl, rfl, rfl, rfl, rfl, rfl, rfl, rfl, rfl, rfl, rfl, rfl, rfl, rfl, rfl, rfl⟩
theorem tok_8_splitPairs (X : XT) : TabOK X M_8_splitPairs (tab_8_splitPairs X) := by
  unfold tab_8_splitPairs
  refine tok_cons (snd_aload_n dX8_splitPairs_0 rfl rfl) ?_
  refine tok_cons (snd_cn dX8_splitPairs_1 mok_8_sets ⟨wm8_148, wi_8_sets, wl_8_sets⟩ (rc := (RX8, TX8, 21)) rfl rfl pn_8_sets (by decide) ⟨rfl, rfl⟩ rfl) ?_
  refine tok_cons (snd_iconst dX8_splitPairs_4 rfl (inr_d rfl) rfl) ?_
  refine tok_cons (snd_istore_n dX8_splitPairs_5 rfl rfl (by decide)) ?_
  refine tok_cons (snd_iconst dX8_splitPairs_6 rfl (inr_d rfl) rfl) ?_
  refine tok_cons (snd_istore_n dX8_splitPairs_7 rfl rfl (by decide)) ?_
  refine tok_cons (snd_iload_n dX8_splitPairs_8 rfl rfl) ?_
  refine tok_cons (snd_aload_n dX8_splitPairs_9 rfl rfl) ?_
  refine tok_cons (snd_gi (C := RX8) (T := TX8) (N := 21) dX8_splitPairs_10 rfl (by decide) rfl wf8_95 inX8 rfl rfl) ?_
  refine tok_cons (snd_icmp_ge dX8_splitPairs_13 (by decide) rfl) ?_
  refine tok_cons (snd_aload_n dX8_splitPairs_16 rfl rfl) ?_
  refine tok_cons (snd_gr (C := RX8) (T := TX8) (N := 21) dX8_splitPairs_17 rfl (by decide) rfl wf8_22 inX8 rfl) ?_
  refine tok_cons (snd_iload_n dX8_splitPairs_20 rfl rfl) ?_
  refine tok_cons (snd_iald dX8_splitPairs_21 rfl) ?_
  refine tok_cons (snd_aload_n dX8_splitPairs_22 rfl rfl) ?_
  refine tok_cons (snd_gr (C := RX8) (T := TX8) (N := 21) dX8_splitPairs_23 rfl (by decide) rfl wf8_22 inX8 rfl) ?_
  refine tok_cons (snd_iload_n dX8_splitPairs_26 rfl rfl) ?_
  refine tok_cons (snd_iconst dX8_splitPairs_27 rfl (inr_d rfl) rfl) ?_
  refine tok_cons (snd_sub dX8_splitPairs_28 rfl) ?_
  refine tok_cons (snd_iald dX8_splitPairs_29 rfl) ?_
  refine tok_cons (snd_icmp_ne dX8_splitPairs_30 (by decide) rfl) ?_
  refine tok_cons (snd_iconst dX8_splitPairs_33 rfl (inr_d rfl) rfl) ?_
  refine tok_cons (snd_goto dX8_splitPairs_34 (by decide)) ?_
  refine tok_cons (snd_iconst dX8_splitPairs_37 rfl (inr_d rfl) rfl) ?_
  refine tok_cons (snd_istore_n dX8_splitPairs_38 rfl rfl (by decide)) ?_
  refine tok_cons (snd_iload_n dX8_splitPairs_39 rfl rfl) ?_
  refine tok_cons (snd_iload_n dX8_splitPairs_40 rfl rfl) ?_
  refine tok_cons (snd_if_eq dX8_splitPairs_41 (by decide) rfl) ?_
  refine tok_cons (snd_iload_n dX8_splitPairs_44 rfl rfl) ?_
  refine tok_cons (snd_iconst dX8_splitPairs_45 rfl (inr_d rfl) rfl) ?_
  refine tok_cons (snd_icmp_eq dX8_splitPairs_46 (by decide) rfl) ?_
  refine tok_cons (snd_aload_n dX8_splitPairs_49 rfl rfl) ?_
  refine tok_cons (snd_gr (C := RX8) (T := TX8) (N := 21) dX8_splitPairs_50 rfl (by decide) rfl wf8_22 inX8 rfl) ?_
  refine tok_cons (snd_iload_n dX8_splitPairs_53 rfl rfl) ?_
  refine tok_cons (snd_iconst dX8_splitPairs_54 rfl (inr_d rfl) rfl) ?_
  refine tok_cons (snd_sub dX8_splitPairs_55 rfl) ?_
  refine tok_cons (snd_iald dX8_splitPairs_56 rfl) ?_
  refine tok_cons (snd_aload_n dX8_splitPairs_57 rfl rfl) ?_
  refine tok_cons (snd_gr (C := RX8) (T := TX8) (N := 21) dX8_splitPairs_58 rfl (by decide) rfl wf8_22 inX8 rfl) ?_
  refine tok_cons (snd_iload_n dX8_splitPairs_61 rfl rfl) ?_
  refine tok_cons (snd_iald dX8_splitPairs_62 rfl) ?_
  refine tok_cons (snd_icmp_eq dX8_splitPairs_63 (by decide) rfl) ?_
  refine tok_cons (snd_iconst dX8_splitPairs_66 rfl (inr_d rfl) rfl) ?_
  refine tok_cons (snd_goto dX8_splitPairs_67 (by decide)) ?_
  refine tok_cons (snd_iconst dX8_splitPairs_70 rfl (inr_d rfl) rfl) ?_
  refine tok_cons (snd_add dX8_splitPairs_71 rfl) ?_
  refine tok_cons (snd_istore_n dX8_splitPairs_72 rfl rfl (by decide)) ?_
  refine tok_cons (snd_iinc dX8_splitPairs_73 rfl rfl (by decide)) ?_
  refine tok_cons (snd_goto dX8_splitPairs_76 (by decide)) ?_
  refine tok_cons (snd_iload_n dX8_splitPairs_79 rfl rfl) ?_
  refine tok_cons (snd_iret dX8_splitPairs_80 rfl) ?_
  exact tok_nil
def tab_8_segmentCount (X : XT) : Tab := [(0, false, a_aload 0 1), (1, false, a_iload 1 2), (2, false, a_cv X M_8_segmentCount M_8_isSpread 8 2 5), (5, false, a_if 0 26 8), (8, false, a_aload 0 9), (9, false, a_gr 8 11 12), (12, false, a_iload 1 13), (13, false, a_const 1 14), (14, false, a_add 15), (15, false, a_ald false 16), (16, false, a_aload 0 17), (17, false, a_gr 8 11 20), (20, false, a_iload 1 21), (21, false, a_ald false 22), (22, false, a_sub 23), (23, false, a_goto 27), (26, false, a_const (-1) 27), (27, false, a_iret M_8_segmentCount)]
set_option maxRecDepth 20000 in
theorem t_8_segmentCount (X : XT) : tget (tab_8_segmentCount X) 0 = some (false, a_aload 0 1) ∧ tget (tab_8_segmentCount X) 1 = some (false, a_iload 1 2) ∧ tget (tab_8_segmentCount X) 2 = some (false, a_cv X M_8_segmentCount M_8_isSpread 8 2 5) ∧ tget (tab_8_segmentCount X) 5 = some (false, a_if 0 26 8) ∧ tget (tab_8_segmentCount X) 8 = some (false, a_aload 0 9) ∧ tget (tab_8_segmentCount X) 9 = some (false, a_gr 8 11 12) ∧ tget (tab_8_segmentCount X) 12 = some (false, a_iload 1 13) ∧ tget (tab_8_segmentCount X) 13 = some (false, a_const 1 14) ∧ tget (tab_8_segmentCount X) 14 = some (false, a_add 15) ∧ tget (tab_8_segmentCount X) 15 = some (false, a_ald false 16) ∧ tget (tab_8_segmentCount X) 16 = some (false, a_aload 0 17) ∧ tget (tab_8_segmentCount X) 17 = some (false, a_gr 8 11 20) ∧ tget (tab_8_segmentCount X) 20 = some (false, a_iload 1 21) ∧ tget (tab_8_segmentCount X) 21 = some (false, a_ald false 22) ∧ tget (tab_8_segmentCount X) 22 = some (false, a_sub 23) ∧ tget (tab_8_segmentCount X) 23 = some (false, a_goto 27) ∧ tget (tab_8_segmentCount X) 26 = some (false, a_const (-1) 27) ∧ tget (tab_8_segmentCount X) 27 = some (false, a_iret M_8_segmentCount) := ⟨rfl, rfl, rfl, rfl, rfl, rfl, rfl, rfl, rfl, rfl, rfl, rfl, rfl, rfl, rfl, rfl, rfl, rfl⟩
theorem tok_8_segmentCount (X : XT) : TabOK X M_8_segmentCount (tab_8_segmentCount X) := by
  unfold tab_8_segmentCount
  refine tok_cons (snd_aload_n dX8_segmentCount_0 rfl rfl) ?_
  refine tok_cons (snd_iload_n dX8_segmentCount_1 rfl rfl) ?_
  refine tok_cons (snd_cv dX8_segmentCount_2 mok_8_isSpread ⟨wm8_151, wi_8_isSpread, wl_8_isSpread⟩ (rc := (RX8, TX8, 21)) rfl rfl pn_8_isSpread (by decide) ⟨rfl, rfl⟩ rfl) ?_
  refine tok_cons (snd_if_eq dX8_segmentCount_5 (by decide) rfl) ?_
  refine tok_cons (snd_aload_n dX8_segmentCount_8 rfl rfl) ?_
  refine tok_cons (snd_gr (C := RX8) (T := TX8) (N := 21) dX8_segmentCount_9 rfl (by decide) rfl wf8_34 inX8 rfl) ?_
  refine tok_cons (snd_iload_n dX8_segmentCount_12 rfl rfl) ?_
  refine tok_cons (snd_iconst dX8_segmentCount_13 rfl (inr_d rfl) rfl) ?_
  refine tok_cons (snd_add dX8_segmentCount_14 rfl) ?_
  refine tok_cons (snd_iald dX8_segmentCount_15 rfl) ?_
  refine tok_cons (snd_aload_n dX8_segmentCount_16 rfl rfl) ?_
  refine tok_cons (snd_gr (C := RX8) (T := TX8) (N := 21) dX8_segmentCount_17 rfl (by decide) rfl wf8_34 inX8 rfl) ?_
  refine tok_cons (snd_iload_n dX8_segmentCount_20 rfl rfl) ?_
  refine tok_cons (snd_iald dX8_segmentCount_21 rfl) ?_
  refine tok_cons (snd_sub dX8_segmentCount_22 rfl) ?_
  refine tok_cons (snd_goto dX8_segmentCount_23 (by decide)) ?_
  refine tok_cons (snd_iconst dX8_segmentCount_26 rfl (inr_d rfl) rfl) ?_
  refine tok_cons (snd_iret dX8_segmentCount_27 rfl) ?_
  exact tok_nil
def tab_8_segmentInfo (X : XT) : Tab := [(0, false, a_aload 0 1), (1, false, a_iload 1 2), (2, false, a_cv X M_8_segmentInfo M_8_isSpread 8 2 5), (5, false, a_if 0 22 8), (8, false, a_iload 2 9), (9, false, a_if 2 22 12), (12, false, a_iload 3 13), (13, false, a_const 0 14), (14, false, a_const 7 16), (16, false, a_sv X M_8_segmentInfo M_8_in 3 19), (19, false, a_if 1 24 22), (22, false, a_const (-1) 23), (23, false, a_iret M_8_segmentInfo), (24, false, a_iload 2 25), (25, false, a_aload 0 26), (26, false, a_gr 8 11 29), (29, false, a_iload 1 30), (30, false, a_const 1 31), (31, false, a_add 32), (32, false, a_ald false 33), (33, false, a_aload 0 34), (34, false, a_gr 8 11 37), (37, false, a_iload 1 38), (38, false, a_ald false 39), (39, false, a_sub 40), (40, false, a_icmp 2 46 43), (43, false, a_const (-4) 45), (45, false, a_iret M_8_segmentInfo), (46, false, a_aload 0 47), (47, false, a_gr 8 11 50), (50, false, a_iload 1 51), (51, false, a_ald false 52), (52, false, a_iload 2 53), (53, false, a_add 54), (54, false, a_istore 4 56), (56, false, a_iload 3 57), (57, false, a_tsw 0 6 [100, 108, 118, 128, 140, 152, 162] 174), (100, false, a_aload 0 101), (101, false, a_gr 8 6 104), (104, false, a_iload 4 106), (106, false, a_ald false 107), (107, false, a_iret M_8_segmentInfo), (108, false, a_aload 0 109), (109, false, a_gr 8 7 112), (112, false, a_const 2 113), (113, false, a_iload 4 115), (115, false, a_mul 116), (116, false, a_ald false 117), (117, false, a_iret M_8_segmentInfo), (118, false, a_aload 0 119), (119, false, a_gr 8 8 122), (122, false, a_const 2 123), (123, false, a_iload 4 125), (125, false, a_mul 126), (126, false, a_ald false 127), (127, false, a_iret M_8_segmentInfo), (128, false, a_aload 0 129), (129, false, a_gr 8 7 132), (132, false, a_const 2 133), (133, false, a_iload 4 135), (135, false, a_mul 136), (136, false, a_const 1 137), (137, false, a_add 138), (138, false, a_ald false 139), (139, false, a_iret M_8_segmentInfo), (140, false, a_aload 0 141), (141, false, a_gr 8 8 144), (144, false, a_const 2 145), (145, false, a_iload 4 147), (147, false, a_mul 148), (148, false, a_const 1 149), (149, false, a_add 150), (150, false, a_ald false 151), (151, false, a_iret M_8_segmentInfo), (152, false, a_aload 0 153), (153, false, a_gr 8 9 156), (156, false, a_const 2 157), (157, false, a_iload 4 159), (159, false, a_mul 160), (160, false, a_ald false 161), (161, false, a_iret M_8_segmentInfo), (162, false, a_aload 0 163), (163, false, a_gr 8 9 166), (166, false, a_const 2 167), (167, false, a_iload 4 169), (169, false, a_mul 170), (170, false, a_const 1 171), (171, false, a_add 172), (172, false, a_ald false 173), (173, false, a_iret M_8_segmentInfo), (174, false, a_aload 0 175), (175, false, a_gr 8 7 178), (178, false, a_const 2 179), (179, false, a_iload 4 181), (181, false, a_mul 182), (182, false, a_ald false 183), (183, false, a_aload 0 184), (184, false, a_gr 8 8 187), (187, false, a_const 2 188), (188, false, a_iload 4 190), (190, false, a_mul 191), (191, false, a_ald false 192), (192, false, a_add 193), (193, false, a_aload 0 194), (194, false, a_aload 0 195), (195, false, a_gr 8 6 198), (198, false, a_iload 4 200), (200, false, a_ald false 201), (201, false, a_const 0 202), (202, false, a_cv X M_8_segmentInfo M_8_lines 8 3 205), (205, false, a_icmp 3 212 208), (208, false, a_const 1 209), (209, false, a_goto 213), (212, false, a_const 0 213), (213, false, a_iret M_8_segmentInfo)]
set_option maxRecDepth 20000 in
theorem t_8_segmentInfo (X : XT) : tget (tab_8_segmentInfo X) 0 = some (false, a_aload 0 1) ∧ tget (tab_8_segmentInfo X) 1 = some (false, a_iload 1 2) ∧ tget (tab_8_segmentInfo X) 2 = some (false, a_cv X M_8_segmentInfo M_8_isSpread 8 2 5) ∧ tget (tab_8_segmentInfo X) 5 = some (false, a_if 0 22 8) ∧ tget (tab_8_segmentInfo X) 8 = some (false, a_iload 2 9) ∧ tget (tab_8_segmentInfo X) 9 = some (false, a_if 2 22 12) ∧ tget (tab_8_segmentInfo X) 12 = some (false, a_iload 3 13) ∧ tget (tab_8_segmentInfo X) 13 = some (false, a_const 0 14) ∧ tget (tab_8_segmentInfo X) 14 = some (false, a_const 7 16) ∧ tget (tab_8_segmentInfo X) 16 = some (false, a_sv X M_8_segmentInfo M_8_in 3 19) ∧ tget (tab_8_segmentInfo X) 19 = some (false, a_if 1 24 22) ∧ tget (tab_8_segmentInfo X) 22 = some (false, a_const (-1) 23) ∧ tget (tab_8_segmentInfo X) 23 = some (false, a_iret M_8_segmentInfo) ∧ tget (tab_8_segmentInfo X) 24 = some (false, a_iload 2 25) ∧ tget (tab_8_segmentInfo X) 25 = some (false, a_aload 0 26) ∧ tget (tab_8_segmentInfo X) 26 = some (false, a_gr 8 11 29) ∧ tget (tab_8_segmentInfo X) 29 = some (false, a_iload 1 30) ∧ tget (tab_8_segmentInfo X) 30 = some (false, a_const 1 31) ∧ tget (tab_8_segmentInfo X) 31 = some (false, a_add 32) ∧ tget (tab_8_segmentInfo X) 32 = some (false, a_ald false 33) ∧ tget (tab_8_segmentInfo X) 33 = some (false, a_aload 0 34) ∧ tget (tab_8_segmentInfo X) 34 = some (false, a_gr 8 11 37) ∧ tget (tab_8_segmentInfo X) 37 = some (false, a_iload 1 38) ∧ tget (tab_8_segmentInfo X) 38 = some (false, a_ald false 39) ∧ tget (tab_8_segmentInfo X) 39 = some (false, a_sub 40) ∧ tget (tab_8_segmentInfo X) 40 = some (false, a_icmp 2 46 43) ∧ tget (tab_8_segmentInfo X) 43 = some (false, a_const (-4) 45) ∧ tget (tab_8_segmentInfo X) 45 = some (false, a_iret M_8_segmentInfo) ∧ tget (tab_8_segmentInfo X) 46 = some (false, a_aload 0 47) ∧ tget (tab_8_segmentInfo X) 47 = some (false, a_gr 8 11 50) ∧ tget (tab_8_segmentInfo X) 50 = some (false, a_iload 1 51) ∧ tget (tab_8_segmentInfo X) 51 = some (false, a_ald false 52) ∧ tget (tab_8_segmentInfo X) 52 = some (false, a_iload 2 53) ∧ tget (tab_8_segmentInfo X) 53 = some (false, a_add 54) ∧ tget (tab_8_segmentInfo X) 54 = some (false, a_istore 4 56) ∧ tget (tab_8_segmentInfo X) 56 = some (false, a_iload 3 57) ∧ tget (tab_8_segmentInfo X) 57 = some (false, a_tsw 0 6 [100, 108, 118, 128, 140, 152, 162] 174) ∧ tget (tab_8_segmentInfo X) 100 = some (false, a_aload 0 101) ∧ tget (tab_8_segmentInfo X) 101 = some (false, a_gr 8 6 104) ∧ tget (tab_8_segmentInfo X) 104 = some (false, a_iload 4 106) ∧ tget (tab_8_segmentInfo X) 106 = some (false, a_ald false 107) ∧ tget (tab_8_segmentInfo X) 107 = some (false, a_iret M_8_segmentInfo) ∧ tget (tab_8_segmentInfo X) 108 = some (false, a_aload 0 109) ∧ tget (tab_8_segmentInfo X) 109 = some (false, a_gr 8 7 112) ∧ tget (tab_8_segmentInfo X) 112 = some (false, a_const 2 113) ∧ tget (tab_8_segmentInfo X) 113 = some (false, a_iload 4 115) ∧ tget (tab_8_segmentInfo X) 115 = some (false, a_mul 116) ∧ tget (tab_8_segmentInfo X) 116 = some (false, a_ald false 117) ∧ tget (tab_8_segmentInfo X) 117 = some (false, a_iret M_8_segmentInfo) ∧ tget (tab_8_segmentInfo X) 118 = some (false, a_aload 0 119) ∧ tget (tab_8_segmentInfo X) 119 = some (false, a_gr 8 8 122) ∧ tget (tab_8_segmentInfo X) 122 = some (false, a_const 2 123) ∧ tget (tab_8_segmentInfo X) 123 = some (false, a_iload 4 125) ∧ tget (tab_8_segmentInfo X) 125 = some (false, a_mul 126) ∧ tget (tab_8_segmentInfo X) 126 = some (false, a_ald false 127) ∧ tget (tab_8_segmentInfo X) 127 = some (false, a_iret M_8_segmentInfo) ∧ tget (tab_8_segmentInfo X) 128 = some (false, a_aload 0 129) ∧ tget (tab_8_segmentInfo X) 129 = some (false, a_gr 8 7 132) ∧ tget (tab_8_segmentInfo X) 132 = some (false, a_const 2 133) ∧ tget (tab_8_segmentInfo X) 133 = some (false, a_iload 4 135) ∧ tget (tab_8_segmentInfo X) 135 = some (false, a_mul 136) ∧ tget (tab_8_segmentInfo X) 136 = some (false, a_const 1 137) ∧ tget (tab_8_segmentInfo X) 137 = some (false, a_add 138) ∧ tget (tab_8_segmentInfo X) 138 = some (false, a_ald false 139) ∧ tget (tab_8_segmentInfo X) 139 = some (false, a_iret M_8_segmentInfo) ∧ tget (tab_8_segmentInfo X) 140 = some (false, a_aload 0 141) ∧ tget (tab_8_segmentInfo X) 141 = some (false, a_gr 8 8 144) ∧ tget (tab_8_segmentInfo X) 144 = some (false, a_const 2 145) ∧ tget (tab_8_segmentInfo X) 145 = some (false, a_iload 4 147) ∧ tget (tab_8_segmentInfo X) 147 = some (false, a_mul 148) ∧ tget (tab_8_segmentInfo X) 148 = some (false, a_const 1 149) ∧ tget (tab_8_segmentInfo X) 149 = some (false, a_add 150) ∧ tget (tab_8_segmentInfo X) 150 = some (false, a_ald false 151) ∧ tget (tab_8_segmentInfo X) 151 = some (false, a_iret M_8_segmentInfo) ∧ tget (tab_8_segmentInfo X) 152 = some (false, a_aload 0 153) ∧ tget (tab_8_segmentInfo X) 153 = some (false, a_gr 8 9 156) ∧ tget (tab_8_segmentInfo X) 156 = some (false, a_const 2 157) ∧ tget (tab_8_segmentInfo X) 157 = some (false, a_iload 4 159) ∧ tget (tab_8_segmentInfo X) 159 = some (false, a_mul 160) ∧ tget (tab_8_segmentInfo X) 160 = some (false, a_ald false 161) ∧ tget (tab_8_segmentInfo X) 161 = some (false, a_iret M_8_segmentInfo) ∧ tget (tab_8_segmentInfo X) 162 = some (false, a_aload 0 163) ∧ tget (tab_8_segmentInfo X) 163 = some (false, a_gr 8 9 166) ∧ tget (tab_8_segmentInfo X) 166 = some (false, a_const 2 167) ∧ tget (tab_8_segmentInfo X) 167 = some (false, a_iload 4 169) ∧ tget (tab_8_segmentInfo X) 169 = some (false, a_mul 170) ∧ tget (tab_8_segmentInfo X) 170 = some (false, a_const 1 171) ∧ tget (tab_8_segmentInfo X) 171 = some (false, a_add 172) ∧ tget (tab_8_segmentInfo X) 172 = some (false, a_ald false 173) ∧ tget (tab_8_segmentInfo X) 173 = some (false, a_iret M_8_segmentInfo) ∧ tget (tab_8_segmentInfo X) 174 = some (false, a_aload 0 175) ∧ tget (tab_8_segmentInfo X) 175 = some (false, a_gr 8 7 178) ∧ tget (tab_8_segmentInfo X) 178 = some (false, a_const 2 179) ∧ tget (tab_8_segmentInfo X) 179 = some (false, a_iload 4 181) ∧ tget (tab_8_segmentInfo X) 181 = some (false, a_mul 182) ∧ tget (tab_8_segmentInfo X) 182 = some (false, a_ald false 183) ∧ tget (tab_8_segmentInfo X) 183 = some (false, a_aload 0 184) ∧ tget (tab_8_segmentInfo X) 184 = some (false, a_gr 8 8 187) ∧ tget (tab_8_segmentInfo X) 187 = some (false, a_const 2 188) ∧ tget (tab_8_segmentInfo X) 188 = some (false, a_iload 4 190) ∧ tget (tab_8_segmentInfo X) 190 = some (false, a_mul 191) ∧ tget (tab_8_segmentInfo X) 191 = some (false, a_ald false 192) ∧ tget (tab_8_segmentInfo X) 192 = some (false, a_add 193) ∧ tget (tab_8_segmentInfo X) 193 = some (false, a_aload 0 194) ∧ tget (tab_8_segmentInfo X) 194 = some (false, a_aload 0 195) ∧ tget (tab_8_segmentInfo X) 195 = some (false, a_gr 8 6 198) ∧ tget (tab_8_segmentInfo X) 198 = some (false, a_iload 4 200) ∧ tget (tab_8_segmentInfo X) 200 = some (false, a_ald false 201) ∧ tget (tab_8_segmentInfo X) 201 = some (false, a_const 0 202) ∧ tget (tab_8_segmentInfo X) 202 = some (false, a_cv X M_8_segmentInfo M_8_lines 8 3 205) ∧ tget (tab_8_segmentInfo X) 205 = some (false, a_icmp 3 212 208) ∧ tget (tab_8_segmentInfo X) 208 = some (false, a_const 1 209) ∧ tget (tab_8_segmentInfo X) 209 = some (false, a_goto 213) ∧ tget (tab_8_segmentInfo X) 212 = some (false, a_const 0 213) ∧ tget (tab_8_segmentInfo X) 213 = some (false, a_iret M_8_segmentInfo) := ⟨rfl, rfl, rfl, rfl, rfl, rfl, rfl, rfl, rfl, rfl, rfl, rfl, rfl, rfl, rfl, rfl, rfl, rfl, rfl, rfl, rfl, rfl, rfl, rfl, rfl, rfl, rfl, rfl, rfl, rfl, rfl, rfl, rfl, rfl, rfl, rfl, rfl, rfl, rfl, rfl, rfl, rfl, rfl, rfl, rfl, rfl, rfl, rfl, rfl, rfl, rfl, rfl, rfl, rfl, rfl, rfl, rfl, rfl, rfl, rfl, rfl, rfl, rfl, rfl, rfl, rfl, rfl, rfl, rfl, rfl, rfl, rfl, rfl, rfl, rfl, rfl, rfl, rfl, rfl, rfl, rfl, rfl, rfl, rfl, rfl, rfl, rfl, rfl, rfl, rfl, rfl, rfl, rfl, rfl, rfl, rfl, rfl, rfl, rfl, rfl, rfl, rfl, rfl, rfl, rfl, rfl, rfl, rfl, rfl, rfl, rfl, rfl, rfl, rfl, rfl⟩
theorem tok_8_segmentInfo (X : XT) : TabOK X M_8_segmentInfo (tab_8_segmentInfo X) := by
  unfold tab_8_segmentInfo
  refine tok_cons (snd_aload_n dX8_segmentInfo_0 rfl rfl) ?_
  refine tok_cons (snd_iload_n dX8_segmentInfo_1 rfl rfl) ?_
  refine tok_cons (snd_cv dX8_segmentInfo_2 mok_8_isSpread ⟨wm8_151, wi_8_isSpread, wl_8_isSpread⟩ (rc := (RX8, TX8, 21)) rfl rfl pn_8_isSpread (by decide) ⟨rfl, rfl⟩ rfl) ?_
  refine tok_cons (snd_if_eq dX8_segmentInfo_5 (by decide) rfl) ?_
  refine tok_cons (snd_iload_n dX8_segmentInfo_8 rfl rfl) ?_
  refine tok_cons (snd_if_lt dX8_segmentInfo_9 (by decide) rfl) ?_
  refine tok_cons (snd_iload_n dX8_segmentInfo_12 rfl rfl) ?_
  refine tok_cons (snd_iconst dX8_segmentInfo_13 rfl (inr_d rfl) rfl) ?_
  refine tok_cons (snd_bipush dX8_segmentInfo_14 (by decide) (inr_d rfl) rfl) ?_
  refine tok_cons (snd_sv dX8_segmentInfo_16 mok_8_in ⟨ws_8_in, Or.inl ⟨wm8_62, rfl⟩⟩ pn_8_in (by decide) ⟨rfl, rfl⟩ rfl) ?_
  refine tok_cons (snd_if_ne dX8_segmentInfo_19 (by decide) rfl) ?_
  refine tok_cons (snd_iconst dX8_segmentInfo_22 rfl (inr_d rfl) rfl) ?_
  refine tok_cons (snd_iret dX8_segmentInfo_23 rfl) ?_
  refine tok_cons (snd_iload_n dX8_segmentInfo_24 rfl rfl) ?_
  refine tok_cons (snd_aload_n dX8_segmentInfo_25 rfl rfl) ?_
  refine tok_cons (snd_gr (C := RX8) (T := TX8) (N := 21) dX8_segmentInfo_26 rfl (by decide) rfl wf8_34 inX8 rfl) ?_
  refine tok_cons (snd_iload_n dX8_segmentInfo_29 rfl rfl) ?_
  refine tok_cons (snd_iconst dX8_segmentInfo_30 rfl (inr_d rfl) rfl) ?_
  refine tok_cons (snd_add dX8_segmentInfo_31 rfl) ?_
  refine tok_cons (snd_iald dX8_segmentInfo_32 rfl) ?_
  refine tok_cons (snd_aload_n dX8_segmentInfo_33 rfl rfl) ?_
  refine tok_cons (snd_gr (C := RX8) (T := TX8) (N := 21) dX8_segmentInfo_34 rfl (by decide) rfl wf8_34 inX8 rfl) ?_
  refine tok_cons (snd_iload_n dX8_segmentInfo_37 rfl rfl) ?_
  refine tok_cons (snd_iald dX8_segmentInfo_38 rfl) ?_
  refine tok_cons (snd_sub dX8_segmentInfo_39 rfl) ?_
  refine tok_cons (snd_icmp_lt dX8_segmentInfo_40 (by decide) rfl) ?_
  refine tok_cons (snd_bipush dX8_segmentInfo_43 (by decide) (inr_d rfl) rfl) ?_
  refine tok_cons (snd_iret dX8_segmentInfo_45 rfl) ?_
  refine tok_cons (snd_aload_n dX8_segmentInfo_46 rfl rfl) ?_
  refine tok_cons (snd_gr (C := RX8) (T := TX8) (N := 21) dX8_segmentInfo_47 rfl (by decide) rfl wf8_34 inX8 rfl) ?_
  refine tok_cons (snd_iload_n dX8_segmentInfo_50 rfl rfl) ?_
  refine tok_cons (snd_iald dX8_segmentInfo_51 rfl) ?_
  refine tok_cons (snd_iload_n dX8_segmentInfo_52 rfl rfl) ?_
  refine tok_cons (snd_add dX8_segmentInfo_53 rfl) ?_
  refine tok_cons (snd_istore dX8_segmentInfo_54 rfl (by decide)) ?_
  refine tok_cons (snd_iload_n dX8_segmentInfo_56 rfl rfl) ?_
  refine tok_cons (snd_tsw dX8_segmentInfo_57 (by decide) rfl rfl) ?_
  refine tok_cons (snd_aload_n dX8_segmentInfo_100 rfl rfl) ?_
  refine tok_cons (snd_gr (C := RX8) (T := TX8) (N := 21) dX8_segmentInfo_101 rfl (by decide) rfl wf8_22 inX8 rfl) ?_
  refine tok_cons (snd_iload dX8_segmentInfo_104 rfl) ?_
  refine tok_cons (snd_iald dX8_segmentInfo_106 rfl) ?_
  refine tok_cons (snd_iret dX8_segmentInfo_107 rfl) ?_
  refine tok_cons (snd_aload_n dX8_segmentInfo_108 rfl rfl) ?_
  refine tok_cons (snd_gr (C := RX8) (T := TX8) (N := 21) dX8_segmentInfo_109 rfl (by decide) rfl wf8_25 inX8 rfl) ?_
  refine tok_cons (snd_iconst dX8_segmentInfo_112 rfl (inr_d rfl) rfl) ?_
  refine tok_cons (snd_iload dX8_segmentInfo_113 rfl) ?_
  refine tok_cons (snd_mul dX8_segmentInfo_115 rfl) ?_
  refine tok_cons (snd_iald dX8_segmentInfo_116 rfl) ?_
  refine tok_cons (snd_iret dX8_segmentInfo_117 rfl) ?_
  refine tok_cons (snd_aload_n dX8_segmentInfo_118 rfl rfl) ?_
  refine tok_cons (snd_gr (C := RX8) (T := TX8) (N := 21) dX8_segmentInfo_119 rfl (by decide) rfl wf8_28 inX8 rfl) ?_
  refine tok_cons (snd_iconst dX8_segmentInfo_122 rfl (inr_d rfl) rfl) ?_
  refine tok_cons (snd_iload dX8_segmentInfo_123 rfl) ?_
  refine tok_cons (snd_mul dX8_segmentInfo_125 rfl) ?_
  refine tok_cons (snd_iald dX8_segmentInfo_126 rfl) ?_
  refine tok_cons (snd_iret dX8_segmentInfo_127 rfl) ?_
  refine tok_cons (snd_aload_n dX8_segmentInfo_128 rfl rfl) ?_
  refine tok_cons (snd_gr (C := RX8) (T := TX8) (N := 21) dX8_segmentInfo_129 rfl (by decide) rfl wf8_25 inX8 rfl) ?_
  refine tok_cons (snd_iconst dX8_segmentInfo_132 rfl (inr_d rfl) rfl) ?_
  refine tok_cons (snd_iload dX8_segmentInfo_133 rfl) ?_
  refine tok_cons (snd_mul dX8_segmentInfo_135 rfl) ?_
  refine tok_cons (snd_iconst dX8_segmentInfo_136 rfl (inr_d rfl) rfl) ?_
  refine tok_cons (snd_add dX8_segmentInfo_137 rfl) ?_
  refine tok_cons (snd_iald dX8_segmentInfo_138 rfl) ?_
  refine tok_cons (snd_iret dX8_segmentInfo_139 rfl) ?_
  refine tok_cons (snd_aload_n dX8_segmentInfo_140 rfl rfl) ?_
  refine tok_cons (snd_gr (C := RX8) (T := TX8) (N := 21) dX8_segmentInfo_141 rfl (by decide) rfl wf8_28 inX8 rfl) ?_
  refine tok_cons (snd_iconst dX8_segmentInfo_144 rfl (inr_d rfl) rfl) ?_
  refine tok_cons (snd_iload dX8_segmentInfo_145 rfl) ?_
  refine tok_cons (snd_mul dX8_segmentInfo_147 rfl) ?_
  refine tok_cons (snd_iconst dX8_segmentInfo_148 rfl (inr_d rfl) rfl) ?_
  refine tok_cons (snd_add dX8_segmentInfo_149 rfl) ?_
  refine tok_cons (snd_iald dX8_segmentInfo_150 rfl) ?_
  refine tok_cons (snd_iret dX8_segmentInfo_151 rfl) ?_
  refine tok_cons (snd_aload_n dX8_segmentInfo_152 rfl rfl) ?_
  refine tok_cons (snd_gr (C := RX8) (T := TX8) (N := 21) dX8_segmentInfo_153 rfl (by decide) rfl wf8_31 inX8 rfl) ?_
  refine tok_cons (snd_iconst dX8_segmentInfo_156 rfl (inr_d rfl) rfl) ?_
  refine tok_cons (snd_iload dX8_segmentInfo_157 rfl) ?_
  refine tok_cons (snd_mul dX8_segmentInfo_159 rfl) ?_
  refine tok_cons (snd_iald dX8_segmentInfo_160 rfl) ?_
  refine tok_cons (snd_iret dX8_segmentInfo_161 rfl) ?_
  refine tok_cons (snd_aload_n dX8_segmentInfo_162 rfl rfl) ?_
  refine tok_cons (snd_gr (C := RX8) (T := TX8) (N := 21) dX8_segmentInfo_163 rfl (by decide) rfl wf8_31 inX8 rfl) ?_
  refine tok_cons (snd_iconst dX8_segmentInfo_166 rfl (inr_d rfl) rfl) ?_
  refine tok_cons (snd_iload dX8_segmentInfo_167 rfl) ?_
  refine tok_cons (snd_mul dX8_segmentInfo_169 rfl) ?_
  refine tok_cons (snd_iconst dX8_segmentInfo_170 rfl (inr_d rfl) rfl) ?_
  refine tok_cons (snd_add dX8_segmentInfo_171 rfl) ?_
  refine tok_cons (snd_iald dX8_segmentInfo_172 rfl) ?_
  refine tok_cons (snd_iret dX8_segmentInfo_173 rfl) ?_
  refine tok_cons (snd_aload_n dX8_segmentInfo_174 rfl rfl) ?_
  refine tok_cons (snd_gr (C := RX8) (T := TX8) (N := 21) dX8_segmentInfo_175 rfl (by decide) rfl wf8_25 inX8 rfl) ?_
  refine tok_cons (snd_iconst dX8_segmentInfo_178 rfl (inr_d rfl) rfl) ?_
  refine tok_cons (snd_iload dX8_segmentInfo_179 rfl) ?_
  refine tok_cons (snd_mul dX8_segmentInfo_181 rfl) ?_
  refine tok_cons (snd_iald dX8_segmentInfo_182 rfl) ?_
  refine tok_cons (snd_aload_n dX8_segmentInfo_183 rfl rfl) ?_
  refine tok_cons (snd_gr (C := RX8) (T := TX8) (N := 21) dX8_segmentInfo_184 rfl (by decide) rfl wf8_28 inX8 rfl) ?_
  refine tok_cons (snd_iconst dX8_segmentInfo_187 rfl (inr_d rfl) rfl) ?_
  refine tok_cons (snd_iload dX8_segmentInfo_188 rfl) ?_
  refine tok_cons (snd_mul dX8_segmentInfo_190 rfl) ?_
  refine tok_cons (snd_iald dX8_segmentInfo_191 rfl) ?_
  refine tok_cons (snd_add dX8_segmentInfo_192 rfl) ?_
  refine tok_cons (snd_aload_n dX8_segmentInfo_193 rfl rfl) ?_
  refine tok_cons (snd_aload_n dX8_segmentInfo_194 rfl rfl) ?_
  refine tok_cons (snd_gr (C := RX8) (T := TX8) (N := 21) dX8_segmentInfo_195 rfl (by decide) rfl wf8_22 inX8 rfl) ?_
  refine tok_cons (snd_iload dX8_segmentInfo_198 rfl) ?_
  refine tok_cons (snd_iald dX8_segmentInfo_200 rfl) ?_
  refine tok_cons (snd_iconst dX8_segmentInfo_201 rfl (inr_d rfl) rfl) ?_
  refine tok_cons (snd_cv dX8_segmentInfo_202 mok_8_lines ⟨wm8_73, wi_8_lines, wl_8_lines⟩ (rc := (RX8, TX8, 21)) rfl rfl pn_8_lines (by decide) ⟨rfl, rfl⟩ rfl) ?_
  refine tok_cons (snd_icmp_ge dX8_segmentInfo_205 (by decide) rfl) ?_
  refine tok_cons (snd_iconst dX8_segmentInfo_208 rfl (inr_d rfl) rfl) ?_
  refine tok_cons (snd_goto dX8_segmentInfo_209 (by decide)) ?_
  refine tok_cons (snd_iconst dX8_segmentInfo_212 rfl (inr_d rfl) rfl) ?_
  refine tok_cons (snd_iret dX8_segmentInfo_213 rfl) ?_
  exact tok_nil
def tab_8_pageInfo (X : XT) : Tab := [(0, false, a_aload 0 1), (1, false, a_iload 1 2), (2, false, a_cv X M_8_pageInfo M_8_isSpread 8 2 5), (5, false, a_if 0 24 8), (8, false, a_iload 2 9), (9, false, a_sv X M_8_pageInfo M_8_isSide 1 12), (12, false, a_if 0 24 15), (15, false, a_iload 3 16), (16, false, a_const 0 17), (17, false, a_const 5 18), (18, false, a_sv X M_8_pageInfo M_8_in 3 21), (21, false, a_if 1 26 24), (24, false, a_const (-1) 25), (25, false, a_iret M_8_pageInfo), (26, false, a_const 2 27), (27, false, a_iload 1 28), (28, false, a_mul 29), (29, false, a_iload 2 30), (30, false, a_add 31), (31, false, a_istore 4 33), (33, false, a_iload 3 34), (34, false, a_tsw 0 4 [68, 76, 88, 95, 102] 110), (68, false, a_aload 0 69), (69, false, a_gr 8 13 72), (72, false, a_iload 4 74), (74, false, a_ald false 75), (75, false, a_iret M_8_pageInfo), (76, false, a_aload 0 77), (77, false, a_aload 0 78), (78, false, a_gr 8 14 81), (81, false, a_iload 4 83), (83, false, a_ald false 84), (84, false, a_cv X M_8_pageInfo M_8_rowsOf 8 2 87), (87, false, a_iret M_8_pageInfo), (88, false, a_aload 0 89), (89, false, a_iload 4 91), (91, false, a_cv X M_8_pageInfo M_8_blank 8 2 94), (94, false, a_iret M_8_pageInfo), (95, false, a_aload 0 96), (96, false, a_iload 1 97), (97, false, a_iload 2 98), (98, false, a_cv X M_8_pageInfo M_8_carriedTo 8 3 101), (101, false, a_iret M_8_pageInfo), (102, false, a_aload 0 103), (103, false, a_gr 8 15 106), (106, false, a_iload 4 108), (108, false, a_ald false 109), (109, false, a_iret M_8_pageInfo), (110, false, a_aload 0 111), (111, false, a_gr 8 16 114), (114, false, a_iload 4 116), (116, false, a_const 2 117), (117, false, a_add 118), (118, false, a_ald false 119), (119, false, a_aload 0 120), (120, false, a_gr 8 16 123), (123, false, a_iload 4 125), (125, false, a_ald false 126), (126, false, a_sub 127), (127, false, a_iret M_8_pageInfo)]
set_option maxRecDepth 20000 in
theorem t_8_pageInfo (X : XT) : tget (tab_8_pageInfo X) 0 = some (false, a_aload 0 1) ∧ tget (tab_8_pageInfo X) 1 = some (false, a_iload 1 2) ∧ tget (tab_8_pageInfo X) 2 = some (false, a_cv X M_8_pageInfo M_8_isSpread 8 2 5) ∧ tget (tab_8_pageInfo X) 5 = some (false, a_if 0 24 8) ∧ tget (tab_8_pageInfo X) 8 = some (false, a_iload 2 9) ∧ tget (tab_8_pageInfo X) 9 = some (false, a_sv X M_8_pageInfo M_8_isSide 1 12) ∧ tget (tab_8_pageInfo X) 12 = some (false, a_if 0 24 15) ∧ tget (tab_8_pageInfo X) 15 = some (false, a_iload 3 16) ∧ tget (tab_8_pageInfo X) 16 = some (false, a_const 0 17) ∧ tget (tab_8_pageInfo X) 17 = some (false, a_const 5 18) ∧ tget (tab_8_pageInfo X) 18 = some (false, a_sv X M_8_pageInfo M_8_in 3 21) ∧ tget (tab_8_pageInfo X) 21 = some (false, a_if 1 26 24) ∧ tget (tab_8_pageInfo X) 24 = some (false, a_const (-1) 25) ∧ tget (tab_8_pageInfo X) 25 = some (false, a_iret M_8_pageInfo) ∧ tget (tab_8_pageInfo X) 26 = some (false, a_const 2 27) ∧ tget (tab_8_pageInfo X) 27 = some (false, a_iload 1 28) ∧ tget (tab_8_pageInfo X) 28 = some (false, a_mul 29) ∧ tget (tab_8_pageInfo X) 29 = some (false, a_iload 2 30) ∧ tget (tab_8_pageInfo X) 30 = some (false, a_add 31) ∧ tget (tab_8_pageInfo X) 31 = some (false, a_istore 4 33) ∧ tget (tab_8_pageInfo X) 33 = some (false, a_iload 3 34) ∧ tget (tab_8_pageInfo X) 34 = some (false, a_tsw 0 4 [68, 76, 88, 95, 102] 110) ∧ tget (tab_8_pageInfo X) 68 = some (false, a_aload 0 69) ∧ tget (tab_8_pageInfo X) 69 = some (false, a_gr 8 13 72) ∧ tget (tab_8_pageInfo X) 72 = some (false, a_iload 4 74) ∧ tget (tab_8_pageInfo X) 74 = some (false, a_ald false 75) ∧ tget (tab_8_pageInfo X) 75 = some (false, a_iret M_8_pageInfo) ∧ tget (tab_8_pageInfo X) 76 = some (false, a_aload 0 77) ∧ tget (tab_8_pageInfo X) 77 = some (false, a_aload 0 78) ∧ tget (tab_8_pageInfo X) 78 = some (false, a_gr 8 14 81) ∧ tget (tab_8_pageInfo X) 81 = some (false, a_iload 4 83) ∧ tget (tab_8_pageInfo X) 83 = some (false, a_ald false 84) ∧ tget (tab_8_pageInfo X) 84 = some (false, a_cv X M_8_pageInfo M_8_rowsOf 8 2 87) ∧ tget (tab_8_pageInfo X) 87 = some (false, a_iret M_8_pageInfo) ∧ tget (tab_8_pageInfo X) 88 = some (false, a_aload 0 89) ∧ tget (tab_8_pageInfo X) 89 = some (false, a_iload 4 91) ∧ tget (tab_8_pageInfo X) 91 = some (false, a_cv X M_8_pageInfo M_8_blank 8 2 94) ∧ tget (tab_8_pageInfo X) 94 = some (false, a_iret M_8_pageInfo) ∧ tget (tab_8_pageInfo X) 95 = some (false, a_aload 0 96) ∧ tget (tab_8_pageInfo X) 96 = some (false, a_iload 1 97) ∧ tget (tab_8_pageInfo X) 97 = some (false, a_iload 2 98) ∧ tget (tab_8_pageInfo X) 98 = some (false, a_cv X M_8_pageInfo M_8_carriedTo 8 3 101) ∧ tget (tab_8_pageInfo X) 101 = some (false, a_iret M_8_pageInfo) ∧ tget (tab_8_pageInfo X) 102 = some (false, a_aload 0 103) ∧ tget (tab_8_pageInfo X) 103 = some (false, a_gr 8 15 106) ∧ tget (tab_8_pageInfo X) 106 = some (false, a_iload 4 108) ∧ tget (tab_8_pageInfo X) 108 = some (false, a_ald false 109) ∧ tget (tab_8_pageInfo X) 109 = some (false, a_iret M_8_pageInfo) ∧ tget (tab_8_pageInfo X) 110 = some (false, a_aload 0 111) ∧ tget (tab_8_pageInfo X) 111 = some (false, a_gr 8 16 114) ∧ tget (tab_8_pageInfo X) 114 = some (false, a_iload 4 116) ∧ tget (tab_8_pageInfo X) 116 = some (false, a_const 2 117) ∧ tget (tab_8_pageInfo X) 117 = some (false, a_add 118) ∧ tget (tab_8_pageInfo X) 118 = some (false, a_ald false 119) ∧ tget (tab_8_pageInfo X) 119 = some (false, a_aload 0 120) ∧ tget (tab_8_pageInfo X) 120 = some (false, a_gr 8 16 123) ∧ tget (tab_8_pageInfo X) 123 = some (false, a_iload 4 125) ∧ tget (tab_8_pageInfo X) 125 = some (false, a_ald false 126) ∧ tget (tab_8_pageInfo X) 126 = some (false, a_sub 127) ∧ tget (tab_8_pageInfo X) 127 = some (false, a_iret M_8_pageInfo) := ⟨rfl, rfl, rfl, rfl, rfl, rfl, rfl, rfl, rfl, rfl, rfl, rfl, rfl, rfl, rfl, rfl, rfl, rfl, rfl, rfl, rfl, rfl, rfl, rfl, rfl, rfl, rfl, rfl, rfl, rfl, rfl, rfl, rfl, rfl, rfl, rfl, rfl, rfl, rfl, rfl, rfl, rfl, rfl, rfl, rfl, rfl, rfl, rfl, rfl, rfl, rfl, rfl, rfl, rfl, rfl, rfl, rfl, rfl, rfl, rfl⟩
theorem tok_8_pageInfo (X : XT) : TabOK X M_8_pageInfo (tab_8_pageInfo X) := by
  unfold tab_8_pageInfo
  refine tok_cons (snd_aload_n dX8_pageInfo_0 rfl rfl) ?_
  refine tok_cons (snd_iload_n dX8_pageInfo_1 rfl rfl) ?_
  refine tok_cons (snd_cv dX8_pageInfo_2 mok_8_isSpread ⟨wm8_151, wi_8_isSpread, wl_8_isSpread⟩ (rc := (RX8, TX8, 21)) rfl rfl pn_8_isSpread (by decide) ⟨rfl, rfl⟩ rfl) ?_
  refine tok_cons (snd_if_eq dX8_pageInfo_5 (by decide) rfl) ?_
  refine tok_cons (snd_iload_n dX8_pageInfo_8 rfl rfl) ?_
  refine tok_cons (snd_sv dX8_pageInfo_9 mok_8_isSide ⟨ws_8_isSide, Or.inl ⟨wm8_70, rfl⟩⟩ pn_8_isSide (by decide) ⟨rfl, rfl⟩ rfl) ?_
  refine tok_cons (snd_if_eq dX8_pageInfo_12 (by decide) rfl) ?_
  refine tok_cons (snd_iload_n dX8_pageInfo_15 rfl rfl) ?_
  refine tok_cons (snd_iconst dX8_pageInfo_16 rfl (inr_d rfl) rfl) ?_
  refine tok_cons (snd_iconst dX8_pageInfo_17 rfl (inr_d rfl) rfl) ?_
  refine tok_cons (snd_sv dX8_pageInfo_18 mok_8_in ⟨ws_8_in, Or.inl ⟨wm8_62, rfl⟩⟩ pn_8_in (by decide) ⟨rfl, rfl⟩ rfl) ?_
  refine tok_cons (snd_if_ne dX8_pageInfo_21 (by decide) rfl) ?_
  refine tok_cons (snd_iconst dX8_pageInfo_24 rfl (inr_d rfl) rfl) ?_
  refine tok_cons (snd_iret dX8_pageInfo_25 rfl) ?_
  refine tok_cons (snd_iconst dX8_pageInfo_26 rfl (inr_d rfl) rfl) ?_
  refine tok_cons (snd_iload_n dX8_pageInfo_27 rfl rfl) ?_
  refine tok_cons (snd_mul dX8_pageInfo_28 rfl) ?_
  refine tok_cons (snd_iload_n dX8_pageInfo_29 rfl rfl) ?_
  refine tok_cons (snd_add dX8_pageInfo_30 rfl) ?_
  refine tok_cons (snd_istore dX8_pageInfo_31 rfl (by decide)) ?_
  refine tok_cons (snd_iload_n dX8_pageInfo_33 rfl rfl) ?_
  refine tok_cons (snd_tsw dX8_pageInfo_34 (by decide) rfl rfl) ?_
  refine tok_cons (snd_aload_n dX8_pageInfo_68 rfl rfl) ?_
  refine tok_cons (snd_gr (C := RX8) (T := TX8) (N := 21) dX8_pageInfo_69 rfl (by decide) rfl wf8_41 inX8 rfl) ?_
  refine tok_cons (snd_iload dX8_pageInfo_72 rfl) ?_
  refine tok_cons (snd_iald dX8_pageInfo_74 rfl) ?_
  refine tok_cons (snd_iret dX8_pageInfo_75 rfl) ?_
  refine tok_cons (snd_aload_n dX8_pageInfo_76 rfl rfl) ?_
  refine tok_cons (snd_aload_n dX8_pageInfo_77 rfl rfl) ?_
  refine tok_cons (snd_gr (C := RX8) (T := TX8) (N := 21) dX8_pageInfo_78 rfl (by decide) rfl wf8_44 inX8 rfl) ?_
  refine tok_cons (snd_iload dX8_pageInfo_81 rfl) ?_
  refine tok_cons (snd_iald dX8_pageInfo_83 rfl) ?_
  refine tok_cons (snd_cv dX8_pageInfo_84 mok_8_rowsOf ⟨wm8_124, wi_8_rowsOf, wl_8_rowsOf⟩ (rc := (RX8, TX8, 21)) rfl rfl pn_8_rowsOf (by decide) ⟨rfl, rfl⟩ rfl) ?_
  refine tok_cons (snd_iret dX8_pageInfo_87 rfl) ?_
  refine tok_cons (snd_aload_n dX8_pageInfo_88 rfl rfl) ?_
  refine tok_cons (snd_iload dX8_pageInfo_89 rfl) ?_
  refine tok_cons (snd_cv dX8_pageInfo_91 mok_8_blank ⟨wm8_154, wi_8_blank, wl_8_blank⟩ (rc := (RX8, TX8, 21)) rfl rfl pn_8_blank (by decide) ⟨rfl, rfl⟩ rfl) ?_
  refine tok_cons (snd_iret dX8_pageInfo_94 rfl) ?_
  refine tok_cons (snd_aload_n dX8_pageInfo_95 rfl rfl) ?_
  refine tok_cons (snd_iload_n dX8_pageInfo_96 rfl rfl) ?_
  refine tok_cons (snd_iload_n dX8_pageInfo_97 rfl rfl) ?_
  refine tok_cons (snd_cv dX8_pageInfo_98 mok_8_carriedTo ⟨wm8_105, wi_8_carriedTo, wl_8_carriedTo⟩ (rc := (RX8, TX8, 21)) rfl rfl pn_8_carriedTo (by decide) ⟨rfl, rfl⟩ rfl) ?_
  refine tok_cons (snd_iret dX8_pageInfo_101 rfl) ?_
  refine tok_cons (snd_aload_n dX8_pageInfo_102 rfl rfl) ?_
  refine tok_cons (snd_gr (C := RX8) (T := TX8) (N := 21) dX8_pageInfo_103 rfl (by decide) rfl wf8_47 inX8 rfl) ?_
  refine tok_cons (snd_iload dX8_pageInfo_106 rfl) ?_
  refine tok_cons (snd_iald dX8_pageInfo_108 rfl) ?_
  refine tok_cons (snd_iret dX8_pageInfo_109 rfl) ?_
  refine tok_cons (snd_aload_n dX8_pageInfo_110 rfl rfl) ?_
  refine tok_cons (snd_gr (C := RX8) (T := TX8) (N := 21) dX8_pageInfo_111 rfl (by decide) rfl wf8_50 inX8 rfl) ?_
  refine tok_cons (snd_iload dX8_pageInfo_114 rfl) ?_
  refine tok_cons (snd_iconst dX8_pageInfo_116 rfl (inr_d rfl) rfl) ?_
  refine tok_cons (snd_add dX8_pageInfo_117 rfl) ?_
  refine tok_cons (snd_iald dX8_pageInfo_118 rfl) ?_
  refine tok_cons (snd_aload_n dX8_pageInfo_119 rfl rfl) ?_
  refine tok_cons (snd_gr (C := RX8) (T := TX8) (N := 21) dX8_pageInfo_120 rfl (by decide) rfl wf8_50 inX8 rfl) ?_
  refine tok_cons (snd_iload dX8_pageInfo_123 rfl) ?_
  refine tok_cons (snd_iald dX8_pageInfo_125 rfl) ?_
  refine tok_cons (snd_sub dX8_pageInfo_126 rfl) ?_
  refine tok_cons (snd_iret dX8_pageInfo_127 rfl) ?_
  exact tok_nil
def tab_8_isOverfull (X : XT) : Tab := [(0, false, a_aload 0 1), (1, false, a_iload 1 2), (2, false, a_cv X M_8_isOverfull M_8_isSpread 8 2 5), (5, false, a_if 1 12 8), (8, false, a_const (-1) 9), (9, false, a_goto 26), (12, false, a_aload 0 13), (13, false, a_gr 8 12 16), (16, false, a_iload 1 17), (17, false, a_ald true 18), (18, false, a_if 0 25 21), (21, false, a_const 1 22), (22, false, a_goto 26), (25, false, a_const 0 26), (26, false, a_iret M_8_isOverfull)]
set_option maxRecDepth 20000 in
theorem t_8_isOverfull (X : XT) : tget (tab_8_isOverfull X) 0 = some (false, a_aload 0 1) ∧ tget (tab_8_isOverfull X) 1 = some (false, a_iload 1 2) ∧ tget (tab_8_isOverfull X) 2 = some (false, a_cv X M_8_isOverfull M_8_isSpread 8 2 5) ∧ tget (tab_8_isOverfull X) 5 = some (false, a_if 1 12 8) ∧ tget (tab_8_isOverfull X) 8 = some (false, a_const (-1) 9) ∧ tget (tab_8_isOverfull X) 9 = some (false, a_goto 26) ∧ tget (tab_8_isOverfull X) 12 = some (false, a_aload 0 13) ∧ tget (tab_8_isOverfull X) 13 = some (false, a_gr 8 12 16) ∧ tget (tab_8_isOverfull X) 16 = some (false, a_iload 1 17) ∧ tget (tab_8_isOverfull X) 17 = some (false, a_ald true 18) ∧ tget (tab_8_isOverfull X) 18 = some (false, a_if 0 25 21) ∧ tget (tab_8_isOverfull X) 21 = some (false, a_const 1 22) ∧ tget (tab_8_isOverfull X) 22 = some (false, a_goto 26) ∧ tget (tab_8_isOverfull X) 25 = some (false, a_const 0 26) ∧ tget (tab_8_isOverfull X) 26 = some (false, a_iret M_8_isOverfull) := ⟨rfl, rfl, rfl, rfl, rfl, rfl, rfl, rfl, rfl, rfl, rfl, rfl, rfl, rfl, rfl⟩
theorem tok_8_isOverfull (X : XT) : TabOK X M_8_isOverfull (tab_8_isOverfull X) := by
  unfold tab_8_isOverfull
  refine tok_cons (snd_aload_n dX8_isOverfull_0 rfl rfl) ?_
  refine tok_cons (snd_iload_n dX8_isOverfull_1 rfl rfl) ?_
  refine tok_cons (snd_cv dX8_isOverfull_2 mok_8_isSpread ⟨wm8_151, wi_8_isSpread, wl_8_isSpread⟩ (rc := (RX8, TX8, 21)) rfl rfl pn_8_isSpread (by decide) ⟨rfl, rfl⟩ rfl) ?_
  refine tok_cons (snd_if_ne dX8_isOverfull_5 (by decide) rfl) ?_
  refine tok_cons (snd_iconst dX8_isOverfull_8 rfl (inr_d rfl) rfl) ?_
  refine tok_cons (snd_goto dX8_isOverfull_9 (by decide)) ?_
  refine tok_cons (snd_aload_n dX8_isOverfull_12 rfl rfl) ?_
  refine tok_cons (snd_gr (C := RX8) (T := TX8) (N := 21) dX8_isOverfull_13 rfl (by decide) rfl wf8_37 inX8 rfl) ?_
  refine tok_cons (snd_iload_n dX8_isOverfull_16 rfl rfl) ?_
  refine tok_cons (snd_bald dX8_isOverfull_17 rfl) ?_
  refine tok_cons (snd_if_eq dX8_isOverfull_18 (by decide) rfl) ?_
  refine tok_cons (snd_iconst dX8_isOverfull_21 rfl (inr_d rfl) rfl) ?_
  refine tok_cons (snd_goto dX8_isOverfull_22 (by decide)) ?_
  refine tok_cons (snd_iconst dX8_isOverfull_25 rfl (inr_d rfl) rfl) ?_
  refine tok_cons (snd_iret dX8_isOverfull_26 rfl) ?_
  exact tok_nil
def tab_8_shown (X : XT) : Tab := [(0, false, a_aload 0 1), (1, false, a_iload 1 2), (2, false, a_cv X M_8_shown M_8_isSpread 8 2 5), (5, false, a_if 0 25 8), (8, false, a_iload 2 9), (9, false, a_sv X M_8_shown M_8_isSide 1 12), (12, false, a_if 0 25 15), (15, false, a_iload 3 16), (16, false, a_const 0 17), (17, false, a_const 99 19), (19, false, a_sv X M_8_shown M_8_in 3 22), (22, false, a_if 1 27 25), (25, false, a_const (-1) 26), (26, false, a_iret M_8_shown), (27, false, a_aload 0 28), (28, false, a_gr 8 11 31), (31, false, a_iload 1 32), (32, false, a_ald false 33), (33, false, a_istore 4 35), (35, true, a_iload 4 37), (37, false, a_aload 0 38), (38, false, a_gr 8 11 41), (41, false, a_iload 1 42), (42, false, a_const 1 43), (43, false, a_add 44), (44, false, a_ald false 45), (45, false, a_icmp 3 121 48), (48, false, a_iload 3 49), (49, false, a_aload 0 50), (50, false, a_gr 8 9 53), (53, false, a_const 2 54), (54, false, a_iload 4 56), (56, false, a_mul 57), (57, false, a_iload 2 58), (58, false, a_add 59), (59, false, a_ald false 60), (60, false, a_sub 61), (61, false, a_istore 5 63), (63, false, a_iload 5 65), (65, false, a_const 0 66), (66, false, a_aload 0 67), (67, false, a_gr 8 8 70), (70, false, a_const 2 71), (71, false, a_iload 4 73), (73, false, a_mul 74), (74, false, a_iload 2 75), (75, false, a_add 76), (76, false, a_ald false 77), (77, false, a_const 1 78), (78, false, a_sub 79), (79, false, a_sv X M_8_shown M_8_in 3 82), (82, false, a_if 0 115 85), (85, false, a_const 10000 88), (88, false, a_const 100 90), (90, false, a_aload 0 91), (91, false, a_gr 8 6 94), (94, false, a_iload 4 96), (96, false, a_ald false 97), (97, false, a_mul 98), (98, false, a_add 99), (99, false, a_aload 0 100), (100, false, a_gr 8 7 103), (103, false, a_const 2 104), (104, false, a_iload 4 106), (106, false, a_mul 107), (107, false, a_iload 2 108), (108, false, a_add 109), (109, false, a_ald false 110), (110, false, a_add 111), (111, false, a_iload 5 113), (113, false, a_add 114), (114, false, a_iret M_8_shown), (115, false, a_iinc 4 1 118), (118, false, a_goto 35), (121, false, a_const 2 122), (122, false, a_iload 1 123), (123, false, a_mul 124), (124, false, a_iload 2 125), (125, false, a_add 126), (126, false, a_istore 4 128), (128, false, a_aload 0 129), (129, false, a_aload 0 130), (130, false, a_gr 8 14 133), (133, false, a_iload 4 135), (135, false, a_ald false 136), (136, false, a_cv X M_8_shown M_8_rowsOf 8 2 139), (139, false, a_istore 5 141), (141, false, a_aload 0 142), (142, false, a_gr 8 0 145), (145, false, a_const 81 147), (147, false, a_ald false 148), (148, false, a_iload 5 150), (150, false, a_sub 151), (151, false, a_istore 6 153), (153, false, a_iload 6 155), (155, false, a_aload 0 156), (156, false, a_gr 8 13 159), (159, false, a_iload 4 161), (161, false, a_ald false 162), (162, false, a_icmp 3 175 165), (165, false, a_aload 0 166), (166, false, a_gr 8 13 169), (169, false, a_iload 4 171), (171, false, a_ald false 172), (172, false, a_goto 177), (175, false, a_iload 6 177), (177, false, a_istore 6 179), (179, false, a_iload 3 180), (180, false, a_iload 6 182), (182, false, a_iload 6 184), (184, false, a_iload 5 186), (186, false, a_add 187), (187, false, a_const 1 188), (188, false, a_sub 189), (189, false, a_sv X M_8_shown M_8_in 3 192), (192, false, a_if 1 197 195), (195, false, a_const 0 196), (196, false, a_iret M_8_shown), (197, false, a_iload 3 198), (198, false, a_iload 6 200), (200, false, a_aload 0 201), (201, false, a_gr 8 0 204), (204, false, a_const 83 206), (206, false, a_ald false 207), (207, false, a_add 208), (208, false, a_icmp 3 217 211), (211, false, a_const 30000 214), (214, false, a_goto 235), (217, false, a_aload 0 218), (218, false, a_iload 1 219), (219, false, a_iload 2 220), (220, false, a_iload 3 221), (221, false, a_iload 6 223), (223, false, a_sub 224), (224, false, a_aload 0 225), (225, false, a_gr 8 0 228), (228, false, a_const 83 230), (230, false, a_ald false 231), (231, false, a_sub 232), (232, false, a_cv X M_8_shown M_8_noteAt 8 4 235), (235, false, a_iret M_8_shown)]
set_option maxRecDepth 20000 in
theorem t_8_shown (X : XT) : tget (tab_8_shown X) 0 = some (false, a_aload 0 1) ∧ tget (tab_8_shown X) 1 = some (false, a_iload 1 2) ∧ tget (tab_8_shown X) 2 = some (false, a_cv X M_8_shown M_8_isSpread 8 2 5) ∧ tget (tab_8_shown X) 5 = some (false, a_if 0 25 8) ∧ tget (tab_8_shown X) 8 = some (false, a_iload 2 9) ∧ tget (tab_8_shown X) 9 = some (false, a_sv X M_8_shown M_8_isSide 1 12) ∧ tget (tab_8_shown X) 12 = some (false, a_if 0 25 15) ∧ tget (tab_8_shown X) 15 = some (false, a_iload 3 16) ∧ tget (tab_8_shown X) 16 = some (false, a_const 0 17) ∧ tget (tab_8_shown X) 17 = some (false, a_const 99 19) ∧ tget (tab_8_shown X) 19 = some (false, a_sv X M_8_shown M_8_in 3 22) ∧ tget (tab_8_shown X) 22 = some (false, a_if 1 27 25) ∧ tget (tab_8_shown X) 25 = some (false, a_const (-1) 26) ∧ tget (tab_8_shown X) 26 = some (false, a_iret M_8_shown) ∧ tget (tab_8_shown X) 27 = some (false, a_aload 0 28) ∧ tget (tab_8_shown X) 28 = some (false, a_gr 8 11 31) ∧ tget (tab_8_shown X) 31 = some (false, a_iload 1 32) ∧ tget (tab_8_shown X) 32 = some (false, a_ald false 33) ∧ tget (tab_8_shown X) 33 = some (false, a_istore 4 35) ∧ tget (tab_8_shown X) 35 = some (true, a_iload 4 37) ∧ tget (tab_8_shown X) 37 = some (false, a_aload 0 38) ∧ tget (tab_8_shown X) 38 = some (false, a_gr 8 11 41) ∧ tget (tab_8_shown X) 41 = some (false, a_iload 1 42) ∧ tget (tab_8_shown X) 42 = some (false, a_const 1 43) ∧ tget (tab_8_shown X) 43 = some (false, a_add 44) ∧ tget (tab_8_shown X) 44 = some (false, a_ald false 45) ∧ tget (tab_8_shown X) 45 = some (false, a_icmp 3 121 48) ∧ tget (tab_8_shown X) 48 = some (false, a_iload 3 49) ∧ tget (tab_8_shown X) 49 = some (false, a_aload 0 50) ∧ tget (tab_8_shown X) 50 = some (false, a_gr 8 9 53) ∧ tget (tab_8_shown X) 53 = some (false, a_const 2 54) ∧ tget (tab_8_shown X) 54 = some (false, a_iload 4 56) ∧ tget (tab_8_shown X) 56 = some (false, a_mul 57) ∧ tget (tab_8_shown X) 57 = some (false, a_iload 2 58) ∧ tget (tab_8_shown X) 58 = some (false, a_add 59) ∧ tget (tab_8_shown X) 59 = some (false, a_ald false 60) ∧ tget (tab_8_shown X) 60 = some (false, a_sub 61) ∧ tget (tab_8_shown X) 61 = some (false, a_istore 5 63) ∧ tget (tab_8_shown X) 63 = some (false, a_iload 5 65) ∧ tget (tab_8_shown X) 65 = some (false, a_const 0 66) ∧ tget (tab_8_shown X) 66 = some (false, a_aload 0 67) ∧ tget (tab_8_shown X) 67 = some (false, a_gr 8 8 70) ∧ tget (tab_8_shown X) 70 = some (false, a_const 2 71) ∧ tget (tab_8_shown X) 71 = some (false, a_iload 4 73) ∧ tget (tab_8_shown X) 73 = some (false, a_mul 74) ∧ tget (tab_8_shown X) 74 = some (false, a_iload 2 75) ∧ tget (tab_8_shown X) 75 = some (false, a_add 76) ∧ tget (tab_8_shown X) 76 = some (false, a_ald false 77) ∧ tget (tab_8_shown X) 77 = some (false, a_const 1 78) ∧ tget (tab_8_shown X) 78 = some (false, a_sub 79) ∧ tget (tab_8_shown X) 79 = some (false, a_sv X M_8_shown M_8_in 3 82) ∧ tget (tab_8_shown X) 82 = some (false, a_if 0 115 85) ∧ tget (tab_8_shown X) 85 = some (false, a_const 10000 88) ∧ tget (tab_8_shown X) 88 = some (false, a_const 100 90) ∧ tget (tab_8_shown X) 90 = some (false, a_aload 0 91) ∧ tget (tab_8_shown X) 91 = some (false, a_gr 8 6 94) ∧ tget (tab_8_shown X) 94 = some (false, a_iload 4 96) ∧ tget (tab_8_shown X) 96 = some (false, a_ald false 97) ∧ tget (tab_8_shown X) 97 = some (false, a_mul 98) ∧ tget (tab_8_shown X) 98 = some (false, a_add 99) ∧ tget (tab_8_shown X) 99 = some (false, a_aload 0 100) ∧ tget (tab_8_shown X) 100 = some (false, a_gr 8 7 103) ∧ tget (tab_8_shown X) 103 = some (false, a_const 2 104) ∧ tget (tab_8_shown X) 104 = some (false, a_iload 4 106) ∧ tget (tab_8_shown X) 106 = some (false, a_mul 107) ∧ tget (tab_8_shown X) 107 = some (false, a_iload 2 108) ∧ tget (tab_8_shown X) 108 = some (false, a_add 109) ∧ tget (tab_8_shown X) 109 = some (false, a_ald false 110) ∧ tget (tab_8_shown X) 110 = some (false, a_add 111) ∧ tget (tab_8_shown X) 111 = some (false, a_iload 5 113) ∧ tget (tab_8_shown X) 113 = some (false, a_add 114) ∧ tget (tab_8_shown X) 114 = some (false, a_iret M_8_shown) ∧ tget (tab_8_shown X) 115 = some (false, a_iinc 4 1 118) ∧ tget (tab_8_shown X) 118 = some (false, a_goto 35) ∧ tget (tab_8_shown X) 121 = some (false, a_const 2 122) ∧ tget (tab_8_shown X) 122 = some (false, a_iload 1 123) ∧ tget (tab_8_shown X) 123 = some (false, a_mul 124) ∧ tget (tab_8_shown X) 124 = some (false, a_iload 2 125) ∧ tget (tab_8_shown X) 125 = some (false, a_add 126) ∧ tget (tab_8_shown X) 126 = some (false, a_istore 4 128) ∧ tget (tab_8_shown X) 128 = some (false, a_aload 0 129) ∧ tget (tab_8_shown X) 129 = some (false, a_aload 0 130) ∧ tget (tab_8_shown X) 130 = some (false, a_gr 8 14 133) ∧ tget (tab_8_shown X) 133 = some (false, a_iload 4 135) ∧ tget (tab_8_shown X) 135 = some (false, a_ald false 136) ∧ tget (tab_8_shown X) 136 = some (false, a_cv X M_8_shown M_8_rowsOf 8 2 139) ∧ tget (tab_8_shown X) 139 = some (false, a_istore 5 141) ∧ tget (tab_8_shown X) 141 = some (false, a_aload 0 142) ∧ tget (tab_8_shown X) 142 = some (false, a_gr 8 0 145) ∧ tget (tab_8_shown X) 145 = some (false, a_const 81 147) ∧ tget (tab_8_shown X) 147 = some (false, a_ald false 148) ∧ tget (tab_8_shown X) 148 = some (false, a_iload 5 150) ∧ tget (tab_8_shown X) 150 = some (false, a_sub 151) ∧ tget (tab_8_shown X) 151 = some (false, a_istore 6 153) ∧ tget (tab_8_shown X) 153 = some (false, a_iload 6 155) ∧ tget (tab_8_shown X) 155 = some (false, a_aload 0 156) ∧ tget (tab_8_shown X) 156 = some (false, a_gr 8 13 159) ∧ tget (tab_8_shown X) 159 = some (false, a_iload 4 161) ∧ tget (tab_8_shown X) 161 = some (false, a_ald false 162) ∧ tget (tab_8_shown X) 162 = some (false, a_icmp 3 175 165) ∧ tget (tab_8_shown X) 165 = some (false, a_aload 0 166) ∧ tget (tab_8_shown X) 166 = some (false, a_gr 8 13 169) ∧ tget (tab_8_shown X) 169 = some (false, a_iload 4 171) ∧ tget (tab_8_shown X) 171 = some (false, a_ald false 172) ∧ tget (tab_8_shown X) 172 = some (false, a_goto 177) ∧ tget (tab_8_shown X) 175 = some (false, a_iload 6 177) ∧ tget (tab_8_shown X) 177 = some (false, a_istore 6 179) ∧ tget (tab_8_shown X) 179 = some (false, a_iload 3 180) ∧ tget (tab_8_shown X) 180 = some (false, a_iload 6 182) ∧ tget (tab_8_shown X) 182 = some (false, a_iload 6 184) ∧ tget (tab_8_shown X) 184 = some (false, a_iload 5 186) ∧ tget (tab_8_shown X) 186 = some (false, a_add 187) ∧ tget (tab_8_shown X) 187 = some (false, a_const 1 188) ∧ tget (tab_8_shown X) 188 = some (false, a_sub 189) ∧ tget (tab_8_shown X) 189 = some (false, a_sv X M_8_shown M_8_in 3 192) ∧ tget (tab_8_shown X) 192 = some (false, a_if 1 197 195) ∧ tget (tab_8_shown X) 195 = some (false, a_const 0 196) ∧ tget (tab_8_shown X) 196 = some (false, a_iret M_8_shown) ∧ tget (tab_8_shown X) 197 = some (false, a_iload 3 198) ∧ tget (tab_8_shown X) 198 = some (false, a_iload 6 200) ∧ tget (tab_8_shown X) 200 = some (false, a_aload 0 201) ∧ tget (tab_8_shown X) 201 = some (false, a_gr 8 0 204) ∧ tget (tab_8_shown X) 204 = some (false, a_const 83 206) ∧ tget (tab_8_shown X) 206 = some (false, a_ald false 207) ∧ tget (tab_8_shown X) 207 = some (false, a_add 208) ∧ tget (tab_8_shown X) 208 = some (false, a_icmp 3 217 211) ∧ tget (tab_8_shown X) 211 = some (false, a_const 30000 214) ∧ tget (tab_8_shown X) 214 = some (false, a_goto 235) ∧ tget (tab_8_shown X) 217 = some (false, a_aload 0 218) ∧ tget (tab_8_shown X) 218 = some (false, a_iload 1 219) ∧ tget (tab_8_shown X) 219 = some (false, a_iload 2 220) ∧ tget (tab_8_shown X) 220 = some (false, a_iload 3 221) ∧ tget (tab_8_shown X) 221 = some (false, a_iload 6 223) ∧ tget (tab_8_shown X) 223 = some (false, a_sub 224) ∧ tget (tab_8_shown X) 224 = some (false, a_aload 0 225) ∧ tget (tab_8_shown X) 225 = some (false, a_gr 8 0 228) ∧ tget (tab_8_shown X) 228 = some (false, a_const 83 230) ∧ tget (tab_8_shown X) 230 = some (false, a_ald false 231) ∧ tget (tab_8_shown X) 231 = some (false, a_sub 232) ∧ tget (tab_8_shown X) 232 = some (false, a_cv X M_8_shown M_8_noteAt 8 4 235) ∧ tget (tab_8_shown X) 235 = some (false, a_iret M_8_shown) := ⟨rfl, rfl, rfl, rfl, rfl, rfl, rfl, rfl, rfl, rfl, rfl, rfl, rfl, rfl, rfl, rfl, rfl, rfl, rfl, rfl, rfl, rfl, rfl, rfl, rfl, rfl, rfl, rfl, rfl, rfl, rfl, rfl, rfl, rfl, rfl, rfl, rfl, rfl, rfl, rfl, rfl, rfl, rfl, rfl, rfl, rfl, rfl, rfl, rfl, rfl, rfl, rfl, rfl, rfl, rfl, rfl, rfl, rfl, rfl, rfl, rfl, rfl, rfl, rfl, rfl, rfl, rfl, rfl, rfl, rfl, rfl, rfl, rfl, rfl, rfl, rfl, rfl, rfl, rfl, rfl, rfl, rfl, rfl, rfl, rfl, rfl, rfl, rfl, rfl, rfl, rfl, rfl, rfl, rfl, rfl, rfl, rfl, rfl, rfl, rfl, rfl, rfl, rfl, rfl, rfl, rfl, rfl, rfl, rfl, rfl, rfl, rfl, rfl, rfl, rfl, rfl, rfl, rfl, rfl, rfl, rfl, rfl, rfl, rfl, rfl, rfl, rfl, rfl, rfl, rfl, rfl, rfl, rfl, rfl, rfl, rfl, rfl, rfl, rfl, rfl, rfl⟩
theorem tok_8_shown (X : XT) : TabOK X M_8_shown (tab_8_shown X) := by
  unfold tab_8_shown
  refine tok_cons (snd_aload_n dX8_shown_0 rfl rfl) ?_
  refine tok_cons (snd_iload_n dX8_shown_1 rfl rfl) ?_
  refine tok_cons (snd_cv dX8_shown_2 mok_8_isSpread ⟨wm8_151, wi_8_isSpread, wl_8_isSpread⟩ (rc := (RX8, TX8, 21)) rfl rfl pn_8_isSpread (by decide) ⟨rfl, rfl⟩ rfl) ?_
  refine tok_cons (snd_if_eq dX8_shown_5 (by decide) rfl) ?_
  refine tok_cons (snd_iload_n dX8_shown_8 rfl rfl) ?_
  refine tok_cons (snd_sv dX8_shown_9 mok_8_isSide ⟨ws_8_isSide, Or.inl ⟨wm8_70, rfl⟩⟩ pn_8_isSide (by decide) ⟨rfl, rfl⟩ rfl) ?_
  refine tok_cons (snd_if_eq dX8_shown_12 (by decide) rfl) ?_
  refine tok_cons (snd_iload_n dX8_shown_15 rfl rfl) ?_
  refine tok_cons (snd_iconst dX8_shown_16 rfl (inr_d rfl) rfl) ?_
  refine tok_cons (snd_bipush dX8_shown_17 (by decide) (inr_d rfl) rfl) ?_
  refine tok_cons (snd_sv dX8_shown_19 mok_8_in ⟨ws_8_in, Or.inl ⟨wm8_62, rfl⟩⟩ pn_8_in (by decide) ⟨rfl, rfl⟩ rfl) ?_
  refine tok_cons (snd_if_ne dX8_shown_22 (by decide) rfl) ?_
  refine tok_cons (snd_iconst dX8_shown_25 rfl (inr_d rfl) rfl) ?_
  refine tok_cons (snd_iret dX8_shown_26 rfl) ?_
  refine tok_cons (snd_aload_n dX8_shown_27 rfl rfl) ?_
  refine tok_cons (snd_gr (C := RX8) (T := TX8) (N := 21) dX8_shown_28 rfl (by decide) rfl wf8_34 inX8 rfl) ?_
  refine tok_cons (snd_iload_n dX8_shown_31 rfl rfl) ?_
  refine tok_cons (snd_iald dX8_shown_32 rfl) ?_
  refine tok_cons (snd_istore dX8_shown_33 rfl (by decide)) ?_
  refine tok_cons (snd_iload dX8_shown_35 rfl) ?_
  refine tok_cons (snd_aload_n dX8_shown_37 rfl rfl) ?_
  refine tok_cons (snd_gr (C := RX8) (T := TX8) (N := 21) dX8_shown_38 rfl (by decide) rfl wf8_34 inX8 rfl) ?_
  refine tok_cons (snd_iload_n dX8_shown_41 rfl rfl) ?_
  refine tok_cons (snd_iconst dX8_shown_42 rfl (inr_d rfl) rfl) ?_
  refine tok_cons (snd_add dX8_shown_43 rfl) ?_
  refine tok_cons (snd_iald dX8_shown_44 rfl) ?_
  refine tok_cons (snd_icmp_ge dX8_shown_45 (by decide) rfl) ?_
  refine tok_cons (snd_iload_n dX8_shown_48 rfl rfl) ?_
  refine tok_cons (snd_aload_n dX8_shown_49 rfl rfl) ?_
  refine tok_cons (snd_gr (C := RX8) (T := TX8) (N := 21) dX8_shown_50 rfl (by decide) rfl wf8_31 inX8 rfl) ?_
  refine tok_cons (snd_iconst dX8_shown_53 rfl (inr_d rfl) rfl) ?_
  refine tok_cons (snd_iload dX8_shown_54 rfl) ?_
  refine tok_cons (snd_mul dX8_shown_56 rfl) ?_
  refine tok_cons (snd_iload_n dX8_shown_57 rfl rfl) ?_
  refine tok_cons (snd_add dX8_shown_58 rfl) ?_
  refine tok_cons (snd_iald dX8_shown_59 rfl) ?_
  refine tok_cons (snd_sub dX8_shown_60 rfl) ?_
  refine tok_cons (snd_istore dX8_shown_61 rfl (by decide)) ?_
  refine tok_cons (snd_iload dX8_shown_63 rfl) ?_
  refine tok_cons (snd_iconst dX8_shown_65 rfl (inr_d rfl) rfl) ?_
  refine tok_cons (snd_aload_n dX8_shown_66 rfl rfl) ?_
  refine tok_cons (snd_gr (C := RX8) (T := TX8) (N := 21) dX8_shown_67 rfl (by decide) rfl wf8_28 inX8 rfl) ?_
  refine tok_cons (snd_iconst dX8_shown_70 rfl (inr_d rfl) rfl) ?_
  refine tok_cons (snd_iload dX8_shown_71 rfl) ?_
  refine tok_cons (snd_mul dX8_shown_73 rfl) ?_
  refine tok_cons (snd_iload_n dX8_shown_74 rfl rfl) ?_
  refine tok_cons (snd_add dX8_shown_75 rfl) ?_
  refine tok_cons (snd_iald dX8_shown_76 rfl) ?_
  refine tok_cons (snd_iconst dX8_shown_77 rfl (inr_d rfl) rfl) ?_
  refine tok_cons (snd_sub dX8_shown_78 rfl) ?_
  refine tok_cons (snd_sv dX8_shown_79 mok_8_in ⟨ws_8_in, Or.inl ⟨wm8_62, rfl⟩⟩ pn_8_in (by decide) ⟨rfl, rfl⟩ rfl) ?_
  refine tok_cons (snd_if_eq dX8_shown_82 (by decide) rfl) ?_
  refine tok_cons (snd_sipush dX8_shown_85 (by decide) (inr_d rfl) rfl) ?_
  refine tok_cons (snd_bipush dX8_shown_88 (by decide) (inr_d rfl) rfl) ?_
  refine tok_cons (snd_aload_n dX8_shown_90 rfl rfl) ?_
  refine tok_cons (snd_gr (C := RX8) (T := TX8) (N := 21) dX8_shown_91 rfl (by decide) rfl wf8_22 inX8 rfl) ?_
  refine tok_cons (snd_iload dX8_shown_94 rfl) ?_
  refine tok_cons (snd_iald dX8_shown_96 rfl) ?_
  refine tok_cons (snd_mul dX8_shown_97 rfl) ?_
  refine tok_cons (snd_add dX8_shown_98 rfl) ?_
  refine tok_cons (snd_aload_n dX8_shown_99 rfl rfl) ?_
  refine tok_cons (snd_gr (C := RX8) (T := TX8) (N := 21) dX8_shown_100 rfl (by decide) rfl wf8_25 inX8 rfl) ?_
  refine tok_cons (snd_iconst dX8_shown_103 rfl (inr_d rfl) rfl) ?_
  refine tok_cons (snd_iload dX8_shown_104 rfl) ?_
  refine tok_cons (snd_mul dX8_shown_106 rfl) ?_
  refine tok_cons (snd_iload_n dX8_shown_107 rfl rfl) ?_
  refine tok_cons (snd_add dX8_shown_108 rfl) ?_
  refine tok_cons (snd_iald dX8_shown_109 rfl) ?_
  refine tok_cons (snd_add dX8_shown_110 rfl) ?_
  refine tok_cons (snd_iload dX8_shown_111 rfl) ?_
  refine tok_cons (snd_add dX8_shown_113 rfl) ?_
  refine tok_cons (snd_iret dX8_shown_114 rfl) ?_
  refine tok_cons (snd_iinc dX8_shown_115 rfl rfl (by decide)) ?_
  refine tok_cons (snd_goto dX8_shown_118 (by decide)) ?_
  refine tok_cons (snd_iconst dX8_shown_121 rfl (inr_d rfl) rfl) ?_
  refine tok_cons (snd_iload_n dX8_shown_122 rfl rfl) ?_
  refine tok_cons (snd_mul dX8_shown_123 rfl) ?_
  refine tok_cons (snd_iload_n dX8_shown_124 rfl rfl) ?_
  refine tok_cons (snd_add dX8_shown_125 rfl) ?_
  refine tok_cons (snd_istore dX8_shown_126 rfl (by decide)) ?_
  refine tok_cons (snd_aload_n dX8_shown_128 rfl rfl) ?_
  refine tok_cons (snd_aload_n dX8_shown_129 rfl rfl) ?_
  refine tok_cons (snd_gr (C := RX8) (T := TX8) (N := 21) dX8_shown_130 rfl (by decide) rfl wf8_44 inX8 rfl) ?_
  refine tok_cons (snd_iload dX8_shown_133 rfl) ?_
  refine tok_cons (snd_iald dX8_shown_135 rfl) ?_
  refine tok_cons (snd_cv dX8_shown_136 mok_8_rowsOf ⟨wm8_124, wi_8_rowsOf, wl_8_rowsOf⟩ (rc := (RX8, TX8, 21)) rfl rfl pn_8_rowsOf (by decide) ⟨rfl, rfl⟩ rfl) ?_
  refine tok_cons (snd_istore dX8_shown_139 rfl (by decide)) ?_
  refine tok_cons (snd_aload_n dX8_shown_141 rfl rfl) ?_
  refine tok_cons (snd_gr (C := RX8) (T := TX8) (N := 21) dX8_shown_142 rfl (by decide) rfl wf8_7 inX8 rfl) ?_
  refine tok_cons (snd_bipush dX8_shown_145 (by decide) (inr_d rfl) rfl) ?_
  refine tok_cons (snd_iald dX8_shown_147 rfl) ?_
  refine tok_cons (snd_iload dX8_shown_148 rfl) ?_
  refine tok_cons (snd_sub dX8_shown_150 rfl) ?_
  refine tok_cons (snd_istore dX8_shown_151 rfl (by decide)) ?_
  refine tok_cons (snd_iload dX8_shown_153 rfl) ?_
  refine tok_cons (snd_aload_n dX8_shown_155 rfl rfl) ?_
  refine tok_cons (snd_gr (C := RX8) (T := TX8) (N := 21) dX8_shown_156 rfl (by decide) rfl wf8_41 inX8 rfl) ?_
  refine tok_cons (snd_iload dX8_shown_159 rfl) ?_
  refine tok_cons (snd_iald dX8_shown_161 rfl) ?_
  refine tok_cons (snd_icmp_ge dX8_shown_162 (by decide) rfl) ?_
  refine tok_cons (snd_aload_n dX8_shown_165 rfl rfl) ?_
  refine tok_cons (snd_gr (C := RX8) (T := TX8) (N := 21) dX8_shown_166 rfl (by decide) rfl wf8_41 inX8 rfl) ?_
  refine tok_cons (snd_iload dX8_shown_169 rfl) ?_
  refine tok_cons (snd_iald dX8_shown_171 rfl) ?_
  refine tok_cons (snd_goto dX8_shown_172 (by decide)) ?_
  refine tok_cons (snd_iload dX8_shown_175 rfl) ?_
  refine tok_cons (snd_istore dX8_shown_177 rfl (by decide)) ?_
  refine tok_cons (snd_iload_n dX8_shown_179 rfl rfl) ?_
  refine tok_cons (snd_iload dX8_shown_180 rfl) ?_
  refine tok_cons (snd_iload dX8_shown_182 rfl) ?_
  refine tok_cons (snd_iload dX8_shown_184 rfl) ?_
  refine tok_cons (snd_add dX8_shown_186 rfl) ?_
  refine tok_cons (snd_iconst dX8_shown_187 rfl (inr_d rfl) rfl) ?_
  refine tok_cons (snd_sub dX8_shown_188 rfl) ?_
  refine tok_cons (snd_sv dX8_shown_189 mok_8_in ⟨ws_8_in, Or.inl ⟨wm8_62, rfl⟩⟩ pn_8_in (by decide) ⟨rfl, rfl⟩ rfl) ?_
  refine tok_cons (snd_if_ne dX8_shown_192 (by decide) rfl) ?_
  refine tok_cons (snd_iconst dX8_shown_195 rfl (inr_d rfl) rfl) ?_
  refine tok_cons (snd_iret dX8_shown_196 rfl) ?_
  refine tok_cons (snd_iload_n dX8_shown_197 rfl rfl) ?_
  refine tok_cons (snd_iload dX8_shown_198 rfl) ?_
  refine tok_cons (snd_aload_n dX8_shown_200 rfl rfl) ?_
  refine tok_cons (snd_gr (C := RX8) (T := TX8) (N := 21) dX8_shown_201 rfl (by decide) rfl wf8_7 inX8 rfl) ?_
  refine tok_cons (snd_bipush dX8_shown_204 (by decide) (inr_d rfl) rfl) ?_
  refine tok_cons (snd_iald dX8_shown_206 rfl) ?_
  refine tok_cons (snd_add dX8_shown_207 rfl) ?_
  refine tok_cons (snd_icmp_ge dX8_shown_208 (by decide) rfl) ?_
  refine tok_cons (snd_sipush dX8_shown_211 (by decide) (inr_d rfl) rfl) ?_
  refine tok_cons (snd_goto dX8_shown_214 (by decide)) ?_
  refine tok_cons (snd_aload_n dX8_shown_217 rfl rfl) ?_
  refine tok_cons (snd_iload_n dX8_shown_218 rfl rfl) ?_
  refine tok_cons (snd_iload_n dX8_shown_219 rfl rfl) ?_
  refine tok_cons (snd_iload_n dX8_shown_220 rfl rfl) ?_
  refine tok_cons (snd_iload dX8_shown_221 rfl) ?_
  refine tok_cons (snd_sub dX8_shown_223 rfl) ?_
  refine tok_cons (snd_aload_n dX8_shown_224 rfl rfl) ?_
  refine tok_cons (snd_gr (C := RX8) (T := TX8) (N := 21) dX8_shown_225 rfl (by decide) rfl wf8_7 inX8 rfl) ?_
  refine tok_cons (snd_bipush dX8_shown_228 (by decide) (inr_d rfl) rfl) ?_
  refine tok_cons (snd_iald dX8_shown_230 rfl) ?_
  refine tok_cons (snd_sub dX8_shown_231 rfl) ?_
  refine tok_cons (snd_cv dX8_shown_232 mok_8_noteAt ⟨wm8_160, wi_8_noteAt, wl_8_noteAt⟩ (rc := (RX8, TX8, 21)) rfl rfl pn_8_noteAt (by decide) ⟨rfl, rfl⟩ rfl) ?_
  refine tok_cons (snd_iret dX8_shown_235 rfl) ?_
  exact tok_nil
