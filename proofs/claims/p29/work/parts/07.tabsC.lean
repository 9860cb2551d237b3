def tab_0_isAllowed (X : XT) : Tab := [(0, false, a_aload 0 1), (1, false, a_gr 0 3 4), (4, false, a_const 0 5), (5, false, a_ald false 6), (6, false, a_const (-1) 7), (7, false, a_icmp 0 14 10), (10, false, a_const 1 11), (11, false, a_goto 15), (14, false, a_const 0 15), (15, false, a_zret M_0_isAllowed)]
set_option maxRecDepth 20000 in
theorem t_0_isAllowed (X : XT) : tget (tab_0_isAllowed X) 0 = some (false, a_aload 0 1) ∧ tget (tab_0_isAllowed X) 1 = some (false, a_gr 0 3 4) ∧ tget (tab_0_isAllowed X) 4 = some (false, a_const 0 5) ∧ tget (tab_0_isAllowed X) 5 = some (false, a_ald false 6) ∧ tget (tab_0_isAllowed X) 6 = some (false, a_const (-1) 7) ∧ tget (tab_0_isAllowed X) 7 = some (false, a_icmp 0 14 10) ∧ tget (tab_0_isAllowed X) 10 = some (false, a_const 1 11) ∧ tget (tab_0_isAllowed X) 11 = some (false, a_goto 15) ∧ tget (tab_0_isAllowed X) 14 = some (false, a_const 0 15) ∧ tget (tab_0_isAllowed X) 15 = some (false, a_zret M_0_isAllowed) := ⟨rfl, rfl, rfl, rfl, rfl, rfl, rfl, rfl, rfl, rfl⟩
theorem tok_0_isAllowed (X : XT) : TabOK X M_0_isAllowed (tab_0_isAllowed X) := by
  unfold tab_0_isAllowed
  refine tok_cons (snd_aload_n dX0_isAllowed_0 rfl rfl) ?_
  refine tok_cons (snd_gr (C := RX0) (T := TX0) (N := 7) dX0_isAllowed_1 rfl (by decide) rfl wf0_15 inX0 rfl) ?_
  refine tok_cons (snd_iconst dX0_isAllowed_4 rfl (inr_d rfl) rfl) ?_
  refine tok_cons (snd_iald dX0_isAllowed_5 rfl) ?_
  refine tok_cons (snd_iconst dX0_isAllowed_6 rfl (inr_d rfl) rfl) ?_
  refine tok_cons (snd_icmp_eq dX0_isAllowed_7 (by decide) rfl) ?_
  refine tok_cons (snd_iconst dX0_isAllowed_10 rfl (inr_d rfl) rfl) ?_
  refine tok_cons (snd_goto dX0_isAllowed_11 (by decide)) ?_
  refine tok_cons (snd_iconst dX0_isAllowed_14 rfl (inr_d rfl) rfl) ?_
  refine tok_cons (snd_zret dX0_isAllowed_15 rfl) ?_
  exact tok_nil
def tab_1_notes (X : XT) : Tab := [(0, false, a_iload 1 1), (1, false, a_if 1 11 4), (4, false, a_aload 0 5), (5, false, a_gr 1 2 8), (8, false, a_goto 15), (11, false, a_aload 0 12), (12, false, a_gr 1 3 15), (15, false, a_aret M_1_notes)]
set_option maxRecDepth 20000 in
theorem t_1_notes (X : XT) : tget (tab_1_notes X) 0 = some (false, a_iload 1 1) ∧ tget (tab_1_notes X) 1 = some (false, a_if 1 11 4) ∧ tget (tab_1_notes X) 4 = some (false, a_aload 0 5) ∧ tget (tab_1_notes X) 5 = some (false, a_gr 1 2 8) ∧ tget (tab_1_notes X) 8 = some (false, a_goto 15) ∧ tget (tab_1_notes X) 11 = some (false, a_aload 0 12) ∧ tget (tab_1_notes X) 12 = some (false, a_gr 1 3 15) ∧ tget (tab_1_notes X) 15 = some (false, a_aret M_1_notes) := ⟨rfl, rfl, rfl, rfl, rfl, rfl, rfl, rfl⟩
theorem tok_1_notes (X : XT) : TabOK X M_1_notes (tab_1_notes X) := by
  unfold tab_1_notes
  refine tok_cons (snd_iload_n dX1_notes_0 rfl rfl) ?_
  refine tok_cons (snd_if_ne dX1_notes_1 (by decide) rfl) ?_
  refine tok_cons (snd_aload_n dX1_notes_4 rfl rfl) ?_
  refine tok_cons (snd_gr (C := RX1) (T := TX1) (N := 5) dX1_notes_5 rfl (by decide) rfl wf1_19 inX1 rfl) ?_
  refine tok_cons (snd_goto dX1_notes_8 (by decide)) ?_
  refine tok_cons (snd_aload_n dX1_notes_11 rfl rfl) ?_
  refine tok_cons (snd_gr (C := RX1) (T := TX1) (N := 5) dX1_notes_12 rfl (by decide) rfl wf1_23 inX1 rfl) ?_
  refine tok_cons (snd_aret dX1_notes_15 rfl (Or.inl ⟨_, rfl⟩)) ?_
  exact tok_nil
def tab_2_turn (X : XT) : Tab := [(0, false, a_aload 0 1), (1, false, a_gr 2 0 4), (4, false, a_iload 1 5), (5, false, a_const 0 6), (6, false, a_ast false 7), (7, false, a_aload 0 8), (8, false, a_gr 2 1 11), (11, false, a_iload 1 12), (12, false, a_const 0 13), (13, false, a_ast false 14), (14, false, a_aload 0 15), (15, false, a_gr 2 2 18), (18, false, a_iload 1 19), (19, false, a_iload 2 20), (20, false, a_ast false 21), (21, false, a_aload 0 22), (22, false, a_gr 2 3 25), (25, false, a_iload 1 26), (26, false, a_iload 3 27), (27, false, a_ast false 28), (28, false, a_aload 0 29), (29, false, a_gr 2 4 32), (32, false, a_iload 1 33), (33, false, a_const 0 34), (34, false, a_ast false 35), (35, false, a_aload 0 36), (36, false, a_gr 2 5 39), (39, false, a_iload 1 40), (40, false, a_const 0 41), (41, false, a_ast false 42), (42, false, a_aload 0 43), (43, false, a_gr 2 6 46), (46, false, a_iload 1 47), (47, false, a_const 0 48), (48, false, a_ast false 49), (49, false, a_ret M_2_turn)]
set_option maxRecDepth 20000 in
theorem t_2_turn (X : XT) : tget (tab_2_turn X) 0 = some (false, a_aload 0 1) ∧ tget (tab_2_turn X) 1 = some (false, a_gr 2 0 4) ∧ tget (tab_2_turn X) 4 = some (false, a_iload 1 5) ∧ tget (tab_2_turn X) 5 = some (false, a_const 0 6) ∧ tget (tab_2_turn X) 6 = some (false, a_ast false 7) ∧ tget (tab_2_turn X) 7 = some (false, a_aload 0 8) ∧ tget (tab_2_turn X) 8 = some (false, a_gr 2 1 11) ∧ tget (tab_2_turn X) 11 = some (false, a_iload 1 12) ∧ tget (tab_2_turn X) 12 = some (false, a_const 0 13) ∧ tget (tab_2_turn X) 13 = some (false, a_ast false 14) ∧ tget (tab_2_turn X) 14 = some (false, a_aload 0 15) ∧ tget (tab_2_turn X) 15 = some (false, a_gr 2 2 18) ∧ tget (tab_2_turn X) 18 = some (false, a_iload 1 19) ∧ tget (tab_2_turn X) 19 = some (false, a_iload 2 20) ∧ tget (tab_2_turn X) 20 = some (false, a_ast false 21) ∧ tget (tab_2_turn X) 21 = some (false, a_aload 0 22) ∧ tget (tab_2_turn X) 22 = some (false, a_gr 2 3 25) ∧ tget (tab_2_turn X) 25 = some (false, a_iload 1 26) ∧ tget (tab_2_turn X) 26 = some (false, a_iload 3 27) ∧ tget (tab_2_turn X) 27 = some (false, a_ast false 28) ∧ tget (tab_2_turn X) 28 = some (false, a_aload 0 29) ∧ tget (tab_2_turn X) 29 = some (false, a_gr 2 4 32) ∧ tget (tab_2_turn X) 32 = some (false, a_iload 1 33) ∧ tget (tab_2_turn X) 33 = some (false, a_const 0 34) ∧ tget (tab_2_turn X) 34 = some (false, a_ast false 35) ∧ tget (tab_2_turn X) 35 = some (false, a_aload 0 36) ∧ tget (tab_2_turn X) 36 = some (false, a_gr 2 5 39) ∧ tget (tab_2_turn X) 39 = some (false, a_iload 1 40) ∧ tget (tab_2_turn X) 40 = some (false, a_const 0 41) ∧ tget (tab_2_turn X) 41 = some (false, a_ast false 42) ∧ tget (tab_2_turn X) 42 = some (false, a_aload 0 43) ∧ tget (tab_2_turn X) 43 = some (false, a_gr 2 6 46) ∧ tget (tab_2_turn X) 46 = some (false, a_iload 1 47) ∧ tget (tab_2_turn X) 47 = some (false, a_const 0 48) ∧ tget (tab_2_turn X) 48 = some (false, a_ast false 49) ∧ tget (tab_2_turn X) 49 = some (false, a_ret M_2_turn) := ⟨rfl, rfl, rfl, rfl, rfl, rfl, rfl, rfl, rfl, rfl, rfl, rfl, rfl, rfl, rfl, rfl, rfl, rfl, rfl, rfl, rfl, rfl, rfl, rfl, rfl, rfl, rfl, rfl, rfl, rfl, rfl, rfl, rfl, rfl, rfl, rfl⟩
theorem tok_2_turn (X : XT) : TabOK X M_2_turn (tab_2_turn X) := by
  unfold tab_2_turn
  refine tok_cons (snd_aload_n dX2_turn_0 rfl rfl) ?_
  refine tok_cons (snd_gr (C := RX2) (T := TX2) (N := 7) dX2_turn_1 rfl (by decide) rfl wf2_9 inX2 rfl) ?_
  refine tok_cons (snd_iload_n dX2_turn_4 rfl rfl) ?_
  refine tok_cons (snd_iconst dX2_turn_5 rfl (inr_d rfl) rfl) ?_
  refine tok_cons (snd_iast dX2_turn_6 rfl) ?_
  refine tok_cons (snd_aload_n dX2_turn_7 rfl rfl) ?_
  refine tok_cons (snd_gr (C := RX2) (T := TX2) (N := 7) dX2_turn_8 rfl (by decide) rfl wf2_15 inX2 rfl) ?_
  refine tok_cons (snd_iload_n dX2_turn_11 rfl rfl) ?_
  refine tok_cons (snd_iconst dX2_turn_12 rfl (inr_d rfl) rfl) ?_
  refine tok_cons (snd_iast dX2_turn_13 rfl) ?_
  refine tok_cons (snd_aload_n dX2_turn_14 rfl rfl) ?_
  refine tok_cons (snd_gr (C := RX2) (T := TX2) (N := 7) dX2_turn_15 rfl (by decide) rfl wf2_18 inX2 rfl) ?_
  refine tok_cons (snd_iload_n dX2_turn_18 rfl rfl) ?_
  refine tok_cons (snd_iload_n dX2_turn_19 rfl rfl) ?_
  refine tok_cons (snd_iast dX2_turn_20 rfl) ?_
  refine tok_cons (snd_aload_n dX2_turn_21 rfl rfl) ?_
  refine tok_cons (snd_gr (C := RX2) (T := TX2) (N := 7) dX2_turn_22 rfl (by decide) rfl wf2_21 inX2 rfl) ?_
  refine tok_cons (snd_iload_n dX2_turn_25 rfl rfl) ?_
  refine tok_cons (snd_iload_n dX2_turn_26 rfl rfl) ?_
  refine tok_cons (snd_iast dX2_turn_27 rfl) ?_
  refine tok_cons (snd_aload_n dX2_turn_28 rfl rfl) ?_
  refine tok_cons (snd_gr (C := RX2) (T := TX2) (N := 7) dX2_turn_29 rfl (by decide) rfl wf2_24 inX2 rfl) ?_
  refine tok_cons (snd_iload_n dX2_turn_32 rfl rfl) ?_
  refine tok_cons (snd_iconst dX2_turn_33 rfl (inr_d rfl) rfl) ?_
  refine tok_cons (snd_iast dX2_turn_34 rfl) ?_
  refine tok_cons (snd_aload_n dX2_turn_35 rfl rfl) ?_
  refine tok_cons (snd_gr (C := RX2) (T := TX2) (N := 7) dX2_turn_36 rfl (by decide) rfl wf2_27 inX2 rfl) ?_
  refine tok_cons (snd_iload_n dX2_turn_39 rfl rfl) ?_
  refine tok_cons (snd_iconst dX2_turn_40 rfl (inr_d rfl) rfl) ?_
  refine tok_cons (snd_iast dX2_turn_41 rfl) ?_
  refine tok_cons (snd_aload_n dX2_turn_42 rfl rfl) ?_
  refine tok_cons (snd_gr (C := RX2) (T := TX2) (N := 7) dX2_turn_43 rfl (by decide) rfl wf2_30 inX2 rfl) ?_
  refine tok_cons (snd_iload_n dX2_turn_46 rfl rfl) ?_
  refine tok_cons (snd_iconst dX2_turn_47 rfl (inr_d rfl) rfl) ?_
  refine tok_cons (snd_iast dX2_turn_48 rfl) ?_
  refine tok_cons (snd_ret dX2_turn_49 rfl) ?_
  exact tok_nil
def tab_2_copyFrom (X : XT) : Tab := [(0, false, a_aload 1 1), (1, false, a_gr 2 0 4), (4, false, a_const 0 5), (5, false, a_aload 0 6), (6, false, a_gr 2 0 9), (9, false, a_const 0 10), (10, false, a_const 2 11), (11, false, a_copy 14), (14, false, a_aload 1 15), (15, false, a_gr 2 1 18), (18, false, a_const 0 19), (19, false, a_aload 0 20), (20, false, a_gr 2 1 23), (23, false, a_const 0 24), (24, false, a_const 2 25), (25, false, a_copy 28), (28, false, a_aload 1 29), (29, false, a_gr 2 2 32), (32, false, a_const 0 33), (33, false, a_aload 0 34), (34, false, a_gr 2 2 37), (37, false, a_const 0 38), (38, false, a_const 2 39), (39, false, a_copy 42), (42, false, a_aload 1 43), (43, false, a_gr 2 3 46), (46, false, a_const 0 47), (47, false, a_aload 0 48), (48, false, a_gr 2 3 51), (51, false, a_const 0 52), (52, false, a_const 2 53), (53, false, a_copy 56), (56, false, a_aload 1 57), (57, false, a_gr 2 4 60), (60, false, a_const 0 61), (61, false, a_aload 0 62), (62, false, a_gr 2 4 65), (65, false, a_const 0 66), (66, false, a_const 2 67), (67, false, a_copy 70), (70, false, a_aload 1 71), (71, false, a_gr 2 5 74), (74, false, a_const 0 75), (75, false, a_aload 0 76), (76, false, a_gr 2 5 79), (79, false, a_const 0 80), (80, false, a_const 2 81), (81, false, a_copy 84), (84, false, a_aload 1 85), (85, false, a_gr 2 6 88), (88, false, a_const 0 89), (89, false, a_aload 0 90), (90, false, a_gr 2 6 93), (93, false, a_const 0 94), (94, false, a_const 2 95), (95, false, a_copy 98), (98, false, a_ret M_2_copyFrom)]
set_option maxRecDepth 20000 in
theorem t_2_copyFrom (X : XT) : tget (tab_2_copyFrom X) 0 = some (false, a_aload 1 1) ∧ tget (tab_2_copyFrom X) 1 = some (false, a_gr 2 0 4) ∧ tget (tab_2_copyFrom X) 4 = some (false, a_const 0 5) ∧ tget (tab_2_copyFrom X) 5 = some (false, a_aload 0 6) ∧ tget (tab_2_copyFrom X) 6 = some (false, a_gr 2 0 9) ∧ tget (tab_2_copyFrom X) 9 = some (false, a_const 0 10) ∧ tget (tab_2_copyFrom X) 10 = some (false, a_const 2 11) ∧ tget (tab_2_copyFrom X) 11 = some (false, a_copy 14) ∧ tget (tab_2_copyFrom X) 14 = some (false, a_aload 1 15) ∧ tget (tab_2_copyFrom X) 15 = some (false, a_gr 2 1 18) ∧ tget (tab_2_copyFrom X) 18 = some (false, a_const 0 19) ∧ tget (tab_2_copyFrom X) 19 = some (false, a_aload 0 20) ∧ tget (tab_2_copyFrom X) 20 = some (false, a_gr 2 1 23) ∧ tget (tab_2_copyFrom X) 23 = some (false, a_const 0 24) ∧ tget (tab_2_copyFrom X) 24 = some (false, a_const 2 25) ∧ tget (tab_2_copyFrom X) 25 = some (false, a_copy 28) ∧ tget (tab_2_copyFrom X) 28 = some (false, a_aload 1 29) ∧ tget (tab_2_copyFrom X) 29 = some (false, a_gr 2 2 32) ∧ tget (tab_2_copyFrom X) 32 = some (false, a_const 0 33) ∧ tget (tab_2_copyFrom X) 33 = some (false, a_aload 0 34) ∧ tget (tab_2_copyFrom X) 34 = some (false, a_gr 2 2 37) ∧ tget (tab_2_copyFrom X) 37 = some (false, a_const 0 38) ∧ tget (tab_2_copyFrom X) 38 = some (false, a_const 2 39) ∧ tget (tab_2_copyFrom X) 39 = some (false, a_copy 42) ∧ tget (tab_2_copyFrom X) 42 = some (false, a_aload 1 43) ∧ tget (tab_2_copyFrom X) 43 = some (false, a_gr 2 3 46) ∧ tget (tab_2_copyFrom X) 46 = some (false, a_const 0 47) ∧ tget (tab_2_copyFrom X) 47 = some (false, a_aload 0 48) ∧ tget (tab_2_copyFrom X) 48 = some (false, a_gr 2 3 51) ∧ tget (tab_2_copyFrom X) 51 = some (false, a_const 0 52) ∧ tget (tab_2_copyFrom X) 52 = some (false, a_const 2 53) ∧ tget (tab_2_copyFrom X) 53 = some (false, a_copy 56) ∧ tget (tab_2_copyFrom X) 56 = some (false, a_aload 1 57) ∧ tget (tab_2_copyFrom X) 57 = some (false, a_gr 2 4 60) ∧ tget (tab_2_copyFrom X) 60 = some (false, a_const 0 61) ∧ tget (tab_2_copyFrom X) 61 = some (false, a_aload 0 62) ∧ tget (tab_2_copyFrom X) 62 = some (false, a_gr 2 4 65) ∧ tget (tab_2_copyFrom X) 65 = some (false, a_const 0 66) ∧ tget (tab_2_copyFrom X) 66 = some (false, a_const 2 67) ∧ tget (tab_2_copyFrom X) 67 = some (false, a_copy 70) ∧ tget (tab_2_copyFrom X) 70 = some (false, a_aload 1 71) ∧ tget (tab_2_copyFrom X) 71 = some (false, a_gr 2 5 74) ∧ tget (tab_2_copyFrom X) 74 = some (false, a_const 0 75) ∧ tget (tab_2_copyFrom X) 75 = some (false, a_aload 0 76) ∧ tget (tab_2_copyFrom X) 76 = some (false, a_gr 2 5 79) ∧ tget (tab_2_copyFrom X) 79 = some (false, a_const 0 80) ∧ tget (tab_2_copyFrom X) 80 = some (false, a_const 2 81) ∧ tget (tab_2_copyFrom X) 81 = some (false, a_copy 84) ∧ tget (tab_2_copyFrom X) 84 = some (false, a_aload 1 85) ∧ tget (tab_2_copyFrom X) 85 = some (false, a_gr 2 6 88) ∧ tget (tab_2_copyFrom X) 88 = some (false, a_const 0 89) ∧ tget (tab_2_copyFrom X) 89 = some (false, a_aload 0 90) ∧ tget (tab_2_copyFrom X) 90 = some (false, a_gr 2 6 93) ∧ tget (tab_2_copyFrom X) 93 = some (false, a_const 0 94) ∧ tget (tab_2_copyFrom X) 94 = some (false, a_const 2 95) ∧ tget (tab_2_copyFrom X) 95 = some (false, a_copy 98) ∧ tget (tab_2_copyFrom X) 98 = some (false, a_ret M_2_copyFrom) := ⟨rfl, rfl, rfl, rfl, rfl, rfl, rfl, rfl, rfl, rfl, rfl, rfl, rfl, rfl, rfl, rfl, rfl, rfl, rfl, rfl, rfl, rfl, rfl, rfl, rfl, rfl, rfl, rfl, rfl, rfl, rfl, rfl, rfl, rfl, rfl, rfl, rfl, rfl, rfl, rfl, rfl, rfl, rfl, rfl, rfl, rfl, rfl, rfl, rfl, rfl, rfl, rfl, rfl, rfl, rfl, rfl, rfl⟩
theorem tok_2_copyFrom (X : XT) : TabOK X M_2_copyFrom (tab_2_copyFrom X) := by
  unfold tab_2_copyFrom
  refine tok_cons (snd_aload_n dX2_copyFrom_0 rfl rfl) ?_
  refine tok_cons (snd_gr (C := RX2) (T := TX2) (N := 7) dX2_copyFrom_1 rfl (by decide) rfl wf2_9 inX2 rfl) ?_
  refine tok_cons (snd_iconst dX2_copyFrom_4 rfl (inr_d rfl) rfl) ?_
  refine tok_cons (snd_aload_n dX2_copyFrom_5 rfl rfl) ?_
  refine tok_cons (snd_gr (C := RX2) (T := TX2) (N := 7) dX2_copyFrom_6 rfl (by decide) rfl wf2_9 inX2 rfl) ?_
  refine tok_cons (snd_iconst dX2_copyFrom_9 rfl (inr_d rfl) rfl) ?_
  refine tok_cons (snd_iconst dX2_copyFrom_10 rfl (inr_d rfl) rfl) ?_
  refine tok_cons (snd_copy dX2_copyFrom_11 wm2_33 wnat ws_acopy wn_Sys (by decide) rfl) ?_
  refine tok_cons (snd_aload_n dX2_copyFrom_14 rfl rfl) ?_
  refine tok_cons (snd_gr (C := RX2) (T := TX2) (N := 7) dX2_copyFrom_15 rfl (by decide) rfl wf2_15 inX2 rfl) ?_
  refine tok_cons (snd_iconst dX2_copyFrom_18 rfl (inr_d rfl) rfl) ?_
  refine tok_cons (snd_aload_n dX2_copyFrom_19 rfl rfl) ?_
  refine tok_cons (snd_gr (C := RX2) (T := TX2) (N := 7) dX2_copyFrom_20 rfl (by decide) rfl wf2_15 inX2 rfl) ?_
  refine tok_cons (snd_iconst dX2_copyFrom_23 rfl (inr_d rfl) rfl) ?_
  refine tok_cons (snd_iconst dX2_copyFrom_24 rfl (inr_d rfl) rfl) ?_
  refine tok_cons (snd_copy dX2_copyFrom_25 wm2_33 wnat ws_acopy wn_Sys (by decide) rfl) ?_
  refine tok_cons (snd_aload_n dX2_copyFrom_28 rfl rfl) ?_
  refine tok_cons (snd_gr (C := RX2) (T := TX2) (N := 7) dX2_copyFrom_29 rfl (by decide) rfl wf2_18 inX2 rfl) ?_
  refine tok_cons (snd_iconst dX2_copyFrom_32 rfl (inr_d rfl) rfl) ?_
  refine tok_cons (snd_aload_n dX2_copyFrom_33 rfl rfl) ?_
  refine tok_cons (snd_gr (C := RX2) (T := TX2) (N := 7) dX2_copyFrom_34 rfl (by decide) rfl wf2_18 inX2 rfl) ?_
  refine tok_cons (snd_iconst dX2_copyFrom_37 rfl (inr_d rfl) rfl) ?_
  refine tok_cons (snd_iconst dX2_copyFrom_38 rfl (inr_d rfl) rfl) ?_
  refine tok_cons (snd_copy dX2_copyFrom_39 wm2_33 wnat ws_acopy wn_Sys (by decide) rfl) ?_
  refine tok_cons (snd_aload_n dX2_copyFrom_42 rfl rfl) ?_
  refine tok_cons (snd_gr (C := RX2) (T := TX2) (N := 7) dX2_copyFrom_43 rfl (by decide) rfl wf2_21 inX2 rfl) ?_
  refine tok_cons (snd_iconst dX2_copyFrom_46 rfl (inr_d rfl) rfl) ?_
  refine tok_cons (snd_aload_n dX2_copyFrom_47 rfl rfl) ?_
  refine tok_cons (snd_gr (C := RX2) (T := TX2) (N := 7) dX2_copyFrom_48 rfl (by decide) rfl wf2_21 inX2 rfl) ?_
  refine tok_cons (snd_iconst dX2_copyFrom_51 rfl (inr_d rfl) rfl) ?_
  refine tok_cons (snd_iconst dX2_copyFrom_52 rfl (inr_d rfl) rfl) ?_
  refine tok_cons (snd_copy dX2_copyFrom_53 wm2_33 wnat ws_acopy wn_Sys (by decide) rfl) ?_
  refine tok_cons (snd_aload_n dX2_copyFrom_56 rfl rfl) ?_
  refine tok_cons (snd_gr (C := RX2) (T := TX2) (N := 7) dX2_copyFrom_57 rfl (by decide) rfl wf2_24 inX2 rfl) ?_
  refine tok_cons (snd_iconst dX2_copyFrom_60 rfl (inr_d rfl) rfl) ?_
  refine tok_cons (snd_aload_n dX2_copyFrom_61 rfl rfl) ?_
  refine tok_cons (snd_gr (C := RX2) (T := TX2) (N := 7) dX2_copyFrom_62 rfl (by decide) rfl wf2_24 inX2 rfl) ?_
  refine tok_cons (snd_iconst dX2_copyFrom_65 rfl (inr_d rfl) rfl) ?_
  refine tok_cons (snd_iconst dX2_copyFrom_66 rfl (inr_d rfl) rfl) ?_
  refine tok_cons (snd_copy dX2_copyFrom_67 wm2_33 wnat ws_acopy wn_Sys (by decide) rfl) ?_
  refine tok_cons (snd_aload_n dX2_copyFrom_70 rfl rfl) ?_
  refine tok_cons (snd_gr (C := RX2) (T := TX2) (N := 7) dX2_copyFrom_71 rfl (by decide) rfl wf2_27 inX2 rfl) ?_
  refine tok_cons (snd_iconst dX2_copyFrom_74 rfl (inr_d rfl) rfl) ?_
  refine tok_cons (snd_aload_n dX2_copyFrom_75 rfl rfl) ?_
  refine tok_cons (snd_gr (C := RX2) (T := TX2) (N := 7) dX2_copyFrom_76 rfl (by decide) rfl wf2_27 inX2 rfl) ?_
  refine tok_cons (snd_iconst dX2_copyFrom_79 rfl (inr_d rfl) rfl) ?_
  refine tok_cons (snd_iconst dX2_copyFrom_80 rfl (inr_d rfl) rfl) ?_
  refine tok_cons (snd_copy dX2_copyFrom_81 wm2_33 wnat ws_acopy wn_Sys (by decide) rfl) ?_
  refine tok_cons (snd_aload_n dX2_copyFrom_84 rfl rfl) ?_
  refine tok_cons (snd_gr (C := RX2) (T := TX2) (N := 7) dX2_copyFrom_85 rfl (by decide) rfl wf2_30 inX2 rfl) ?_
  refine tok_cons (snd_iconst dX2_copyFrom_88 rfl (inr_d rfl) rfl) ?_
  refine tok_cons (snd_aload_n dX2_copyFrom_89 rfl rfl) ?_
  refine tok_cons (snd_gr (C := RX2) (T := TX2) (N := 7) dX2_copyFrom_90 rfl (by decide) rfl wf2_30 inX2 rfl) ?_
  refine tok_cons (snd_iconst dX2_copyFrom_93 rfl (inr_d rfl) rfl) ?_
  refine tok_cons (snd_iconst dX2_copyFrom_94 rfl (inr_d rfl) rfl) ?_
  refine tok_cons (snd_copy dX2_copyFrom_95 wm2_33 wnat ws_acopy wn_Sys (by decide) rfl) ?_
  refine tok_cons (snd_ret dX2_copyFrom_98 rfl) ?_
  exact tok_nil
def tab_2_noteRows (X : XT) : Tab := [(0, false, a_aload 0 1), (1, false, a_gr 2 2 4), (4, false, a_iload 1 5), (5, false, a_ald false 6), (6, false, a_aload 0 7), (7, false, a_gr 2 5 10), (10, false, a_iload 1 11), (11, false, a_ald false 12), (12, false, a_add 13), (13, false, a_iload 3 14), (14, false, a_sub 15), (15, false, a_istore 4 17), (17, false, a_iload 4 19), (19, false, a_if 5 29 22), (22, false, a_iload 2 23), (23, false, a_iload 4 25), (25, false, a_add 26), (26, false, a_goto 30), (29, false, a_const 0 30), (30, false, a_iret M_2_noteRows)]
set_option maxRecDepth 20000 in
theorem t_2_noteRows (X : XT) : tget (tab_2_noteRows X) 0 = some (false, a_aload 0 1) ∧ tget (tab_2_noteRows X) 1 = some (false, a_gr 2 2 4) ∧ tget (tab_2_noteRows X) 4 = some (false, a_iload 1 5) ∧ tget (tab_2_noteRows X) 5 = some (false, a_ald false 6) ∧ tget (tab_2_noteRows X) 6 = some (false, a_aload 0 7) ∧ tget (tab_2_noteRows X) 7 = some (false, a_gr 2 5 10) ∧ tget (tab_2_noteRows X) 10 = some (false, a_iload 1 11) ∧ tget (tab_2_noteRows X) 11 = some (false, a_ald false 12) ∧ tget (tab_2_noteRows X) 12 = some (false, a_add 13) ∧ tget (tab_2_noteRows X) 13 = some (false, a_iload 3 14) ∧ tget (tab_2_noteRows X) 14 = some (false, a_sub 15) ∧ tget (tab_2_noteRows X) 15 = some (false, a_istore 4 17) ∧ tget (tab_2_noteRows X) 17 = some (false, a_iload 4 19) ∧ tget (tab_2_noteRows X) 19 = some (false, a_if 5 29 22) ∧ tget (tab_2_noteRows X) 22 = some (false, a_iload 2 23) ∧ tget (tab_2_noteRows X) 23 = some (false, a_iload 4 25) ∧ tget (tab_2_noteRows X) 25 = some (false, a_add 26) ∧ tget (tab_2_noteRows X) 26 = some (false, a_goto 30) ∧ tget (tab_2_noteRows X) 29 = some (false, a_const 0 30) ∧ tget (tab_2_noteRows X) 30 = some (false, a_iret M_2_noteRows) := ⟨rfl, rfl, rfl, rfl, rfl, rfl, rfl, rfl, rfl, rfl, rfl, rfl, rfl, rfl, rfl, rfl, rfl, rfl, rfl, rfl⟩
theorem tok_2_noteRows (X : XT) : TabOK X M_2_noteRows (tab_2_noteRows X) := by
  unfold tab_2_noteRows
  refine tok_cons (snd_aload_n dX2_noteRows_0 rfl rfl) ?_
  refine tok_cons (snd_gr (C := RX2) (T := TX2) (N := 7) dX2_noteRows_1 rfl (by decide) rfl wf2_18 inX2 rfl) ?_
  refine tok_cons (snd_iload_n dX2_noteRows_4 rfl rfl) ?_
  refine tok_cons (snd_iald dX2_noteRows_5 rfl) ?_
  refine tok_cons (snd_aload_n dX2_noteRows_6 rfl rfl) ?_
  refine tok_cons (snd_gr (C := RX2) (T := TX2) (N := 7) dX2_noteRows_7 rfl (by decide) rfl wf2_27 inX2 rfl) ?_
  refine tok_cons (snd_iload_n dX2_noteRows_10 rfl rfl) ?_
  refine tok_cons (snd_iald dX2_noteRows_11 rfl) ?_
  refine tok_cons (snd_add dX2_noteRows_12 rfl) ?_
  refine tok_cons (snd_iload_n dX2_noteRows_13 rfl rfl) ?_
  refine tok_cons (snd_sub dX2_noteRows_14 rfl) ?_
  refine tok_cons (snd_istore dX2_noteRows_15 rfl (by decide)) ?_
  refine tok_cons (snd_iload dX2_noteRows_17 rfl) ?_
  refine tok_cons (snd_if_le dX2_noteRows_19 (by decide) rfl) ?_
  refine tok_cons (snd_iload_n dX2_noteRows_22 rfl rfl) ?_
  refine tok_cons (snd_iload dX2_noteRows_23 rfl) ?_
  refine tok_cons (snd_add dX2_noteRows_25 rfl) ?_
  refine tok_cons (snd_goto dX2_noteRows_26 (by decide)) ?_
  refine tok_cons (snd_iconst dX2_noteRows_29 rfl (inr_d rfl) rfl) ?_
  refine tok_cons (snd_iret dX2_noteRows_30 rfl) ?_
  exact tok_nil
def tab_2_mostCarried (X : XT) : Tab := [(0, false, a_const 0 1), (1, false, a_iload 2 2), (2, false, a_aload 0 3), (3, false, a_gr 2 6 6), (6, false, a_iload 1 7), (7, false, a_ald false 8), (8, false, a_const 1 9), (9, false, a_sub 10), (10, false, a_min M_2_mostCarried 13), (13, false, a_max M_2_mostCarried 16), (16, false, a_iret M_2_mostCarried)]
set_option maxRecDepth 20000 in
theorem t_2_mostCarried (X : XT) : tget (tab_2_mostCarried X) 0 = some (false, a_const 0 1) ∧ tget (tab_2_mostCarried X) 1 = some (false, a_iload 2 2) ∧ tget (tab_2_mostCarried X) 2 = some (false, a_aload 0 3) ∧ tget (tab_2_mostCarried X) 3 = some (false, a_gr 2 6 6) ∧ tget (tab_2_mostCarried X) 6 = some (false, a_iload 1 7) ∧ tget (tab_2_mostCarried X) 7 = some (false, a_ald false 8) ∧ tget (tab_2_mostCarried X) 8 = some (false, a_const 1 9) ∧ tget (tab_2_mostCarried X) 9 = some (false, a_sub 10) ∧ tget (tab_2_mostCarried X) 10 = some (false, a_min M_2_mostCarried 13) ∧ tget (tab_2_mostCarried X) 13 = some (false, a_max M_2_mostCarried 16) ∧ tget (tab_2_mostCarried X) 16 = some (false, a_iret M_2_mostCarried) := ⟨rfl, rfl, rfl, rfl, rfl, rfl, rfl, rfl, rfl, rfl, rfl⟩
theorem tok_2_mostCarried (X : XT) : TabOK X M_2_mostCarried (tab_2_mostCarried X) := by
  unfold tab_2_mostCarried
  refine tok_cons (snd_iconst dX2_mostCarried_0 rfl (inr_d rfl) rfl) ?_
  refine tok_cons (snd_iload_n dX2_mostCarried_1 rfl rfl) ?_
  refine tok_cons (snd_aload_n dX2_mostCarried_2 rfl rfl) ?_
  refine tok_cons (snd_gr (C := RX2) (T := TX2) (N := 7) dX2_mostCarried_3 rfl (by decide) rfl wf2_30 inX2 rfl) ?_
  refine tok_cons (snd_iload_n dX2_mostCarried_6 rfl rfl) ?_
  refine tok_cons (snd_iald dX2_mostCarried_7 rfl) ?_
  refine tok_cons (snd_iconst dX2_mostCarried_8 rfl (inr_d rfl) rfl) ?_
  refine tok_cons (snd_sub dX2_mostCarried_9 rfl) ?_
  refine tok_cons (snd_min dX2_mostCarried_10 wm2_75 ws_min wn_Math wc_min (by decide) rfl) ?_
  refine tok_cons (snd_max dX2_mostCarried_13 wm2_69 ws_max wn_Math wc_max (by decide) rfl) ?_
  refine tok_cons (snd_iret dX2_mostCarried_16 rfl) ?_
  exact tok_nil
def tab_4_endBefore (X : XT) : Tab := [(0, false, a_aload 0 1), (1, false, a_gr 4 1 4), (4, false, a_const 0 5), (5, false, a_aald 6), (6, false, a_astore 4 8), (8, false, a_iload 1 9), (9, false, a_istore 5 11), (11, true, a_iload 5 13), (13, false, a_aload 0 14), (14, false, a_gi 4 0 0 17), (17, false, a_icmp 3 57 20), (20, false, a_aload 4 22), (22, false, a_iload 5 24), (24, false, a_ald false 25), (25, false, a_iload 2 26), (26, false, a_icmp 2 51 29), (29, false, a_aload 4 31), (31, false, a_iload 5 33), (33, false, a_ald false 34), (34, false, a_iload 2 35), (35, false, a_icmp 1 57 38), (38, false, a_aload 0 39), (39, false, a_gr 4 1 42), (42, false, a_const 1 43), (43, false, a_aald 44), (44, false, a_iload 5 46), (46, false, a_ald false 47), (47, false, a_iload 3 48), (48, false, a_icmp 3 57 51), (51, false, a_iinc 5 1 54), (54, false, a_goto 11), (57, false, a_iload 5 59), (59, false, a_iret M_4_endBefore)]
set_option maxRecDepth 20000 in
theorem t_4_endBefore (X : XT) : tget (tab_4_endBefore X) 0 = some (false, a_aload 0 1) ∧ tget (tab_4_endBefore X) 1 = some (false, a_gr 4 1 4) ∧ tget (tab_4_endBefore X) 4 = some (false, a_const 0 5) ∧ tget (tab_4_endBefore X) 5 = some (false, a_aald 6) ∧ tget (tab_4_endBefore X) 6 = some (false, a_astore 4 8) ∧ tget (tab_4_endBefore X) 8 = some (false, a_iload 1 9) ∧ tget (tab_4_endBefore X) 9 = some (false, a_istore 5 11) ∧ tget (tab_4_endBefore X) 11 = some (true, a_iload 5 13) ∧ tget (tab_4_endBefore X) 13 = some (false, a_aload 0 14) ∧ tget (tab_4_endBefore X) 14 = some (false, a_gi 4 0 0 17) ∧ tget (tab_4_endBefore X) 17 = some (false, a_icmp 3 57 20) ∧ tget (tab_4_endBefore X) 20 = some (false, a_aload 4 22) ∧ tget (tab_4_endBefore X) 22 = some (false, a_iload 5 24) ∧ tget (tab_4_endBefore X) 24 = some (false, a_ald false 25) ∧ tget (tab_4_endBefore X) 25 = some (false, a_iload 2 26) ∧ tget (tab_4_endBefore X) 26 = some (false, a_icmp 2 51 29) ∧ tget (tab_4_endBefore X) 29 = some (false, a_aload 4 31) ∧ tget (tab_4_endBefore X) 31 = some (false, a_iload 5 33) ∧ tget (tab_4_endBefore X) 33 = some (false, a_ald false 34) ∧ tget (tab_4_endBefore X) 34 = some (false, a_iload 2 35) ∧ tget (tab_4_endBefore X) 35 = some (false, a_icmp 1 57 38) ∧ tget (tab_4_endBefore X) 38 = some (false, a_aload 0 39) ∧ tget (tab_4_endBefore X) 39 = some (false, a_gr 4 1 42) ∧ tget (tab_4_endBefore X) 42 = some (false, a_const 1 43) ∧ tget (tab_4_endBefore X) 43 = some (false, a_aald 44) ∧ tget (tab_4_endBefore X) 44 = some (false, a_iload 5 46) ∧ tget (tab_4_endBefore X) 46 = some (false, a_ald false 47) ∧ tget (tab_4_endBefore X) 47 = some (false, a_iload 3 48) ∧ tget (tab_4_endBefore X) 48 = some (false, a_icmp 3 57 51) ∧ tget (tab_4_endBefore X) 51 = some (false, a_iinc 5 1 54) ∧ tget (tab_4_endBefore X) 54 = some (false, a_goto 11) ∧ tget (tab_4_endBefore X) 57 = some (false, a_iload 5 59) ∧ tget (tab_4_endBefore X) 59 = some (false, a_iret M_4_endBefore) := ⟨rfl, rfl, rfl, rfl, rfl, rfl, rfl, rfl, rfl, rfl, rfl, rfl, rfl, rfl, rfl, rfl, rfl, rfl, rfl, rfl, rfl, rfl, rfl, rfl, rfl, rfl, rfl, rfl, rfl, rfl, rfl, rfl, rfl⟩
theorem tok_4_endBefore (X : XT) : TabOK X M_4_endBefore (tab_4_endBefore X) := by
  unfold tab_4_endBefore
  refine tok_cons (snd_aload_n dX4_endBefore_0 rfl rfl) ?_
  refine tok_cons (snd_gr (C := RX4) (T := TX4) (N := 2) dX4_endBefore_1 rfl (by decide) rfl wf4_11 inX4 rfl) ?_
  refine tok_cons (snd_iconst dX4_endBefore_4 rfl (inr_d rfl) rfl) ?_
  refine tok_cons (snd_aald dX4_endBefore_5 rfl) ?_
  refine tok_cons (snd_astore dX4_endBefore_6 rfl (by decide)) ?_
  refine tok_cons (snd_iload_n dX4_endBefore_8 rfl rfl) ?_
  refine tok_cons (snd_istore dX4_endBefore_9 rfl (by decide)) ?_
  refine tok_cons (snd_iload dX4_endBefore_11 rfl) ?_
  refine tok_cons (snd_aload_n dX4_endBefore_13 rfl rfl) ?_
  refine tok_cons (snd_gi (C := RX4) (T := TX4) (N := 2) dX4_endBefore_14 rfl (by decide) rfl wf4_20 inX4 rfl rfl) ?_
  refine tok_cons (snd_icmp_ge dX4_endBefore_17 (by decide) rfl) ?_
  refine tok_cons (snd_aload dX4_endBefore_20 rfl) ?_
  refine tok_cons (snd_iload dX4_endBefore_22 rfl) ?_
  refine tok_cons (snd_iald dX4_endBefore_24 rfl) ?_
  refine tok_cons (snd_iload_n dX4_endBefore_25 rfl rfl) ?_
  refine tok_cons (snd_icmp_lt dX4_endBefore_26 (by decide) rfl) ?_
  refine tok_cons (snd_aload dX4_endBefore_29 rfl) ?_
  refine tok_cons (snd_iload dX4_endBefore_31 rfl) ?_
  refine tok_cons (snd_iald dX4_endBefore_33 rfl) ?_
  refine tok_cons (snd_iload_n dX4_endBefore_34 rfl rfl) ?_
  refine tok_cons (snd_icmp_ne dX4_endBefore_35 (by decide) rfl) ?_
  refine tok_cons (snd_aload_n dX4_endBefore_38 rfl rfl) ?_
  refine tok_cons (snd_gr (C := RX4) (T := TX4) (N := 2) dX4_endBefore_39 rfl (by decide) rfl wf4_11 inX4 rfl) ?_
  refine tok_cons (snd_iconst dX4_endBefore_42 rfl (inr_d rfl) rfl) ?_
  refine tok_cons (snd_aald dX4_endBefore_43 rfl) ?_
  refine tok_cons (snd_iload dX4_endBefore_44 rfl) ?_
  refine tok_cons (snd_iald dX4_endBefore_46 rfl) ?_
  refine tok_cons (snd_iload_n dX4_endBefore_47 rfl rfl) ?_
  refine tok_cons (snd_icmp_ge dX4_endBefore_48 (by decide) rfl) ?_
  refine tok_cons (snd_iinc dX4_endBefore_51 rfl rfl (by decide)) ?_
  refine tok_cons (snd_goto dX4_endBefore_54 (by decide)) ?_
  refine tok_cons (snd_iload dX4_endBefore_57 rfl) ?_
  refine tok_cons (snd_iret dX4_endBefore_59 rfl) ?_
  exact tok_nil
def tab_5_takeStart (X : XT) : Tab := [(0, false, a_aload 0 1), (1, false, a_aload 1 2), (2, false, a_gi 5 0 0 5), (5, false, a_pi 5 0 0 false 8), (8, false, a_aload 1 9), (9, false, a_gr 5 1 12), (12, false, a_const 0 13), (13, false, a_aload 0 14), (14, false, a_gr 5 1 17), (17, false, a_const 0 18), (18, false, a_const 2 19), (19, false, a_copy 22), (22, false, a_aload 0 23), (23, false, a_gr 5 2 26), (26, false, a_const 0 27), (27, false, a_iload 2 28), (28, false, a_ast false 29), (29, false, a_aload 0 30), (30, false, a_gr 5 2 33), (33, false, a_const 1 34), (34, false, a_iload 3 35), (35, false, a_ast false 36), (36, false, a_ret M_5_takeStart)]
set_option maxRecDepth 20000 in
theorem t_5_takeStart (X : XT) : tget (tab_5_takeStart X) 0 = some (false, a_aload 0 1) ∧ tget (tab_5_takeStart X) 1 = some (false, a_aload 1 2) ∧ tget (tab_5_takeStart X) 2 = some (false, a_gi 5 0 0 5) ∧ tget (tab_5_takeStart X) 5 = some (false, a_pi 5 0 0 false 8) ∧ tget (tab_5_takeStart X) 8 = some (false, a_aload 1 9) ∧ tget (tab_5_takeStart X) 9 = some (false, a_gr 5 1 12) ∧ tget (tab_5_takeStart X) 12 = some (false, a_const 0 13) ∧ tget (tab_5_takeStart X) 13 = some (false, a_aload 0 14) ∧ tget (tab_5_takeStart X) 14 = some (false, a_gr 5 1 17) ∧ tget (tab_5_takeStart X) 17 = some (false, a_const 0 18) ∧ tget (tab_5_takeStart X) 18 = some (false, a_const 2 19) ∧ tget (tab_5_takeStart X) 19 = some (false, a_copy 22) ∧ tget (tab_5_takeStart X) 22 = some (false, a_aload 0 23) ∧ tget (tab_5_takeStart X) 23 = some (false, a_gr 5 2 26) ∧ tget (tab_5_takeStart X) 26 = some (false, a_const 0 27) ∧ tget (tab_5_takeStart X) 27 = some (false, a_iload 2 28) ∧ tget (tab_5_takeStart X) 28 = some (false, a_ast false 29) ∧ tget (tab_5_takeStart X) 29 = some (false, a_aload 0 30) ∧ tget (tab_5_takeStart X) 30 = some (false, a_gr 5 2 33) ∧ tget (tab_5_takeStart X) 33 = some (false, a_const 1 34) ∧ tget (tab_5_takeStart X) 34 = some (false, a_iload 3 35) ∧ tget (tab_5_takeStart X) 35 = some (false, a_ast false 36) ∧ tget (tab_5_takeStart X) 36 = some (false, a_ret M_5_takeStart) := ⟨rfl, rfl, rfl, rfl, rfl, rfl, rfl, rfl, rfl, rfl, rfl, rfl, rfl, rfl, rfl, rfl, rfl, rfl, rfl, rfl, rfl, rfl, rfl⟩
theorem tok_5_takeStart (X : XT) : TabOK X M_5_takeStart (tab_5_takeStart X) := by
  unfold tab_5_takeStart
  refine tok_cons (snd_aload_n dX5_takeStart_0 rfl rfl) ?_
  refine tok_cons (snd_aload_n dX5_takeStart_1 rfl rfl) ?_
  refine tok_cons (snd_gi (C := RX5) (T := TX5) (N := 3) dX5_takeStart_2 rfl (by decide) rfl wf5_18 inX5 rfl rfl) ?_
  refine tok_cons (snd_pi (C := RX5) (T := TX5) (N := 3) (ty0 := tyX5) dX5_takeStart_5 rfl (by decide) rfl wf5_18 inX5 tyX5_ok nmX5 (by decide +kernel) rfl rfl) ?_
  refine tok_cons (snd_aload_n dX5_takeStart_8 rfl rfl) ?_
  refine tok_cons (snd_gr (C := RX5) (T := TX5) (N := 3) dX5_takeStart_9 rfl (by decide) rfl wf5_9 inX5 rfl) ?_
  refine tok_cons (snd_iconst dX5_takeStart_12 rfl (inr_d rfl) rfl) ?_
  refine tok_cons (snd_aload_n dX5_takeStart_13 rfl rfl) ?_
  refine tok_cons (snd_gr (C := RX5) (T := TX5) (N := 3) dX5_takeStart_14 rfl (by decide) rfl wf5_9 inX5 rfl) ?_
  refine tok_cons (snd_iconst dX5_takeStart_17 rfl (inr_d rfl) rfl) ?_
  refine tok_cons (snd_iconst dX5_takeStart_18 rfl (inr_d rfl) rfl) ?_
  refine tok_cons (snd_copy dX5_takeStart_19 wm5_32 wnat ws_acopy wn_Sys (by decide) rfl) ?_
  refine tok_cons (snd_aload_n dX5_takeStart_22 rfl rfl) ?_
  refine tok_cons (snd_gr (C := RX5) (T := TX5) (N := 3) dX5_takeStart_23 rfl (by decide) rfl wf5_15 inX5 rfl) ?_
  refine tok_cons (snd_iconst dX5_takeStart_26 rfl (inr_d rfl) rfl) ?_
  refine tok_cons (snd_iload_n dX5_takeStart_27 rfl rfl) ?_
  refine tok_cons (snd_iast dX5_takeStart_28 rfl) ?_
  refine tok_cons (snd_aload_n dX5_takeStart_29 rfl rfl) ?_
  refine tok_cons (snd_gr (C := RX5) (T := TX5) (N := 3) dX5_takeStart_30 rfl (by decide) rfl wf5_15 inX5 rfl) ?_
  refine tok_cons (snd_iconst dX5_takeStart_33 rfl (inr_d rfl) rfl) ?_
  refine tok_cons (snd_iload_n dX5_takeStart_34 rfl rfl) ?_
  refine tok_cons (snd_iast dX5_takeStart_35 rfl) ?_
  refine tok_cons (snd_ret dX5_takeStart_36 rfl) ?_
  exact tok_nil
def tab_5_dropStart (X : XT) : Tab := [(0, false, a_const 0 1), (1, false, a_istore 2 2), (2, false, a_iload 2 3), (3, false, a_const 2 4), (4, false, a_icmp 3 43 7), (7, false, a_aload 0 8), (8, false, a_gr 5 1 11), (11, false, a_iload 2 12), (12, false, a_dup2 13), (13, false, a_ald false 14), (14, false, a_aload 1 15), (15, false, a_gr 5 2 18), (18, false, a_iload 2 19), (19, false, a_ald false 20), (20, false, a_add 21), (21, false, a_ast false 22), (22, false, a_aload 0 23), (23, false, a_gr 5 2 26), (26, false, a_iload 2 27), (27, false, a_dup2 28), (28, false, a_ald false 29), (29, false, a_aload 1 30), (30, false, a_gr 5 2 33), (33, false, a_iload 2 34), (34, false, a_ald false 35), (35, false, a_sub 36), (36, false, a_ast false 37), (37, false, a_iinc 2 1 40), (40, false, a_goto 2), (43, false, a_ret M_5_dropStart)]
set_option maxRecDepth 20000 in
theorem t_5_dropStart (X : XT) : tget (tab_5_dropStart X) 0 = some (false, a_const 0 1) ∧ tget (tab_5_dropStart X) 1 = some (false, a_istore 2 2) ∧ tget (tab_5_dropStart X) 2 = some (false, a_iload 2 3) ∧ tget (tab_5_dropStart X) 3 = some (false, a_const 2 4) ∧ tget (tab_5_dropStart X) 4 = some (false, a_icmp 3 43 7) ∧ tget (tab_5_dropStart X) 7 = some (false, a_aload 0 8) ∧ tget (tab_5_dropStart X) 8 = some (false, a_gr 5 1 11) ∧ tget (tab_5_dropStart X) 11 = some (false, a_iload 2 12) ∧ tget (tab_5_dropStart X) 12 = some (false, a_dup2 13) ∧ tget (tab_5_dropStart X) 13 = some (false, a_ald false 14) ∧ tget (tab_5_dropStart X) 14 = some (false, a_aload 1 15) ∧ tget (tab_5_dropStart X) 15 = some (false, a_gr 5 2 18) ∧ tget (tab_5_dropStart X) 18 = some (false, a_iload 2 19) ∧ tget (tab_5_dropStart X) 19 = some (false, a_ald false 20) ∧ tget (tab_5_dropStart X) 20 = some (false, a_add 21) ∧ tget (tab_5_dropStart X) 21 = some (false, a_ast false 22) ∧ tget (tab_5_dropStart X) 22 = some (false, a_aload 0 23) ∧ tget (tab_5_dropStart X) 23 = some (false, a_gr 5 2 26) ∧ tget (tab_5_dropStart X) 26 = some (false, a_iload 2 27) ∧ tget (tab_5_dropStart X) 27 = some (false, a_dup2 28) ∧ tget (tab_5_dropStart X) 28 = some (false, a_ald false 29) ∧ tget (tab_5_dropStart X) 29 = some (false, a_aload 1 30) ∧ tget (tab_5_dropStart X) 30 = some (false, a_gr 5 2 33) ∧ tget (tab_5_dropStart X) 33 = some (false, a_iload 2 34) ∧ tget (tab_5_dropStart X) 34 = some (false, a_ald false 35) ∧ tget (tab_5_dropStart X) 35 = some (false, a_sub 36) ∧ tget (tab_5_dropStart X) 36 = some (false, a_ast false 37) ∧ tget (tab_5_dropStart X) 37 = some (false, a_iinc 2 1 40) ∧ tget (tab_5_dropStart X) 40 = some (false, a_goto 2) ∧ tget (tab_5_dropStart X) 43 = some (false, a_ret M_5_dropStart) := ⟨rfl, rfl, rfl, rfl, rfl, rfl, rfl, rfl, rfl, rfl, rfl, rfl, rfl, rfl, rfl, rfl, rfl, rfl, rfl, rfl, rfl, rfl, rfl, rfl, rfl, rfl, rfl, rfl, rfl, rfl⟩
theorem tok_5_dropStart (X : XT) : TabOK X M_5_dropStart (tab_5_dropStart X) := by
  unfold tab_5_dropStart
  refine tok_cons (snd_iconst dX5_dropStart_0 rfl (inr_d rfl) rfl) ?_
  refine tok_cons (snd_istore_n dX5_dropStart_1 rfl rfl (by decide)) ?_
  refine tok_cons (snd_iload_n dX5_dropStart_2 rfl rfl) ?_
  refine tok_cons (snd_iconst dX5_dropStart_3 rfl (inr_d rfl) rfl) ?_
  refine tok_cons (snd_icmp_ge dX5_dropStart_4 (by decide) rfl) ?_
  refine tok_cons (snd_aload_n dX5_dropStart_7 rfl rfl) ?_
  refine tok_cons (snd_gr (C := RX5) (T := TX5) (N := 3) dX5_dropStart_8 rfl (by decide) rfl wf5_9 inX5 rfl) ?_
  refine tok_cons (snd_iload_n dX5_dropStart_11 rfl rfl) ?_
  refine tok_cons (snd_dup2 dX5_dropStart_12 rfl) ?_
  refine tok_cons (snd_iald dX5_dropStart_13 rfl) ?_
  refine tok_cons (snd_aload_n dX5_dropStart_14 rfl rfl) ?_
  refine tok_cons (snd_gr (C := RX5) (T := TX5) (N := 3) dX5_dropStart_15 rfl (by decide) rfl wf5_15 inX5 rfl) ?_
  refine tok_cons (snd_iload_n dX5_dropStart_18 rfl rfl) ?_
  refine tok_cons (snd_iald dX5_dropStart_19 rfl) ?_
  refine tok_cons (snd_add dX5_dropStart_20 rfl) ?_
  refine tok_cons (snd_iast dX5_dropStart_21 rfl) ?_
  refine tok_cons (snd_aload_n dX5_dropStart_22 rfl rfl) ?_
  refine tok_cons (snd_gr (C := RX5) (T := TX5) (N := 3) dX5_dropStart_23 rfl (by decide) rfl wf5_15 inX5 rfl) ?_
  refine tok_cons (snd_iload_n dX5_dropStart_26 rfl rfl) ?_
  refine tok_cons (snd_dup2 dX5_dropStart_27 rfl) ?_
  refine tok_cons (snd_iald dX5_dropStart_28 rfl) ?_
  refine tok_cons (snd_aload_n dX5_dropStart_29 rfl rfl) ?_
  refine tok_cons (snd_gr (C := RX5) (T := TX5) (N := 3) dX5_dropStart_30 rfl (by decide) rfl wf5_15 inX5 rfl) ?_
  refine tok_cons (snd_iload_n dX5_dropStart_33 rfl rfl) ?_
  refine tok_cons (snd_iald dX5_dropStart_34 rfl) ?_
  refine tok_cons (snd_sub dX5_dropStart_35 rfl) ?_
  refine tok_cons (snd_iast dX5_dropStart_36 rfl) ?_
  refine tok_cons (snd_iinc dX5_dropStart_37 rfl rfl (by decide)) ?_
  refine tok_cons (snd_goto dX5_dropStart_40 (by decide)) ?_
  refine tok_cons (snd_ret dX5_dropStart_43 rfl) ?_
  exact tok_nil
def tab_5_isBegun (X : XT) : Tab := [(0, false, a_aload 0 1), (1, false, a_gr 5 1 4), (4, false, a_const 0 5), (5, false, a_ald false 6), (6, false, a_if 5 13 9), (9, false, a_const 1 10), (10, false, a_goto 14), (13, false, a_const 0 14), (14, false, a_zret M_5_isBegun)]
set_option maxRecDepth 20000 in
theorem t_5_isBegun (X : XT) : tget (tab_5_isBegun X) 0 = some (false, a_aload 0 1) ∧ tget (tab_5_isBegun X) 1 = some (false, a_gr 5 1 4) ∧ tget (tab_5_isBegun X) 4 = some (false, a_const 0 5) ∧ tget (tab_5_isBegun X) 5 = some (false, a_ald false 6) ∧ tget (tab_5_isBegun X) 6 = some (false, a_if 5 13 9) ∧ tget (tab_5_isBegun X) 9 = some (false, a_const 1 10) ∧ tget (tab_5_isBegun X) 10 = some (false, a_goto 14) ∧ tget (tab_5_isBegun X) 13 = some (false, a_const 0 14) ∧ tget (tab_5_isBegun X) 14 = some (false, a_zret M_5_isBegun) := ⟨rfl, rfl, rfl, rfl, rfl, rfl, rfl, rfl, rfl⟩
theorem tok_5_isBegun (X : XT) : TabOK X M_5_isBegun (tab_5_isBegun X) := by
  unfold tab_5_isBegun
  refine tok_cons (snd_aload_n dX5_isBegun_0 rfl rfl) ?_
  refine tok_cons (snd_gr (C := RX5) (T := TX5) (N := 3) dX5_isBegun_1 rfl (by decide) rfl wf5_9 inX5 rfl) ?_
  refine tok_cons (snd_iconst dX5_isBegun_4 rfl (inr_d rfl) rfl) ?_
  refine tok_cons (snd_iald dX5_isBegun_5 rfl) ?_
  refine tok_cons (snd_if_le dX5_isBegun_6 (by decide) rfl) ?_
  refine tok_cons (snd_iconst dX5_isBegun_9 rfl (inr_d rfl) rfl) ?_
  refine tok_cons (snd_goto dX5_isBegun_10 (by decide)) ?_
  refine tok_cons (snd_iconst dX5_isBegun_13 rfl (inr_d rfl) rfl) ?_
  refine tok_cons (snd_zret dX5_isBegun_14 rfl) ?_
  exact tok_nil
def tab_6_isCarried (X : XT) : Tab := [(0, false, a_aload 0 1), (1, false, a_gr 6 7 4), (4, false, a_gr 2 2 7), (7, false, a_const 0 8), (8, false, a_ald false 9), (9, false, a_aload 0 10), (10, false, a_gr 6 7 13), (13, false, a_gr 2 2 16), (16, false, a_const 1 17), (17, false, a_ald false 18), (18, false, a_add 19), (19, false, a_if 5 26 22), (22, false, a_const 1 23), (23, false, a_goto 27), (26, false, a_const 0 27), (27, false, a_zret M_6_isCarried)]
set_option maxRecDepth 20000 in
theorem t_6_isCarried (X : XT) : tget (tab_6_isCarried X) 0 = some (false, a_aload 0 1) ∧ tget (tab_6_isCarried X) 1 = some (false, a_gr 6 7 4) ∧ tget (tab_6_isCarried X) 4 = some (false, a_gr 2 2 7) ∧ tget (tab_6_isCarried X) 7 = some (false, a_const 0 8) ∧ tget (tab_6_isCarried X) 8 = some (false, a_ald false 9) ∧ tget (tab_6_isCarried X) 9 = some (false, a_aload 0 10) ∧ tget (tab_6_isCarried X) 10 = some (false, a_gr 6 7 13) ∧ tget (tab_6_isCarried X) 13 = some (false, a_gr 2 2 16) ∧ tget (tab_6_isCarried X) 16 = some (false, a_const 1 17) ∧ tget (tab_6_isCarried X) 17 = some (false, a_ald false 18) ∧ tget (tab_6_isCarried X) 18 = some (false, a_add 19) ∧ tget (tab_6_isCarried X) 19 = some (false, a_if 5 26 22) ∧ tget (tab_6_isCarried X) 22 = some (false, a_const 1 23) ∧ tget (tab_6_isCarried X) 23 = some (false, a_goto 27) ∧ tget (tab_6_isCarried X) 26 = some (false, a_const 0 27) ∧ tget (tab_6_isCarried X) 27 = some (false, a_zret M_6_isCarried) := ⟨rfl, rfl, rfl, rfl, rfl, rfl, rfl, rfl, rfl, rfl, rfl, rfl, rfl, rfl, rfl, rfl⟩
theorem tok_6_isCarried (X : XT) : TabOK X M_6_isCarried (tab_6_isCarried X) := by
  unfold tab_6_isCarried
  refine tok_cons (snd_aload_n dX6_isCarried_0 rfl rfl) ?_
  refine tok_cons (snd_gr (C := RX6) (T := TX6) (N := 11) dX6_isCarried_1 rfl (by decide) rfl wf6_33 inX6 rfl) ?_
  refine tok_cons (snd_gr (C := RX2) (T := TX2) (N := 7) dX6_isCarried_4 rfl (by decide) rfl wf6_85 inX2 rfl) ?_
  refine tok_cons (snd_iconst dX6_isCarried_7 rfl (inr_d rfl) rfl) ?_
  refine tok_cons (snd_iald dX6_isCarried_8 rfl) ?_
  refine tok_cons (snd_aload_n dX6_isCarried_9 rfl rfl) ?_
  refine tok_cons (snd_gr (C := RX6) (T := TX6) (N := 11) dX6_isCarried_10 rfl (by decide) rfl wf6_33 inX6 rfl) ?_
  refine tok_cons (snd_gr (C := RX2) (T := TX2) (N := 7) dX6_isCarried_13 rfl (by decide) rfl wf6_85 inX2 rfl) ?_
  refine tok_cons (snd_iconst dX6_isCarried_16 rfl (inr_d rfl) rfl) ?_
  refine tok_cons (snd_iald dX6_isCarried_17 rfl) ?_
  refine tok_cons (snd_add dX6_isCarried_18 rfl) ?_
  refine tok_cons (snd_if_le dX6_isCarried_19 (by decide) rfl) ?_
  refine tok_cons (snd_iconst dX6_isCarried_22 rfl (inr_d rfl) rfl) ?_
  refine tok_cons (snd_goto dX6_isCarried_23 (by decide)) ?_
  refine tok_cons (snd_iconst dX6_isCarried_26 rfl (inr_d rfl) rfl) ?_
  refine tok_cons (snd_zret dX6_isCarried_27 rfl) ?_
  exact tok_nil
def tab_6_segmentsOf (X : XT) : Tab := [(0, false, a_aload 0 1), (1, false, a_gr 6 2 4), (4, false, a_iload 1 5), (5, false, a_const 1 6), (6, false, a_add 7), (7, false, a_ald false 8), (8, false, a_aload 0 9), (9, false, a_gr 6 2 12), (12, false, a_iload 1 13), (13, false, a_ald false 14), (14, false, a_sub 15), (15, false, a_iret M_6_segmentsOf)]
set_option maxRecDepth 20000 in
theorem t_6_segmentsOf (X : XT) : tget (tab_6_segmentsOf X) 0 = some (false, a_aload 0 1) ∧ tget (tab_6_segmentsOf X) 1 = some (false, a_gr 6 2 4) ∧ tget (tab_6_segmentsOf X) 4 = some (false, a_iload 1 5) ∧ tget (tab_6_segmentsOf X) 5 = some (false, a_const 1 6) ∧ tget (tab_6_segmentsOf X) 6 = some (false, a_add 7) ∧ tget (tab_6_segmentsOf X) 7 = some (false, a_ald false 8) ∧ tget (tab_6_segmentsOf X) 8 = some (false, a_aload 0 9) ∧ tget (tab_6_segmentsOf X) 9 = some (false, a_gr 6 2 12) ∧ tget (tab_6_segmentsOf X) 12 = some (false, a_iload 1 13) ∧ tget (tab_6_segmentsOf X) 13 = some (false, a_ald false 14) ∧ tget (tab_6_segmentsOf X) 14 = some (false, a_sub 15) ∧ tget (tab_6_segmentsOf X) 15 = some (false, a_iret M_6_segmentsOf) := ⟨rfl, rfl, rfl, rfl, rfl, rfl, rfl, rfl, rfl, rfl, rfl, rfl⟩
theorem tok_6_segmentsOf (X : XT) : TabOK X M_6_segmentsOf (tab_6_segmentsOf X) := by
  unfold tab_6_segmentsOf
  refine tok_cons (snd_aload_n dX6_segmentsOf_0 rfl rfl) ?_
  refine tok_cons (snd_gr (C := RX6) (T := TX6) (N := 11) dX6_segmentsOf_1 rfl (by decide) rfl wf6_15 inX6 rfl) ?_
  refine tok_cons (snd_iload_n dX6_segmentsOf_4 rfl rfl) ?_
  refine tok_cons (snd_iconst dX6_segmentsOf_5 rfl (inr_d rfl) rfl) ?_
  refine tok_cons (snd_add dX6_segmentsOf_6 rfl) ?_
  refine tok_cons (snd_iald dX6_segmentsOf_7 rfl) ?_
  refine tok_cons (snd_aload_n dX6_segmentsOf_8 rfl rfl) ?_
  refine tok_cons (snd_gr (C := RX6) (T := TX6) (N := 11) dX6_segmentsOf_9 rfl (by decide) rfl wf6_15 inX6 rfl) ?_
  refine tok_cons (snd_iload_n dX6_segmentsOf_12 rfl rfl) ?_
  refine tok_cons (snd_iald dX6_segmentsOf_13 rfl) ?_
  refine tok_cons (snd_sub dX6_segmentsOf_14 rfl) ?_
  refine tok_cons (snd_iret dX6_segmentsOf_15 rfl) ?_
  exact tok_nil
def tab_6_spreadWith (X : XT) : Tab := [(0, false, a_const 0 1), (1, false, a_istore 2 2), (2, true, a_iload 2 3), (3, false, a_aload 0 4), (4, false, a_gi 6 1 1 7), (7, false, a_const 1 8), (8, false, a_sub 9), (9, false, a_icmp 3 30 12), (12, false, a_aload 0 13), (13, false, a_gr 6 2 16), (16, false, a_iload 2 17), (17, false, a_const 1 18), (18, false, a_add 19), (19, false, a_ald false 20), (20, false, a_iload 1 21), (21, false, a_icmp 4 30 24), (24, false, a_iinc 2 1 27), (27, false, a_goto 2), (30, false, a_iload 2 31), (31, false, a_iret M_6_spreadWith)]
set_option maxRecDepth 20000 in
theorem t_6_spreadWith (X : XT) : tget (tab_6_spreadWith X) 0 = some (false, a_const 0 1) ∧ tget (tab_6_spreadWith X) 1 = some (false, a_istore 2 2) ∧ tget (tab_6_spreadWith X) 2 = some (true, a_iload 2 3) ∧ tget (tab_6_spreadWith X) 3 = some (false, a_aload 0 4) ∧ tget (tab_6_spreadWith X) 4 = some (false, a_gi 6 1 1 7) ∧ tget (tab_6_spreadWith X) 7 = some (false, a_const 1 8) ∧ tget (tab_6_spreadWith X) 8 = some (false, a_sub 9) ∧ tget (tab_6_spreadWith X) 9 = some (false, a_icmp 3 30 12) ∧ tget (tab_6_spreadWith X) 12 = some (false, a_aload 0 13) ∧ tget (tab_6_spreadWith X) 13 = some (false, a_gr 6 2 16) ∧ tget (tab_6_spreadWith X) 16 = some (false, a_iload 2 17) ∧ tget (tab_6_spreadWith X) 17 = some (false, a_const 1 18) ∧ tget (tab_6_spreadWith X) 18 = some (false, a_add 19) ∧ tget (tab_6_spreadWith X) 19 = some (false, a_ald false 20) ∧ tget (tab_6_spreadWith X) 20 = some (false, a_iload 1 21) ∧ tget (tab_6_spreadWith X) 21 = some (false, a_icmp 4 30 24) ∧ tget (tab_6_spreadWith X) 24 = some (false, a_iinc 2 1 27) ∧ tget (tab_6_spreadWith X) 27 = some (false, a_goto 2) ∧ tget (tab_6_spreadWith X) 30 = some (false, a_iload 2 31) ∧ tget (tab_6_spreadWith X) 31 = some (false, a_iret M_6_spreadWith) := ⟨rfl, rfl, rfl, rfl, rfl, rfl, rfl, rfl, rfl, rfl, rfl, rfl, rfl, rfl, rfl, rfl, rfl, rfl, rfl, rfl⟩
theorem tok_6_spreadWith (X : XT) : TabOK X M_6_spreadWith (tab_6_spreadWith X) := by
  unfold tab_6_spreadWith
  refine tok_cons (snd_iconst dX6_spreadWith_0 rfl (inr_d rfl) rfl) ?_
  refine tok_cons (snd_istore_n dX6_spreadWith_1 rfl rfl (by decide)) ?_
  refine tok_cons (snd_iload_n dX6_spreadWith_2 rfl rfl) ?_
  refine tok_cons (snd_aload_n dX6_spreadWith_3 rfl rfl) ?_
  refine tok_cons (snd_gi (C := RX6) (T := TX6) (N := 11) dX6_spreadWith_4 rfl (by decide) rfl wf6_50 inX6 rfl rfl) ?_
  refine tok_cons (snd_iconst dX6_spreadWith_7 rfl (inr_d rfl) rfl) ?_
  refine tok_cons (snd_sub dX6_spreadWith_8 rfl) ?_
  refine tok_cons (snd_icmp_ge dX6_spreadWith_9 (by decide) rfl) ?_
  refine tok_cons (snd_aload_n dX6_spreadWith_12 rfl rfl) ?_
  refine tok_cons (snd_gr (C := RX6) (T := TX6) (N := 11) dX6_spreadWith_13 rfl (by decide) rfl wf6_15 inX6 rfl) ?_
  refine tok_cons (snd_iload_n dX6_spreadWith_16 rfl rfl) ?_
  refine tok_cons (snd_iconst dX6_spreadWith_17 rfl (inr_d rfl) rfl) ?_
  refine tok_cons (snd_add dX6_spreadWith_18 rfl) ?_
  refine tok_cons (snd_iald dX6_spreadWith_19 rfl) ?_
  refine tok_cons (snd_iload_n dX6_spreadWith_20 rfl rfl) ?_
  refine tok_cons (snd_icmp_gt dX6_spreadWith_21 (by decide) rfl) ?_
  refine tok_cons (snd_iinc dX6_spreadWith_24 rfl rfl (by decide)) ?_
  refine tok_cons (snd_goto dX6_spreadWith_27 (by decide)) ?_
  refine tok_cons (snd_iload_n dX6_spreadWith_30 rfl rfl) ?_
  refine tok_cons (snd_iret dX6_spreadWith_31 rfl) ?_
  exact tok_nil
def tab_6_rowIn (X : XT) : Tab := [(0, false, a_aload 0 1), (1, false, a_gr 6 4 4), (4, false, a_gst 5 7), (7, false, a_iload 2 8), (8, false, a_sld 9), (9, false, a_aald 10), (10, false, a_iload 1 11), (11, false, a_ald false 12), (12, false, a_iload 3 13), (13, false, a_add 14), (14, false, a_aload 0 15), (15, false, a_gr 6 4 18), (18, false, a_gst 3 21), (21, false, a_iload 2 22), (22, false, a_sld 23), (23, false, a_aald 24), (24, false, a_iload 1 25), (25, false, a_ald false 26), (26, false, a_sub 27), (27, false, a_iret M_6_rowIn)]
set_option maxRecDepth 20000 in
theorem t_6_rowIn (X : XT) : tget (tab_6_rowIn X) 0 = some (false, a_aload 0 1) ∧ tget (tab_6_rowIn X) 1 = some (false, a_gr 6 4 4) ∧ tget (tab_6_rowIn X) 4 = some (false, a_gst 5 7) ∧ tget (tab_6_rowIn X) 7 = some (false, a_iload 2 8) ∧ tget (tab_6_rowIn X) 8 = some (false, a_sld 9) ∧ tget (tab_6_rowIn X) 9 = some (false, a_aald 10) ∧ tget (tab_6_rowIn X) 10 = some (false, a_iload 1 11) ∧ tget (tab_6_rowIn X) 11 = some (false, a_ald false 12) ∧ tget (tab_6_rowIn X) 12 = some (false, a_iload 3 13) ∧ tget (tab_6_rowIn X) 13 = some (false, a_add 14) ∧ tget (tab_6_rowIn X) 14 = some (false, a_aload 0 15) ∧ tget (tab_6_rowIn X) 15 = some (false, a_gr 6 4 18) ∧ tget (tab_6_rowIn X) 18 = some (false, a_gst 3 21) ∧ tget (tab_6_rowIn X) 21 = some (false, a_iload 2 22) ∧ tget (tab_6_rowIn X) 22 = some (false, a_sld 23) ∧ tget (tab_6_rowIn X) 23 = some (false, a_aald 24) ∧ tget (tab_6_rowIn X) 24 = some (false, a_iload 1 25) ∧ tget (tab_6_rowIn X) 25 = some (false, a_ald false 26) ∧ tget (tab_6_rowIn X) 26 = some (false, a_sub 27) ∧ tget (tab_6_rowIn X) 27 = some (false, a_iret M_6_rowIn) := ⟨rfl, rfl, rfl, rfl, rfl, rfl, rfl, rfl, rfl, rfl, rfl, rfl, rfl, rfl, rfl, rfl, rfl, rfl, rfl, rfl⟩
theorem tok_6_rowIn (X : XT) : TabOK X M_6_rowIn (tab_6_rowIn X) := by
  unfold tab_6_rowIn
  refine tok_cons (snd_aload_n dX6_rowIn_0 rfl rfl) ?_
  refine tok_cons (snd_gr (C := RX6) (T := TX6) (N := 11) dX6_rowIn_1 rfl (by decide) rfl wf6_24 inX6 rfl) ?_
  refine tok_cons (snd_gstN dX6_rowIn_4 (by decide) rfl (List.mem_of_getElem? (i := 3) rfl) rfl) ?_
  refine tok_cons (snd_iload_n dX6_rowIn_7 rfl rfl) ?_
  refine tok_cons (snd_sld dX6_rowIn_8 rfl) ?_
  refine tok_cons (snd_aald dX6_rowIn_9 rfl) ?_
  refine tok_cons (snd_iload_n dX6_rowIn_10 rfl rfl) ?_
  refine tok_cons (snd_iald dX6_rowIn_11 rfl) ?_
  refine tok_cons (snd_iload_n dX6_rowIn_12 rfl rfl) ?_
  refine tok_cons (snd_add dX6_rowIn_13 rfl) ?_
  refine tok_cons (snd_aload_n dX6_rowIn_14 rfl rfl) ?_
  refine tok_cons (snd_gr (C := RX6) (T := TX6) (N := 11) dX6_rowIn_15 rfl (by decide) rfl wf6_24 inX6 rfl) ?_
  refine tok_cons (snd_gstN dX6_rowIn_18 (by decide) rfl (List.mem_of_getElem? (i := 1) rfl) rfl) ?_
  refine tok_cons (snd_iload_n dX6_rowIn_21 rfl rfl) ?_
  refine tok_cons (snd_sld dX6_rowIn_22 rfl) ?_
  refine tok_cons (snd_aald dX6_rowIn_23 rfl) ?_
  refine tok_cons (snd_iload_n dX6_rowIn_24 rfl rfl) ?_
  refine tok_cons (snd_iald dX6_rowIn_25 rfl) ?_
  refine tok_cons (snd_sub dX6_rowIn_26 rfl) ?_
  refine tok_cons (snd_iret dX6_rowIn_27 rfl) ?_
  exact tok_nil
def tab_6_noteLine (X : XT) : Tab := [(0, false, a_aload 0 1), (1, false, a_gr 6 5 4), (4, false, a_const 3 5), (5, false, a_aald 6), (6, false, a_iload 2 7), (7, false, a_ald false 8), (8, false, a_istore 4 10), (10, false, a_aload 0 11), (11, false, a_gr 6 5 14), (14, false, a_const 6 16), (16, false, a_aald 17), (17, false, a_iload 2 18), (18, false, a_ald false 19), (19, false, a_istore 5 21), (21, false, a_iload 3 22), (22, false, a_iload 4 24), (24, false, a_icmp 3 65 27), (27, false, a_iload 5 29), (29, false, a_if 5 65 32), (32, false, a_aload 1 33), (33, false, a_gr 4 1 36), (36, false, a_const 2 37), (37, false, a_aald 38), (38, false, a_iload 5 40), (40, false, a_const 1 41), (41, false, a_sub 42), (42, false, a_ald false 43), (43, false, a_iload 4 45), (45, false, a_sub 46), (46, false, a_istore 6 48), (48, false, a_const 20000 51), (51, false, a_const 100 53), (53, false, a_iload 5 55), (55, false, a_const 1 56), (56, false, a_sub 57), (57, false, a_mul 58), (58, false, a_add 59), (59, false, a_iload 6 61), (61, false, a_add 62), (62, false, a_iload 3 63), (63, false, a_add 64), (64, false, a_iret M_6_noteLine), (65, false, a_iload 3 66), (66, false, a_iload 4 68), (68, false, a_sub 69), (69, false, a_istore 6 71), (71, false, a_iload 5 73), (73, false, a_istore 7 75), (75, true, a_iload 7 77), (77, false, a_aload 1 78), (78, false, a_gi 4 0 0 81), (81, false, a_icmp 3 128 84), (84, false, a_aload 1 85), (85, false, a_gr 4 1 88), (88, false, a_const 2 89), (89, false, a_aald 90), (90, false, a_iload 7 92), (92, false, a_ald false 93), (93, false, a_istore 8 95), (95, false, a_iload 6 97), (97, false, a_iload 8 99), (99, false, a_icmp 3 115 102), (102, false, a_const 20000 105), (105, false, a_const 100 107), (107, false, a_iload 7 109), (109, false, a_mul 110), (110, false, a_add 111), (111, false, a_iload 6 113), (113, false, a_add 114), (114, false, a_iret M_6_noteLine), (115, false, a_iload 6 117), (117, false, a_iload 8 119), (119, false, a_sub 120), (120, false, a_istore 6 122), (122, false, a_iinc 7 1 125), (125, false, a_goto 75), (128, false, a_const 0 129), (129, false, a_iret M_6_noteLine)]
set_option maxRecDepth 20000 in
theorem t_6_noteLine (X : XT) : tget (tab_6_noteLine X) 0 = some (false, a_aload 0 1) ∧ tget (tab_6_noteLine X) 1 = some (false, a_gr 6 5 4) ∧ tget (tab_6_noteLine X) 4 = some (false, a_const 3 5) ∧ tget (tab_6_noteLine X) 5 = some (false, a_aald 6) ∧ tget (tab_6_noteLine X) 6 = some (false, a_iload 2 7) ∧ tget (tab_6_noteLine X) 7 = some (false, a_ald false 8) ∧ tget (tab_6_noteLine X) 8 = some (false, a_istore 4 10) ∧ tget (tab_6_noteLine X) 10 = some (false, a_aload 0 11) ∧ tget (tab_6_noteLine X) 11 = some (false, a_gr 6 5 14) ∧ tget (tab_6_noteLine X) 14 = some (false, a_const 6 16) ∧ tget (tab_6_noteLine X) 16 = some (false, a_aald 17) ∧ tget (tab_6_noteLine X) 17 = some (false, a_iload 2 18) ∧ tget (tab_6_noteLine X) 18 = some (false, a_ald false 19) ∧ tget (tab_6_noteLine X) 19 = some (false, a_istore 5 21) ∧ tget (tab_6_noteLine X) 21 = some (false, a_iload 3 22) ∧ tget (tab_6_noteLine X) 22 = some (false, a_iload 4 24) ∧ tget (tab_6_noteLine X) 24 = some (false, a_icmp 3 65 27) ∧ tget (tab_6_noteLine X) 27 = some (false, a_iload 5 29) ∧ tget (tab_6_noteLine X) 29 = some (false, a_if 5 65 32) ∧ tget (tab_6_noteLine X) 32 = some (false, a_aload 1 33) ∧ tget (tab_6_noteLine X) 33 = some (false, a_gr 4 1 36) ∧ tget (tab_6_noteLine X) 36 = some (false, a_const 2 37) ∧ tget (tab_6_noteLine X) 37 = some (false, a_aald 38) ∧ tget (tab_6_noteLine X) 38 = some (false, a_iload 5 40) ∧ tget (tab_6_noteLine X) 40 = some (false, a_const 1 41) ∧ tget (tab_6_noteLine X) 41 = some (false, a_sub 42) ∧ tget (tab_6_noteLine X) 42 = some (false, a_ald false 43) ∧ tget (tab_6_noteLine X) 43 = some (false, a_iload 4 45) ∧ tget (tab_6_noteLine X) 45 = some (false, a_sub 46) ∧ tget (tab_6_noteLine X) 46 = some (false, a_istore 6 48) ∧ tget (tab_6_noteLine X) 48 = some (false, a_const 20000 51) ∧ tget (tab_6_noteLine X) 51 = some (false, a_const 100 53) ∧ tget (tab_6_noteLine X) 53 = some (false, a_iload 5 55) ∧ tget (tab_6_noteLine X) 55 = some (false, a_const 1 56) ∧ tget (tab_6_noteLine X) 56 = some (false, a_sub 57) ∧ tget (tab_6_noteLine X) 57 = some (false, a_mul 58) ∧ tget (tab_6_noteLine X) 58 = some (false, a_add 59) ∧ tget (tab_6_noteLine X) 59 = some (false, a_iload 6 61) ∧ tget (tab_6_noteLine X) 61 = some (false, a_add 62) ∧ tget (tab_6_noteLine X) 62 = some (false, a_iload 3 63) ∧ tget (tab_6_noteLine X) 63 = some (false, a_add 64) ∧ tget (tab_6_noteLine X) 64 = some (false, a_iret M_6_noteLine) ∧ tget (tab_6_noteLine X) 65 = some (false, a_iload 3 66) ∧ tget (tab_6_noteLine X) 66 = some (false, a_iload 4 68) ∧ tget (tab_6_noteLine X) 68 = some (false, a_sub 69) ∧ tget (tab_6_noteLine X) 69 = some (false, a_istore 6 71) ∧ tget (tab_6_noteLine X) 71 = some (false, a_iload 5 73) ∧ tget (tab_6_noteLine X) 73 = some (false, a_istore 7 75) ∧ tget (tab_6_noteLine X) 75 = some (true, a_iload 7 77) ∧ tget (tab_6_noteLine X) 77 = some (false, a_aload 1 78) ∧ tget (tab_6_noteLine X) 78 = some (false, a_gi 4 0 0 81) ∧ tget (tab_6_noteLine X) 81 = some (false, a_icmp 3 128 84) ∧ tget (tab_6_noteLine X) 84 = some (false, a_aload 1 85) ∧ tget (tab_6_noteLine X) 85 = some (false, a_gr 4 1 88) ∧ tget (tab_6_noteLine X) 88 = some (false, a_const 2 89) ∧ tget (tab_6_noteLine X) 89 = some (false, a_aald 90) ∧ tget (tab_6_noteLine X) 90 = some (false, a_iload 7 92) ∧ tget (tab_6_noteLine X) 92 = some (false, a_ald false 93) ∧ tget (tab_6_noteLine X) 93 = some (false, a_istore 8 95) ∧ tget (tab_6_noteLine X) 95 = some (false, a_iload 6 97) ∧ tget (tab_6_noteLine X) 97 = some (false, a_iload 8 99) ∧ tget (tab_6_noteLine X) 99 = some (false, a_icmp 3 115 102) ∧ tget (tab_6_noteLine X) 102 = some (false, a_const 20000 105) ∧ tget (tab_6_noteLine X) 105 = some (false, a_const 100 107) ∧ tget (tab_6_noteLine X) 107 = some (false, a_iload 7 109) ∧ tget (tab_6_noteLine X) 109 = some (false, a_mul 110) ∧ tget (tab_6_noteLine X) 110 = some (false, a_add 111) ∧ tget (tab_6_noteLine X) 111 = some (false, a_iload 6 113) ∧ tget (tab_6_noteLine X) 113 = some (false, a_add 114) ∧ tget (tab_6_noteLine X) 114 = some (false, a_iret M_6_noteLine) ∧ tget (tab_6_noteLine X) 115 = some (false, a_iload 6 117) ∧ tget (tab_6_noteLine X) 117 = some (false, a_iload 8 119) ∧ tget (tab_6_noteLine X) 119 = some (false, a_sub 120) ∧ tget (tab_6_noteLine X) 120 = some (false, a_istore 6 122) ∧ tget (tab_6_noteLine X) 122 = some (false, a_iinc 7 1 125) ∧ tget (tab_6_noteLine X) 125 = some (false, a_goto 75) ∧ tget (tab_6_noteLine X) 128 = some (false, a_const 0 129) ∧ tget (tab_6_noteLine X) 129 = some (false, a_iret M_6_noteLine) := ⟨rfl, rfl, rfl, rfl, rfl, rfl, rfl, rfl, rfl, rfl, rfl, rfl, rfl, rfl, rfl, rfl, rfl, rfl, rfl, rfl, rfl, rfl, rfl, rfl, rfl, rfl, rfl, rfl, rfl, rfl, rfl, rfl, rfl, rfl, rfl, rfl, rfl, rfl, rfl, rfl, rfl, rfl, rfl, rfl, rfl, rfl, rfl, rfl, rfl, rfl, rfl, rfl, rfl, rfl, rfl, rfl, rfl, rfl, rfl, rfl, rfl, rfl, rfl, rfl, rfl, rfl, rfl, rfl, rfl, rfl, rfl, rfl, rfl, rfl, rfl, rfl, rfl, rfl⟩
theorem tok_6_noteLine (X : XT) : TabOK X M_6_noteLine (tab_6_noteLine X) := by
  unfold tab_6_noteLine
  refine tok_cons (snd_aload_n dX6_noteLine_0 rfl rfl) ?_
  refine tok_cons (snd_gr (C := RX6) (T := TX6) (N := 11) dX6_noteLine_1 rfl (by decide) rfl wf6_27 inX6 rfl) ?_
  refine tok_cons (snd_iconst dX6_noteLine_4 rfl (inr_d rfl) rfl) ?_
  refine tok_cons (snd_aald dX6_noteLine_5 rfl) ?_
  refine tok_cons (snd_iload_n dX6_noteLine_6 rfl rfl) ?_
  refine tok_cons (snd_iald dX6_noteLine_7 rfl) ?_
  refine tok_cons (snd_istore dX6_noteLine_8 rfl (by decide)) ?_
  refine tok_cons (snd_aload_n dX6_noteLine_10 rfl rfl) ?_
  refine tok_cons (snd_gr (C := RX6) (T := TX6) (N := 11) dX6_noteLine_11 rfl (by decide) rfl wf6_27 inX6 rfl) ?_
  refine tok_cons (snd_bipush dX6_noteLine_14 (by decide) (inr_d rfl) rfl) ?_
  refine tok_cons (snd_aald dX6_noteLine_16 rfl) ?_
  refine tok_cons (snd_iload_n dX6_noteLine_17 rfl rfl) ?_
  refine tok_cons (snd_iald dX6_noteLine_18 rfl) ?_
  refine tok_cons (snd_istore dX6_noteLine_19 rfl (by decide)) ?_
  refine tok_cons (snd_iload_n dX6_noteLine_21 rfl rfl) ?_
  refine tok_cons (snd_iload dX6_noteLine_22 rfl) ?_
  refine tok_cons (snd_icmp_ge dX6_noteLine_24 (by decide) rfl) ?_
  refine tok_cons (snd_iload dX6_noteLine_27 rfl) ?_
  refine tok_cons (snd_if_le dX6_noteLine_29 (by decide) rfl) ?_
  refine tok_cons (snd_aload_n dX6_noteLine_32 rfl rfl) ?_
  refine tok_cons (snd_gr (C := RX4) (T := TX4) (N := 2) dX6_noteLine_33 rfl (by decide) rfl wf6_188 inX4 rfl) ?_
  refine tok_cons (snd_iconst dX6_noteLine_36 rfl (inr_d rfl) rfl) ?_
  refine tok_cons (snd_aald dX6_noteLine_37 rfl) ?_
  refine tok_cons (snd_iload dX6_noteLine_38 rfl) ?_
  refine tok_cons (snd_iconst dX6_noteLine_40 rfl (inr_d rfl) rfl) ?_
  refine tok_cons (snd_sub dX6_noteLine_41 rfl) ?_
  refine tok_cons (snd_iald dX6_noteLine_42 rfl) ?_
  refine tok_cons (snd_iload dX6_noteLine_43 rfl) ?_
  refine tok_cons (snd_sub dX6_noteLine_45 rfl) ?_
  refine tok_cons (snd_istore dX6_noteLine_46 rfl (by decide)) ?_
  refine tok_cons (snd_sipush dX6_noteLine_48 (by decide) (inr_d rfl) rfl) ?_
  refine tok_cons (snd_bipush dX6_noteLine_51 (by decide) (inr_d rfl) rfl) ?_
  refine tok_cons (snd_iload dX6_noteLine_53 rfl) ?_
  refine tok_cons (snd_iconst dX6_noteLine_55 rfl (inr_d rfl) rfl) ?_
  refine tok_cons (snd_sub dX6_noteLine_56 rfl) ?_
  refine tok_cons (snd_mul dX6_noteLine_57 rfl) ?_
  refine tok_cons (snd_add dX6_noteLine_58 rfl) ?_
  refine tok_cons (snd_iload dX6_noteLine_59 rfl) ?_
  refine tok_cons (snd_add dX6_noteLine_61 rfl) ?_
  refine tok_cons (snd_iload_n dX6_noteLine_62 rfl rfl) ?_
  refine tok_cons (snd_add dX6_noteLine_63 rfl) ?_
  refine tok_cons (snd_iret dX6_noteLine_64 rfl) ?_
  refine tok_cons (snd_iload_n dX6_noteLine_65 rfl rfl) ?_
  refine tok_cons (snd_iload dX6_noteLine_66 rfl) ?_
  refine tok_cons (snd_sub dX6_noteLine_68 rfl) ?_
  refine tok_cons (snd_istore dX6_noteLine_69 rfl (by decide)) ?_
  refine tok_cons (snd_iload dX6_noteLine_71 rfl) ?_
  refine tok_cons (snd_istore dX6_noteLine_73 rfl (by decide)) ?_
  refine tok_cons (snd_iload dX6_noteLine_75 rfl) ?_
  refine tok_cons (snd_aload_n dX6_noteLine_77 rfl rfl) ?_
  refine tok_cons (snd_gi (C := RX4) (T := TX4) (N := 2) dX6_noteLine_78 rfl (by decide) rfl wf6_193 inX4 rfl rfl) ?_
  refine tok_cons (snd_icmp_ge dX6_noteLine_81 (by decide) rfl) ?_
  refine tok_cons (snd_aload_n dX6_noteLine_84 rfl rfl) ?_
  refine tok_cons (snd_gr (C := RX4) (T := TX4) (N := 2) dX6_noteLine_85 rfl (by decide) rfl wf6_188 inX4 rfl) ?_
  refine tok_cons (snd_iconst dX6_noteLine_88 rfl (inr_d rfl) rfl) ?_
  refine tok_cons (snd_aald dX6_noteLine_89 rfl) ?_
  refine tok_cons (snd_iload dX6_noteLine_90 rfl) ?_
  refine tok_cons (snd_iald dX6_noteLine_92 rfl) ?_
  refine tok_cons (snd_istore dX6_noteLine_93 rfl (by decide)) ?_
  refine tok_cons (snd_iload dX6_noteLine_95 rfl) ?_
  refine tok_cons (snd_iload dX6_noteLine_97 rfl) ?_
  refine tok_cons (snd_icmp_ge dX6_noteLine_99 (by decide) rfl) ?_
  refine tok_cons (snd_sipush dX6_noteLine_102 (by decide) (inr_d rfl) rfl) ?_
  refine tok_cons (snd_bipush dX6_noteLine_105 (by decide) (inr_d rfl) rfl) ?_
  refine tok_cons (snd_iload dX6_noteLine_107 rfl) ?_
  refine tok_cons (snd_mul dX6_noteLine_109 rfl) ?_
  refine tok_cons (snd_add dX6_noteLine_110 rfl) ?_
  refine tok_cons (snd_iload dX6_noteLine_111 rfl) ?_
  refine tok_cons (snd_add dX6_noteLine_113 rfl) ?_
  refine tok_cons (snd_iret dX6_noteLine_114 rfl) ?_
  refine tok_cons (snd_iload dX6_noteLine_115 rfl) ?_
  refine tok_cons (snd_iload dX6_noteLine_117 rfl) ?_
  refine tok_cons (snd_sub dX6_noteLine_119 rfl) ?_
  refine tok_cons (snd_istore dX6_noteLine_120 rfl (by decide)) ?_
  refine tok_cons (snd_iinc dX6_noteLine_122 rfl rfl (by decide)) ?_
  refine tok_cons (snd_goto dX6_noteLine_125 (by decide)) ?_
  refine tok_cons (snd_iconst dX6_noteLine_128 rfl (inr_d rfl) rfl) ?_
  refine tok_cons (snd_iret dX6_noteLine_129 rfl) ?_
  exact tok_nil
def tab_6_blankSquares (X : XT) : Tab := [(0, false, a_const 0 1), (1, false, a_istore 1 2), (2, false, a_const 0 3), (3, false, a_istore 2 4), (4, true, a_iload 2 5), (5, false, a_const 2 6), (6, false, a_aload 0 7), (7, false, a_gi 6 1 1 10), (10, false, a_const 1 11), (11, false, a_sub 12), (12, false, a_mul 13), (13, false, a_icmp 3 42 16), (16, false, a_iload 1 17), (17, false, a_aload 0 18), (18, false, a_gr 6 5 21), (21, false, a_const 2 22), (22, false, a_aald 23), (23, false, a_iload 2 24), (24, false, a_ald false 25), (25, false, a_aload 0 26), (26, false, a_gr 6 5 29), (29, false, a_const 2 30), (30, false, a_aald 31), (31, false, a_iload 2 32), (32, false, a_ald false 33), (33, false, a_mul 34), (34, false, a_add 35), (35, false, a_istore 1 36), (36, false, a_iinc 2 1 39), (39, false, a_goto 4), (42, false, a_iload 1 43), (43, false, a_iret M_6_blankSquares)]
set_option maxRecDepth 20000 in
theorem t_6_blankSquares (X : XT) : tget (tab_6_blankSquares X) 0 = some (false, a_const 0 1) ∧ tget (tab_6_blankSquares X) 1 = some (false, a_istore 1 2) ∧ tget (tab_6_blankSquares X) 2 = some (false, a_const 0 3) ∧ tget (tab_6_blankSquares X) 3 = some (false, a_istore 2 4) ∧ tget (tab_6_blankSquares X) 4 = some (true, a_iload 2 5) ∧ tget (tab_6_blankSquares X) 5 = some (false, a_const 2 6) ∧ tget (tab_6_blankSquares X) 6 = some (false, a_aload 0 7) ∧ tget (tab_6_blankSquares X) 7 = some (false, a_gi 6 1 1 10) ∧ tget (tab_6_blankSquares X) 10 = some (false, a_const 1 11) ∧ tget (tab_6_blankSquares X) 11 = some (false, a_sub 12) ∧ tget (tab_6_blankSquares X) 12 = some (false, a_mul 13) ∧ tget (tab_6_blankSquares X) 13 = some (false, a_icmp 3 42 16) ∧ tget (tab_6_blankSquares X) 16 = some (false, a_iload 1 17) ∧ tget (tab_6_blankSquares X) 17 = some (false, a_aload 0 18) ∧ tget (tab_6_blankSquares X) 18 = some (false, a_gr 6 5 21) ∧ tget (tab_6_blankSquares X) 21 = some (false, a_const 2 22) ∧ tget (tab_6_blankSquares X) 22 = some (false, a_aald 23) ∧ tget (tab_6_blankSquares X) 23 = some (false, a_iload 2 24) ∧ tget (tab_6_blankSquares X) 24 = some (false, a_ald false 25) ∧ tget (tab_6_blankSquares X) 25 = some (false, a_aload 0 26) ∧ tget (tab_6_blankSquares X) 26 = some (false, a_gr 6 5 29) ∧ tget (tab_6_blankSquares X) 29 = some (false, a_const 2 30) ∧ tget (tab_6_blankSquares X) 30 = some (false, a_aald 31) ∧ tget (tab_6_blankSquares X) 31 = some (false, a_iload 2 32) ∧ tget (tab_6_blankSquares X) 32 = some (false, a_ald false 33) ∧ tget (tab_6_blankSquares X) 33 = some (false, a_mul 34) ∧ tget (tab_6_blankSquares X) 34 = some (false, a_add 35) ∧ tget (tab_6_blankSquares X) 35 = some (false, a_istore 1 36) ∧ tget (tab_6_blankSquares X) 36 = some (false, a_iinc 2 1 39) ∧ tget (tab_6_blankSquares X) 39 = some (false, a_goto 4) ∧ tget (tab_6_blankSquares X) 42 = some (false, a_iload 1 43) ∧ tget (tab_6_blankSquares X) 43 = some (false, a_iret M_6_blankSquares) := ⟨rfl, rfl, rfl, rfl, rfl, rfl, rfl, rfl, rfl, rfl, rfl, rfl, rfl, rfl, rfl, rfl, rfl, rfl, rfl, rfl, rfl, rfl, rfl, rfl, rfl, rfl, rfl, rfl, rfl, rfl, rfl, rfl⟩
theorem tok_6_blankSquares (X : XT) : TabOK X M_6_blankSquares (tab_6_blankSquares X) := by
  unfold tab_6_blankSquares
  refine tok_cons (snd_iconst dX6_blankSquares_0 rfl (inr_d rfl) rfl) ?_
  refine tok_cons (snd_istore_n dX6_blankSquares_1 rfl rfl (by decide)) ?_
  refine tok_cons (snd_iconst dX6_blankSquares_2 rfl (inr_d rfl) rfl) ?_
  refine tok_cons (snd_istore_n dX6_blankSquares_3 rfl rfl (by decide)) ?_
  refine tok_cons (snd_iload_n dX6_blankSquares_4 rfl rfl) ?_
  refine tok_cons (snd_iconst dX6_blankSquares_5 rfl (inr_d rfl) rfl) ?_
  refine tok_cons (snd_aload_n dX6_blankSquares_6 rfl rfl) ?_
  refine tok_cons (snd_gi (C := RX6) (T := TX6) (N := 11) dX6_blankSquares_7 rfl (by decide) rfl wf6_50 inX6 rfl rfl) ?_
  refine tok_cons (snd_iconst dX6_blankSquares_10 rfl (inr_d rfl) rfl) ?_
  refine tok_cons (snd_sub dX6_blankSquares_11 rfl) ?_
  refine tok_cons (snd_mul dX6_blankSquares_12 rfl) ?_
  refine tok_cons (snd_icmp_ge dX6_blankSquares_13 (by decide) rfl) ?_
  refine tok_cons (snd_iload_n dX6_blankSquares_16 rfl rfl) ?_
  refine tok_cons (snd_aload_n dX6_blankSquares_17 rfl rfl) ?_
  refine tok_cons (snd_gr (C := RX6) (T := TX6) (N := 11) dX6_blankSquares_18 rfl (by decide) rfl wf6_27 inX6 rfl) ?_
  refine tok_cons (snd_iconst dX6_blankSquares_21 rfl (inr_d rfl) rfl) ?_
  refine tok_cons (snd_aald dX6_blankSquares_22 rfl) ?_
  refine tok_cons (snd_iload_n dX6_blankSquares_23 rfl rfl) ?_
  refine tok_cons (snd_iald dX6_blankSquares_24 rfl) ?_
  refine tok_cons (snd_aload_n dX6_blankSquares_25 rfl rfl) ?_
  refine tok_cons (snd_gr (C := RX6) (T := TX6) (N := 11) dX6_blankSquares_26 rfl (by decide) rfl wf6_27 inX6 rfl) ?_
  refine tok_cons (snd_iconst dX6_blankSquares_29 rfl (inr_d rfl) rfl) ?_
  refine tok_cons (snd_aald dX6_blankSquares_30 rfl) ?_
  refine tok_cons (snd_iload_n dX6_blankSquares_31 rfl rfl) ?_
  refine tok_cons (snd_iald dX6_blankSquares_32 rfl) ?_
  refine tok_cons (snd_mul dX6_blankSquares_33 rfl) ?_
  refine tok_cons (snd_add dX6_blankSquares_34 rfl) ?_
  refine tok_cons (snd_istore_n dX6_blankSquares_35 rfl rfl (by decide)) ?_
  refine tok_cons (snd_iinc dX6_blankSquares_36 rfl rfl (by decide)) ?_
  refine tok_cons (snd_goto dX6_blankSquares_39 (by decide)) ?_
  refine tok_cons (snd_iload_n dX6_blankSquares_42 rfl rfl) ?_
  refine tok_cons (snd_iret dX6_blankSquares_43 rfl) ?_
  exact tok_nil
def tab_7_pairCount (X : XT) : Tab := [(0, false, a_aload 0 1), (1, false, a_gr 7 0 4), (4, false, a_gi 1 0 0 7), (7, false, a_iret M_7_pairCount)]
set_option maxRecDepth 20000 in
theorem t_7_pairCount (X : XT) : tget (tab_7_pairCount X) 0 = some (false, a_aload 0 1) ∧ tget (tab_7_pairCount X) 1 = some (false, a_gr 7 0 4) ∧ tget (tab_7_pairCount X) 4 = some (false, a_gi 1 0 0 7) ∧ tget (tab_7_pairCount X) 7 = some (false, a_iret M_7_pairCount) := ⟨rfl, rfl, rfl, rfl⟩
theorem tok_7_pairCount (X : XT) : TabOK X M_7_pairCount (tab_7_pairCount X) := by
  unfold tab_7_pairCount
  refine tok_cons (snd_aload_n dX7_pairCount_0 rfl rfl) ?_
  refine tok_cons (snd_gr (C := RX7) (T := TX7) (N := 4) dX7_pairCount_1 rfl (by decide) rfl wf7_10 inX7 rfl) ?_
  refine tok_cons (snd_gi (C := RX1) (T := TX1) (N := 5) dX7_pairCount_4 rfl (by decide) rfl wf7_37 inX1 rfl rfl) ?_
  refine tok_cons (snd_iret dX7_pairCount_7 rfl) ?_
  exact tok_nil
def tab_7_forgetResults (X : XT) : Tab := [(0, false, a_aload 0 1), (1, false, a_gr 7 2 4), (4, false, a_const 0 5), (5, false, a_pi 6 0 0 false 8), (8, false, a_aload 0 9), (9, false, a_gr 7 3 12), (12, false, a_const 0 13), (13, false, a_pi 0 0 0 true 16), (16, false, a_ret M_7_forgetResults)]
set_option maxRecDepth 20000 in
theorem t_7_forgetResults (X : XT) : tget (tab_7_forgetResults X) 0 = some (false, a_aload 0 1) ∧ tget (tab_7_forgetResults X) 1 = some (false, a_gr 7 2 4) ∧ tget (tab_7_forgetResults X) 4 = some (false, a_const 0 5) ∧ tget (tab_7_forgetResults X) 5 = some (false, a_pi 6 0 0 false 8) ∧ tget (tab_7_forgetResults X) 8 = some (false, a_aload 0 9) ∧ tget (tab_7_forgetResults X) 9 = some (false, a_gr 7 3 12) ∧ tget (tab_7_forgetResults X) 12 = some (false, a_const 0 13) ∧ tget (tab_7_forgetResults X) 13 = some (false, a_pi 0 0 0 true 16) ∧ tget (tab_7_forgetResults X) 16 = some (false, a_ret M_7_forgetResults) := ⟨rfl, rfl, rfl, rfl, rfl, rfl, rfl, rfl, rfl⟩
theorem tok_7_forgetResults (X : XT) : TabOK X M_7_forgetResults (tab_7_forgetResults X) := by
  unfold tab_7_forgetResults
  refine tok_cons (snd_aload_n dX7_forgetResults_0 rfl rfl) ?_
  refine tok_cons (snd_gr (C := RX7) (T := TX7) (N := 4) dX7_forgetResults_1 rfl (by decide) rfl wf7_26 inX7 rfl) ?_
  refine tok_cons (snd_iconst dX7_forgetResults_4 rfl (inr_d rfl) rfl) ?_
  refine tok_cons (snd_pi (C := RX6) (T := TX6) (N := 11) (ty0 := tyX6) dX7_forgetResults_5 rfl (by decide) rfl wf7_188 inX6 tyX6_ok nmX6 (by decide +kernel) rfl rfl) ?_
  refine tok_cons (snd_aload_n dX7_forgetResults_8 rfl rfl) ?_
  refine tok_cons (snd_gr (C := RX7) (T := TX7) (N := 4) dX7_forgetResults_9 rfl (by decide) rfl wf7_33 inX7 rfl) ?_
  refine tok_cons (snd_iconst dX7_forgetResults_12 rfl (inr_d rfl) rfl) ?_
  refine tok_cons (snd_pi (C := RX0) (T := TX0) (N := 7) (ty0 := tyX0) dX7_forgetResults_13 rfl (by decide) rfl wf7_191 inX0 tyX0_ok nmX0 (by decide +kernel) rfl rfl) ?_
  refine tok_cons (snd_ret dX7_forgetResults_16 rfl) ?_
  exact tok_nil
def tab_7_isIn (X : XT) : Tab := [(0, false, a_iload 0 1), (1, false, a_iload 1 2), (2, false, a_icmp 2 14 5), (5, false, a_iload 0 6), (6, false, a_iload 2 7), (7, false, a_icmp 4 14 10), (10, false, a_const 1 11), (11, false, a_goto 15), (14, false, a_const 0 15), (15, false, a_zret M_7_isIn)]
set_option maxRecDepth 20000 in
theorem t_7_isIn (X : XT) : tget (tab_7_isIn X) 0 = some (false, a_iload 0 1) ∧ tget (tab_7_isIn X) 1 = some (false, a_iload 1 2) ∧ tget (tab_7_isIn X) 2 = some (false, a_icmp 2 14 5) ∧ tget (tab_7_isIn X) 5 = some (false, a_iload 0 6) ∧ tget (tab_7_isIn X) 6 = some (false, a_iload 2 7) ∧ tget (tab_7_isIn X) 7 = some (false, a_icmp 4 14 10) ∧ tget (tab_7_isIn X) 10 = some (false, a_const 1 11) ∧ tget (tab_7_isIn X) 11 = some (false, a_goto 15) ∧ tget (tab_7_isIn X) 14 = some (false, a_const 0 15) ∧ tget (tab_7_isIn X) 15 = some (false, a_zret M_7_isIn) := ⟨rfl, rfl, rfl, rfl, rfl, rfl, rfl, rfl, rfl, rfl⟩
theorem tok_7_isIn (X : XT) : TabOK X M_7_isIn (tab_7_isIn X) := by
  unfold tab_7_isIn
  refine tok_cons (snd_iload_n dX7_isIn_0 rfl rfl) ?_
  refine tok_cons (snd_iload_n dX7_isIn_1 rfl rfl) ?_
  refine tok_cons (snd_icmp_lt dX7_isIn_2 (by decide) rfl) ?_
  refine tok_cons (snd_iload_n dX7_isIn_5 rfl rfl) ?_
  refine tok_cons (snd_iload_n dX7_isIn_6 rfl rfl) ?_
  refine tok_cons (snd_icmp_gt dX7_isIn_7 (by decide) rfl) ?_
  refine tok_cons (snd_iconst dX7_isIn_10 rfl (inr_d rfl) rfl) ?_
  refine tok_cons (snd_goto dX7_isIn_11 (by decide)) ?_
  refine tok_cons (snd_iconst dX7_isIn_14 rfl (inr_d rfl) rfl) ?_
  refine tok_cons (snd_zret dX7_isIn_15 rfl) ?_
  exact tok_nil
def tab_7_copyTable (X : XT) : Tab := [(0, false, a_const 0 1), (1, false, a_istore 2 2), (2, false, a_iload 2 3), (3, false, a_aload 0 4), (4, false, a_len 5), (5, false, a_icmp 3 42 8), (8, false, a_iload 2 9), (9, false, a_aload 1 10), (10, false, a_len 11), (11, false, a_icmp 3 42 14), (14, false, a_aload 0 15), (15, false, a_iload 2 16), (16, false, a_aald 17), (17, false, a_const 0 18), (18, false, a_aload 1 19), (19, false, a_iload 2 20), (20, false, a_aald 21), (21, false, a_const 0 22), (22, false, a_aload 0 23), (23, false, a_iload 2 24), (24, false, a_aald 25), (25, false, a_len 26), (26, false, a_aload 1 27), (27, false, a_iload 2 28), (28, false, a_aald 29), (29, false, a_len 30), (30, false, a_min M_7_copyTable 33), (33, false, a_copy 36), (36, false, a_iinc 2 1 39), (39, false, a_goto 2), (42, false, a_ret M_7_copyTable)]
set_option maxRecDepth 20000 in
theorem t_7_copyTable (X : XT) : tget (tab_7_copyTable X) 0 = some (false, a_const 0 1) ∧ tget (tab_7_copyTable X) 1 = some (false, a_istore 2 2) ∧ tget (tab_7_copyTable X) 2 = some (false, a_iload 2 3) ∧ tget (tab_7_copyTable X) 3 = some (false, a_aload 0 4) ∧ tget (tab_7_copyTable X) 4 = some (false, a_len 5) ∧ tget (tab_7_copyTable X) 5 = some (false, a_icmp 3 42 8) ∧ tget (tab_7_copyTable X) 8 = some (false, a_iload 2 9) ∧ tget (tab_7_copyTable X) 9 = some (false, a_aload 1 10) ∧ tget (tab_7_copyTable X) 10 = some (false, a_len 11) ∧ tget (tab_7_copyTable X) 11 = some (false, a_icmp 3 42 14) ∧ tget (tab_7_copyTable X) 14 = some (false, a_aload 0 15) ∧ tget (tab_7_copyTable X) 15 = some (false, a_iload 2 16) ∧ tget (tab_7_copyTable X) 16 = some (false, a_aald 17) ∧ tget (tab_7_copyTable X) 17 = some (false, a_const 0 18) ∧ tget (tab_7_copyTable X) 18 = some (false, a_aload 1 19) ∧ tget (tab_7_copyTable X) 19 = some (false, a_iload 2 20) ∧ tget (tab_7_copyTable X) 20 = some (false, a_aald 21) ∧ tget (tab_7_copyTable X) 21 = some (false, a_const 0 22) ∧ tget (tab_7_copyTable X) 22 = some (false, a_aload 0 23) ∧ tget (tab_7_copyTable X) 23 = some (false, a_iload 2 24) ∧ tget (tab_7_copyTable X) 24 = some (false, a_aald 25) ∧ tget (tab_7_copyTable X) 25 = some (false, a_len 26) ∧ tget (tab_7_copyTable X) 26 = some (false, a_aload 1 27) ∧ tget (tab_7_copyTable X) 27 = some (false, a_iload 2 28) ∧ tget (tab_7_copyTable X) 28 = some (false, a_aald 29) ∧ tget (tab_7_copyTable X) 29 = some (false, a_len 30) ∧ tget (tab_7_copyTable X) 30 = some (false, a_min M_7_copyTable 33) ∧ tget (tab_7_copyTable X) 33 = some (false, a_copy 36) ∧ tget (tab_7_copyTable X) 36 = some (false, a_iinc 2 1 39) ∧ tget (tab_7_copyTable X) 39 = some (false, a_goto 2) ∧ tget (tab_7_copyTable X) 42 = some (false, a_ret M_7_copyTable) := ⟨rfl, rfl, rfl, rfl, rfl, rfl, rfl, rfl, rfl, rfl, rfl, rfl, rfl, rfl, rfl, rfl, rfl, rfl, rfl, rfl, rfl, rfl, rfl, rfl, rfl, rfl, rfl, rfl, rfl, rfl, rfl⟩
theorem tok_7_copyTable (X : XT) : TabOK X M_7_copyTable (tab_7_copyTable X) := by
  unfold tab_7_copyTable
  refine tok_cons (snd_iconst dX7_copyTable_0 rfl (inr_d rfl) rfl) ?_
  refine tok_cons (snd_istore_n dX7_copyTable_1 rfl rfl (by decide)) ?_
  refine tok_cons (snd_iload_n dX7_copyTable_2 rfl rfl) ?_
  refine tok_cons (snd_aload_n dX7_copyTable_3 rfl rfl) ?_
  refine tok_cons (snd_len dX7_copyTable_4 rfl) ?_
  refine tok_cons (snd_icmp_ge dX7_copyTable_5 (by decide) rfl) ?_
  refine tok_cons (snd_iload_n dX7_copyTable_8 rfl rfl) ?_
  refine tok_cons (snd_aload_n dX7_copyTable_9 rfl rfl) ?_
  refine tok_cons (snd_len dX7_copyTable_10 rfl) ?_
  refine tok_cons (snd_icmp_ge dX7_copyTable_11 (by decide) rfl) ?_
  refine tok_cons (snd_aload_n dX7_copyTable_14 rfl rfl) ?_
  refine tok_cons (snd_iload_n dX7_copyTable_15 rfl rfl) ?_
  refine tok_cons (snd_aald dX7_copyTable_16 rfl) ?_
  refine tok_cons (snd_iconst dX7_copyTable_17 rfl (inr_d rfl) rfl) ?_
  refine tok_cons (snd_aload_n dX7_copyTable_18 rfl rfl) ?_
  refine tok_cons (snd_iload_n dX7_copyTable_19 rfl rfl) ?_
  refine tok_cons (snd_aald dX7_copyTable_20 rfl) ?_
  refine tok_cons (snd_iconst dX7_copyTable_21 rfl (inr_d rfl) rfl) ?_
  refine tok_cons (snd_aload_n dX7_copyTable_22 rfl rfl) ?_
  refine tok_cons (snd_iload_n dX7_copyTable_23 rfl rfl) ?_
  refine tok_cons (snd_aald dX7_copyTable_24 rfl) ?_
  refine tok_cons (snd_len dX7_copyTable_25 rfl) ?_
  refine tok_cons (snd_aload_n dX7_copyTable_26 rfl rfl) ?_
  refine tok_cons (snd_iload_n dX7_copyTable_27 rfl rfl) ?_
  refine tok_cons (snd_aald dX7_copyTable_28 rfl) ?_
  refine tok_cons (snd_len dX7_copyTable_29 rfl) ?_
  refine tok_cons (snd_min dX7_copyTable_30 wm7_201 ws_min wn_Math wc_min (by decide) rfl) ?_
  refine tok_cons (snd_copy dX7_copyTable_33 wm7_195 wnat ws_acopy wn_Sys (by decide) rfl) ?_
  refine tok_cons (snd_iinc dX7_copyTable_36 rfl rfl (by decide)) ?_
  refine tok_cons (snd_goto dX7_copyTable_39 (by decide)) ?_
  refine tok_cons (snd_ret dX7_copyTable_42 rfl) ?_
  exact tok_nil
def tab_0_blankSquares (X : XT) : Tab := [(0, false, a_const 0 1), (1, false, a_istore 2 2), (2, false, a_const 0 3), (3, false, a_istore 3 4), (4, false, a_iload 3 5), (5, false, a_const 2 6), (6, false, a_icmp 3 57 9), (9, false, a_aload 1 10), (10, false, a_gr 1 4 13), (13, false, a_const 0 14), (14, false, a_ald false 15), (15, false, a_aload 0 16), (16, false, a_gr 0 5 19), (19, false, a_gr 2 0 22), (22, false, a_iload 3 23), (23, false, a_ald false 24), (24, false, a_sub 25), (25, false, a_aload 0 26), (26, false, a_gr 0 5 29), (29, false, a_iload 3 30), (30, false, a_aload 1 31), (31, false, a_gr 1 4 34), (34, false, a_const 2 35), (35, false, a_ald false 36), (36, false, a_const 0 37), (37, false, a_cv X M_0_blankSquares M_2_noteRows 2 4 40), (40, false, a_sub 41), (41, false, a_istore 4 43), (43, false, a_iload 2 44), (44, false, a_iload 4 46), (46, false, a_iload 4 48), (48, false, a_mul 49), (49, false, a_add 50), (50, false, a_istore 2 51), (51, false, a_iinc 3 1 54), (54, false, a_goto 4), (57, false, a_iload 2 58), (58, false, a_iret M_0_blankSquares)]
set_option maxRecDepth 20000 in
theorem t_0_blankSquares (X : XT) : tget (tab_0_blankSquares X) 0 = some (false, a_const 0 1) ∧ tget (tab_0_blankSquares X) 1 = some (false, a_istore 2 2) ∧ tget (tab_0_blankSquares X) 2 = some (false, a_const 0 3) ∧ tget (tab_0_blankSquares X) 3 = some (false, a_istore 3 4) ∧ tget (tab_0_blankSquares X) 4 = some (false, a_iload 3 5) ∧ tget (tab_0_blankSquares X) 5 = some (false, a_const 2 6) ∧ tget (tab_0_blankSquares X) 6 = some (false, a_icmp 3 57 9) ∧ tget (tab_0_blankSquares X) 9 = some (false, a_aload 1 10) ∧ tget (tab_0_blankSquares X) 10 = some (false, a_gr 1 4 13) ∧ tget (tab_0_blankSquares X) 13 = some (false, a_const 0 14) ∧ tget (tab_0_blankSquares X) 14 = some (false, a_ald false 15) ∧ tget (tab_0_blankSquares X) 15 = some (false, a_aload 0 16) ∧ tget (tab_0_blankSquares X) 16 = some (false, a_gr 0 5 19) ∧ tget (tab_0_blankSquares X) 19 = some (false, a_gr 2 0 22) ∧ tget (tab_0_blankSquares X) 22 = some (false, a_iload 3 23) ∧ tget (tab_0_blankSquares X) 23 = some (false, a_ald false 24) ∧ tget (tab_0_blankSquares X) 24 = some (false, a_sub 25) ∧ tget (tab_0_blankSquares X) 25 = some (false, a_aload 0 26) ∧ tget (tab_0_blankSquares X) 26 = some (false, a_gr 0 5 29) ∧ tget (tab_0_blankSquares X) 29 = some (false, a_iload 3 30) ∧ tget (tab_0_blankSquares X) 30 = some (false, a_aload 1 31) ∧ tget (tab_0_blankSquares X) 31 = some (false, a_gr 1 4 34) ∧ tget (tab_0_blankSquares X) 34 = some (false, a_const 2 35) ∧ tget (tab_0_blankSquares X) 35 = some (false, a_ald false 36) ∧ tget (tab_0_blankSquares X) 36 = some (false, a_const 0 37) ∧ tget (tab_0_blankSquares X) 37 = some (false, a_cv X M_0_blankSquares M_2_noteRows 2 4 40) ∧ tget (tab_0_blankSquares X) 40 = some (false, a_sub 41) ∧ tget (tab_0_blankSquares X) 41 = some (false, a_istore 4 43) ∧ tget (tab_0_blankSquares X) 43 = some (false, a_iload 2 44) ∧ tget (tab_0_blankSquares X) 44 = some (false, a_iload 4 46) ∧ tget (tab_0_blankSquares X) 46 = some (false, a_iload 4 48) ∧ tget (tab_0_blankSquares X) 48 = some (false, a_mul 49) ∧ tget (tab_0_blankSquares X) 49 = some (false, a_add 50) ∧ tget (tab_0_blankSquares X) 50 = some (false, a_istore 2 51) ∧ tget (tab_0_blankSquares X) 51 = some (false, a_iinc 3 1 54) ∧ tget (tab_0_blankSquares X) 54 = some (false, a_goto 4) ∧ tget (tab_0_blankSquares X) 57 = some (false, a_iload 2 58) ∧ tget (tab_0_blankSquares X) 58 = some (false, a_iret M_0_blankSquares) := ⟨rfl, rfl, rfl, rfl, rfl, rfl, rfl, rfl, rfl, rfl, rfl, rfl, rfl, rfl, rfl, rfl, rfl, rfl, rfl, rfl, rfl, rfl, rfl, rfl, rfl, rfl, rfl, rfl, rfl, rfl, rfl, rfl, rfl, rfl, rfl, rfl, rfl, rfl⟩
theorem tok_0_blankSquares (X : XT) : TabOK X M_0_blankSquares (tab_0_blankSquares X) := by
  unfold tab_0_blankSquares
  refine tok_cons (snd_iconst dX0_blankSquares_0 rfl (inr_d rfl) rfl) ?_
  refine tok_cons (snd_istore_n dX0_blankSquares_1 rfl rfl (by decide)) ?_
  refine tok_cons (snd_iconst dX0_blankSquares_2 rfl (inr_d rfl) rfl) ?_
  refine tok_cons (snd_istore_n dX0_blankSquares_3 rfl rfl (by decide)) ?_
  refine tok_cons (snd_iload_n dX0_blankSquares_4 rfl rfl) ?_
  refine tok_cons (snd_iconst dX0_blankSquares_5 rfl (inr_d rfl) rfl) ?_
  refine tok_cons (snd_icmp_ge dX0_blankSquares_6 (by decide) rfl) ?_
  refine tok_cons (snd_aload_n dX0_blankSquares_9 rfl rfl) ?_
  refine tok_cons (snd_gr (C := RX1) (T := TX1) (N := 5) dX0_blankSquares_10 rfl (by decide) rfl wf0_84 inX1 rfl) ?_
  refine tok_cons (snd_iconst dX0_blankSquares_13 rfl (inr_d rfl) rfl) ?_
  refine tok_cons (snd_iald dX0_blankSquares_14 rfl) ?_
  refine tok_cons (snd_aload_n dX0_blankSquares_15 rfl rfl) ?_
  refine tok_cons (snd_gr (C := RX0) (T := TX0) (N := 7) dX0_blankSquares_16 rfl (by decide) rfl wf0_24 inX0 rfl) ?_
  refine tok_cons (snd_gr (C := RX2) (T := TX2) (N := 7) dX0_blankSquares_19 rfl (by decide) rfl wf0_99 inX2 rfl) ?_
  refine tok_cons (snd_iload_n dX0_blankSquares_22 rfl rfl) ?_
  refine tok_cons (snd_iald dX0_blankSquares_23 rfl) ?_
  refine tok_cons (snd_sub dX0_blankSquares_24 rfl) ?_
  refine tok_cons (snd_aload_n dX0_blankSquares_25 rfl rfl) ?_
  refine tok_cons (snd_gr (C := RX0) (T := TX0) (N := 7) dX0_blankSquares_26 rfl (by decide) rfl wf0_24 inX0 rfl) ?_
  refine tok_cons (snd_iload_n dX0_blankSquares_29 rfl rfl) ?_
  refine tok_cons (snd_aload_n dX0_blankSquares_30 rfl rfl) ?_
  refine tok_cons (snd_gr (C := RX1) (T := TX1) (N := 5) dX0_blankSquares_31 rfl (by decide) rfl wf0_84 inX1 rfl) ?_
  refine tok_cons (snd_iconst dX0_blankSquares_34 rfl (inr_d rfl) rfl) ?_
  refine tok_cons (snd_iald dX0_blankSquares_35 rfl) ?_
  refine tok_cons (snd_iconst dX0_blankSquares_36 rfl (inr_d rfl) rfl) ?_
  refine tok_cons (snd_cv dX0_blankSquares_37 mok_2_noteRows ⟨wm0_102, wi_2_noteRows, wl_2_noteRows⟩ (rc := (RX2, TX2, 7)) rfl rfl pn_2_noteRows (by decide) ⟨rfl, rfl⟩ rfl) ?_
  refine tok_cons (snd_sub dX0_blankSquares_40 rfl) ?_
  refine tok_cons (snd_istore dX0_blankSquares_41 rfl (by decide)) ?_
  refine tok_cons (snd_iload_n dX0_blankSquares_43 rfl rfl) ?_
  refine tok_cons (snd_iload dX0_blankSquares_44 rfl) ?_
  refine tok_cons (snd_iload dX0_blankSquares_46 rfl) ?_
  refine tok_cons (snd_mul dX0_blankSquares_48 rfl) ?_
  refine tok_cons (snd_add dX0_blankSquares_49 rfl) ?_
  refine tok_cons (snd_istore_n dX0_blankSquares_50 rfl rfl (by decide)) ?_
  refine tok_cons (snd_iinc dX0_blankSquares_51 rfl rfl (by decide)) ?_
  refine tok_cons (snd_goto dX0_blankSquares_54 (by decide)) ?_
  refine tok_cons (snd_iload_n dX0_blankSquares_57 rfl rfl) ?_
  refine tok_cons (snd_iret dX0_blankSquares_58 rfl) ?_
  exact tok_nil
def tab_1_hasPair (X : XT) : Tab := [(0, false, a_iload 1 1), (1, false, a_const 0 2), (2, false, a_aload 0 3), (3, false, a_gi 1 0 0 6), (6, false, a_const 1 7), (7, false, a_sub 8), (8, false, a_sv X M_1_hasPair M_7_isIn 3 11), (11, false, a_zret M_1_hasPair)]
set_option maxRecDepth 20000 in
theorem t_1_hasPair (X : XT) : tget (tab_1_hasPair X) 0 = some (false, a_iload 1 1) ∧ tget (tab_1_hasPair X) 1 = some (false, a_const 0 2) ∧ tget (tab_1_hasPair X) 2 = some (false, a_aload 0 3) ∧ tget (tab_1_hasPair X) 3 = some (false, a_gi 1 0 0 6) ∧ tget (tab_1_hasPair X) 6 = some (false, a_const 1 7) ∧ tget (tab_1_hasPair X) 7 = some (false, a_sub 8) ∧ tget (tab_1_hasPair X) 8 = some (false, a_sv X M_1_hasPair M_7_isIn 3 11) ∧ tget (tab_1_hasPair X) 11 = some (false, a_zret M_1_hasPair) := ⟨rfl, rfl, rfl, rfl, rfl, rfl, rfl, rfl⟩
theorem tok_1_hasPair (X : XT) : TabOK X M_1_hasPair (tab_1_hasPair X) := by
  unfold tab_1_hasPair
  refine tok_cons (snd_iload_n dX1_hasPair_0 rfl rfl) ?_
  refine tok_cons (snd_iconst dX1_hasPair_1 rfl (inr_d rfl) rfl) ?_
  refine tok_cons (snd_aload_n dX1_hasPair_2 rfl rfl) ?_
  refine tok_cons (snd_gi (C := RX1) (T := TX1) (N := 5) dX1_hasPair_3 rfl (by decide) rfl wf1_38 inX1 rfl rfl) ?_
  refine tok_cons (snd_iconst dX1_hasPair_6 rfl (inr_d rfl) rfl) ?_
  refine tok_cons (snd_sub dX1_hasPair_7 rfl) ?_
  refine tok_cons (snd_sv dX1_hasPair_8 mok_7_isIn ⟨ws_7_isIn, Or.inr (List.mem_of_getElem? (i := 11) rfl)⟩ pn_7_isIn (by decide) ⟨rfl, rfl⟩ rfl) ?_
  refine tok_cons (snd_zret dX1_hasPair_11 rfl) ?_
  exact tok_nil
def tab_2_put (X : XT) : Tab := [(0, false, a_const 0 1), (1, false, a_istore 3 2), (2, false, a_iload 3 3), (3, false, a_const 2 4), (4, false, a_icmp 3 143 7), (7, false, a_aload 0 8), (8, false, a_gr 2 0 11), (11, false, a_iload 3 12), (12, false, a_aload 0 13), (13, false, a_gr 2 1 16), (16, false, a_iload 3 17), (17, false, a_ald false 18), (18, false, a_aload 2 19), (19, false, a_gr 5 2 22), (22, false, a_iload 3 23), (23, false, a_ald false 24), (24, false, a_add 25), (25, false, a_ast false 26), (26, false, a_aload 1 27), (27, false, a_iload 3 28), (28, false, a_cv X M_2_put M_1_notes 1 2 31), (31, false, a_astore 4 33), (33, false, a_aload 0 34), (34, false, a_gr 2 3 37), (37, false, a_iload 3 38), (38, false, a_ald false 39), (39, false, a_aload 0 40), (40, false, a_gr 2 4 43), (43, false, a_iload 3 44), (44, false, a_ald false 45), (45, false, a_add 46), (46, false, a_istore 5 48), (48, false, a_aload 4 50), (50, false, a_iload 5 52), (52, false, a_aload 2 53), (53, false, a_gi 5 0 0 56), (56, false, a_aload 2 57), (57, false, a_gr 5 1 60), (60, false, a_iload 3 61), (61, false, a_ald false 62), (62, false, a_aload 2 63), (63, false, a_gr 5 2 66), (66, false, a_iload 3 67), (67, false, a_ald false 68), (68, false, a_add 69), (69, false, a_cv X M_2_put M_4_endBefore 4 4 72), (72, false, a_istore 6 74), (74, false, a_iload 5 76), (76, false, a_istore 7 78), (78, true, a_iload 7 80), (80, false, a_iload 6 82), (82, false, a_icmp 3 122 85), (85, false, a_aload 0 86), (86, false, a_gr 2 6 89), (89, false, a_iload 3 90), (90, false, a_aload 4 92), (92, false, a_gr 4 1 95), (95, false, a_const 2 96), (96, false, a_aald 97), (97, false, a_iload 7 99), (99, false, a_ald false 100), (100, false, a_ast false 101), (101, false, a_aload 0 102), (102, false, a_gr 2 5 105), (105, false, a_iload 3 106), (106, false, a_dup2 107), (107, false, a_ald false 108), (108, false, a_aload 0 109), (109, false, a_gr 2 6 112), (112, false, a_iload 3 113), (113, false, a_ald false 114), (114, false, a_add 115), (115, false, a_ast false 116), (116, false, a_iinc 7 1 119), (119, false, a_goto 78), (122, false, a_aload 0 123), (123, false, a_gr 2 4 126), (126, false, a_iload 3 127), (127, false, a_iload 6 129), (129, false, a_aload 0 130), (130, false, a_gr 2 3 133), (133, false, a_iload 3 134), (134, false, a_ald false 135), (135, false, a_sub 136), (136, false, a_ast false 137), (137, false, a_iinc 3 1 140), (140, false, a_goto 2), (143, false, a_aload 1 144), (144, false, a_gr 1 4 147), (147, false, a_const 5 148), (148, false, a_ald false 149), (149, false, a_const 1 150), (150, false, a_icmp 1 157 153), (153, false, a_const 1 154), (154, false, a_goto 158), (157, false, a_const 0 158), (158, false, a_istore 3 159), (159, false, a_aload 0 160), (160, false, a_gr 2 0 163), (163, false, a_const 0 164), (164, false, a_ald false 165), (165, false, a_aload 0 166), (166, false, a_gr 2 0 169), (169, false, a_const 1 170), (170, false, a_ald false 171), (171, false, a_max M_2_put 174), (174, false, a_istore 4 176), (176, false, a_const 0 177), (177, false, a_istore 5 179), (179, false, a_iload 5 181), (181, false, a_const 2 182), (182, false, a_icmp 3 221 185), (185, false, a_aload 0 186), (186, false, a_gr 2 1 189), (189, false, a_iload 5 191), (191, false, a_iload 3 192), (192, false, a_if 0 200 195), (195, false, a_iload 4 197), (197, false, a_goto 207), (200, false, a_aload 0 201), (201, false, a_gr 2 0 204), (204, false, a_iload 5 206), (206, false, a_ald false 207), (207, false, a_aload 1 208), (208, false, a_gr 1 4 211), (211, false, a_const 1 212), (212, false, a_ald false 213), (213, false, a_add 214), (214, false, a_ast false 215), (215, false, a_iinc 5 1 218), (218, false, a_goto 179), (221, false, a_ret M_2_put)]
set_option maxRecDepth 20000 in
theorem t_2_put (X : XT) : tget (tab_2_put X) 0 = some (false, a_const 0 1) ∧ tget (tab_2_put X) 1 = some (false, a_istore 3 2) ∧ tget (tab_2_put X) 2 = some (false, a_iload 3 3) ∧ tget (tab_2_put X) 3 = some (false, a_const 2 4) ∧ tget (tab_2_put X) 4 = some (false, a_icmp 3 143 7) ∧ tget (tab_2_put X) 7 = some (false, a_aload 0 8) ∧ tget (tab_2_put X) 8 = some (false, a_gr 2 0 11) ∧ tget (tab_2_put X) 11 = some (false, a_iload 3 12) ∧ tget (tab_2_put X) 12 = some (false, a_aload 0 13) ∧ tget (tab_2_put X) 13 = some (false, a_gr 2 1 16) ∧ tget (tab_2_put X) 16 = some (false, a_iload 3 17) ∧ tget (tab_2_put X) 17 = some (false, a_ald false 18) ∧ tget (tab_2_put X) 18 = some (false, a_aload 2 19) ∧ tget (tab_2_put X) 19 = some (false, a_gr 5 2 22) ∧ tget (tab_2_put X) 22 = some (false, a_iload 3 23) ∧ tget (tab_2_put X) 23 = some (false, a_ald false 24) ∧ tget (tab_2_put X) 24 = some (false, a_add 25) ∧ tget (tab_2_put X) 25 = some (false, a_ast false 26) ∧ tget (tab_2_put X) 26 = some (false, a_aload 1 27) ∧ tget (tab_2_put X) 27 = some (false, a_iload 3 28) ∧ tget (tab_2_put X) 28 = some (false, a_cv X M_2_put M_1_notes 1 2 31) ∧ tget (tab_2_put X) 31 = some (false, a_astore 4 33) ∧ tget (tab_2_put X) 33 = some (false, a_aload 0 34) ∧ tget (tab_2_put X) 34 = some (false, a_gr 2 3 37) ∧ tget (tab_2_put X) 37 = some (false, a_iload 3 38) ∧ tget (tab_2_put X) 38 = some (false, a_ald false 39) ∧ tget (tab_2_put X) 39 = some (false, a_aload 0 40) ∧ tget (tab_2_put X) 40 = some (false, a_gr 2 4 43) ∧ tget (tab_2_put X) 43 = some (false, a_iload 3 44) ∧ tget (tab_2_put X) 44 = some (false, a_ald false 45) ∧ tget (tab_2_put X) 45 = some (false, a_add 46) ∧ tget (tab_2_put X) 46 = some (false, a_istore 5 48) ∧ tget (tab_2_put X) 48 = some (false, a_aload 4 50) ∧ tget (tab_2_put X) 50 = some (false, a_iload 5 52) ∧ tget (tab_2_put X) 52 = some (false, a_aload 2 53) ∧ tget (tab_2_put X) 53 = some (false, a_gi 5 0 0 56) ∧ tget (tab_2_put X) 56 = some (false, a_aload 2 57) ∧ tget (tab_2_put X) 57 = some (false, a_gr 5 1 60) ∧ tget (tab_2_put X) 60 = some (false, a_iload 3 61) ∧ tget (tab_2_put X) 61 = some (false, a_ald false 62) ∧ tget (tab_2_put X) 62 = some (false, a_aload 2 63) ∧ tget (tab_2_put X) 63 = some (false, a_gr 5 2 66) ∧ tget (tab_2_put X) 66 = some (false, a_iload 3 67) ∧ tget (tab_2_put X) 67 = some (false, a_ald false 68) ∧ tget (tab_2_put X) 68 = some (false, a_add 69) ∧ tget (tab_2_put X) 69 = some (false, a_cv X M_2_put M_4_endBefore 4 4 72) ∧ tget (tab_2_put X) 72 = some (false, a_istore 6 74) ∧ tget (tab_2_put X) 74 = some (false, a_iload 5 76) ∧ tget (tab_2_put X) 76 = some (false, a_istore 7 78) ∧ tget (tab_2_put X) 78 = some (true, a_iload 7 80) ∧ tget (tab_2_put X) 80 = some (false, a_iload 6 82) ∧ tget (tab_2_put X) 82 = some (false, a_icmp 3 122 85) ∧ tget (tab_2_put X) 85 = some (false, a_aload 0 86) ∧ tget (tab_2_put X) 86 = some (false, a_gr 2 6 89) ∧ tget (tab_2_put X) 89 = some (false, a_iload 3 90) ∧ tget (tab_2_put X) 90 = some (false, a_aload 4 92) ∧ tget (tab_2_put X) 92 = some (false, a_gr 4 1 95) ∧ tget (tab_2_put X) 95 = some (false, a_const 2 96) ∧ tget (tab_2_put X) 96 = some (false, a_aald 97) ∧ tget (tab_2_put X) 97 = some (false, a_iload 7 99) ∧ tget (tab_2_put X) 99 = some (false, a_ald false 100) ∧ tget (tab_2_put X) 100 = some (false, a_ast false 101) ∧ tget (tab_2_put X) 101 = some (false, a_aload 0 102) ∧ tget (tab_2_put X) 102 = some (false, a_gr 2 5 105) ∧ tget (tab_2_put X) 105 = some (false, a_iload 3 106) ∧ tget (tab_2_put X) 106 = some (false, a_dup2 107) ∧ tget (tab_2_put X) 107 = some (false, a_ald false 108) ∧ tget (tab_2_put X) 108 = some (false, a_aload 0 109) ∧ tget (tab_2_put X) 109 = some (false, a_gr 2 6 112) ∧ tget (tab_2_put X) 112 = some (false, a_iload 3 113) ∧ tget (tab_2_put X) 113 = some (false, a_ald false 114) ∧ tget (tab_2_put X) 114 = some (false, a_add 115) ∧ tget (tab_2_put X) 115 = some (false, a_ast false 116) ∧ tget (tab_2_put X) 116 = some (false, a_iinc 7 1 119) ∧ tget (tab_2_put X) 119 = some (false, a_goto 78) ∧ tget (tab_2_put X) 122 = some (false, a_aload 0 123) ∧ tget (tab_2_put X) 123 = some (false, a_gr 2 4 126) ∧ tget (tab_2_put X) 126 = some (false, a_iload 3 127) ∧ tget (tab_2_put X) 127 = some (false, a_iload 6 129) ∧ tget (tab_2_put X) 129 = some (false, a_aload 0 130) ∧ tget (tab_2_put X) 130 = some (false, a_gr 2 3 133) ∧ tget (tab_2_put X) 133 = some (false, a_iload 3 134) ∧ tget (tab_2_put X) 134 = some (false, a_ald false 135) ∧ tget (tab_2_put X) 135 = some (false, a_sub 136) ∧ tget (tab_2_put X) 136 = some (false, a_ast false 137) ∧ tget (tab_2_put X) 137 = some (false, a_iinc 3 1 140) ∧ tget (tab_2_put X) 140 = some (false, a_goto 2) ∧ tget (tab_2_put X) 143 = some (false, a_aload 1 144) ∧ tget (tab_2_put X) 144 = some (false, a_gr 1 4 147) ∧ tget (tab_2_put X) 147 = some (false, a_const 5 148) ∧ tget (tab_2_put X) 148 = some (false, a_ald false 149) ∧ tget (tab_2_put X) 149 = some (false, a_const 1 150) ∧ tget (tab_2_put X) 150 = some (false, a_icmp 1 157 153) ∧ tget (tab_2_put X) 153 = some (false, a_const 1 154) ∧ tget (tab_2_put X) 154 = some (false, a_goto 158) ∧ tget (tab_2_put X) 157 = some (false, a_const 0 158) ∧ tget (tab_2_put X) 158 = some (false, a_istore 3 159) ∧ tget (tab_2_put X) 159 = some (false, a_aload 0 160) ∧ tget (tab_2_put X) 160 = some (false, a_gr 2 0 163) ∧ tget (tab_2_put X) 163 = some (false, a_const 0 164) ∧ tget (tab_2_put X) 164 = some (false, a_ald false 165) ∧ tget (tab_2_put X) 165 = some (false, a_aload 0 166) ∧ tget (tab_2_put X) 166 = some (false, a_gr 2 0 169) ∧ tget (tab_2_put X) 169 = some (false, a_const 1 170) ∧ tget (tab_2_put X) 170 = some (false, a_ald false 171) ∧ tget (tab_2_put X) 171 = some (false, a_max M_2_put 174) ∧ tget (tab_2_put X) 174 = some (false, a_istore 4 176) ∧ tget (tab_2_put X) 176 = some (false, a_const 0 177) ∧ tget (tab_2_put X) 177 = some (false, a_istore 5 179) ∧ tget (tab_2_put X) 179 = some (false, a_iload 5 181) ∧ tget (tab_2_put X) 181 = some (false, a_const 2 182) ∧ tget (tab_2_put X) 182 = some (false, a_icmp 3 221 185) ∧ tget (tab_2_put X) 185 = some (false, a_aload 0 186) ∧ tget (tab_2_put X) 186 = some (false, a_gr 2 1 189) ∧ tget (tab_2_put X) 189 = some (false, a_iload 5 191) ∧ tget (tab_2_put X) 191 = some (false, a_iload 3 192) ∧ tget (tab_2_put X) 192 = some (false, a_if 0 200 195) ∧ tget (tab_2_put X) 195 = some (false, a_iload 4 197) ∧ tget (tab_2_put X) 197 = some (false, a_goto 207) ∧ tget (tab_2_put X) 200 = some (false, a_aload 0 201) ∧ tget (tab_2_put X) 201 = some (false, a_gr 2 0 204) ∧ tget (tab_2_put X) 204 = some (false, a_iload 5 206) ∧ tget (tab_2_put X) 206 = some (false, a_ald false 207) ∧ tget (tab_2_put X) 207 = some (false, a_aload 1 208) ∧ tget (tab_2_put X) 208 = some (false, a_gr 1 4 211) ∧ tget (tab_2_put X) 211 = some (false, a_const 1 212) ∧ tget (tab_2_put X) 212 = some (false, a_ald false 213) ∧ tget (tab_2_put X) 213 = some (false, a_add 214) ∧ tget (tab_2_put X) 214 = some (false, a_ast false 215) ∧ tget (tab_2_put X) 215 = some (false, a_iinc 5 1 218) ∧ tget (tab_2_put X) 218 = some (false, a_goto 179) ∧ tget (tab_2_put X) 221 = some (false, a_ret M_2_put) := ⟨rfl, rfl, rfl, rfl, rfl, rfl, rfl, rfl, rfl, rfl, rfl, rfl, rfl, rfl, rfl, rfl, rfl, rfl, rfl, rfl, rfl, rfl, rfl, rfl, rfl, rfl, rfl, rfl, rfl, rfl, rfl, rfl, rfl, rfl, rfl, rfl, rfl, rfl, rfl, rfl, rfl, rfl, rfl, rfl, rfl, rfl, rfl, rfl, rfl, rfl, rfl, rfl, rfl, rfl, rfl, rfl, rfl, rfl, rfl, rfl, rfl, rfl, rfl, rfl, rfl, rfl, rfl, rfl, rfl, rfl, rfl, rfl, rfl, rfl, rfl, rfl, rfl, rfl, rfl, rfl, rfl, rfl, rfl, rfl, rfl, rfl, rfl, rfl, rfl, rfl, rfl, rfl, rfl, rfl, rfl, rfl, rfl, rfl, rfl, rfl, rfl, rfl, rfl, rfl, rfl, rfl, rfl, rfl, rfl, rfl, rfl, rfl, rfl, rfl, rfl, rfl, rfl, rfl, rfl, rfl, rfl, rfl, rfl, rfl, rfl, rfl, rfl, rfl, rfl, rfl, rfl, rfl⟩
theorem tok_2_put (X : XT) : TabOK X M_2_put (tab_2_put X) := by
  unfold tab_2_put
  refine tok_cons (snd_iconst dX2_put_0 rfl (inr_d rfl) rfl) ?_
  refine tok_cons (snd_istore_n dX2_put_1 rfl rfl (by decide)) ?_
  refine tok_cons (snd_iload_n dX2_put_2 rfl rfl) ?_
  refine tok_cons (snd_iconst dX2_put_3 rfl (inr_d rfl) rfl) ?_
  refine tok_cons (snd_icmp_ge dX2_put_4 (by decide) rfl) ?_
  refine tok_cons (snd_aload_n dX2_put_7 rfl rfl) ?_
  refine tok_cons (snd_gr (C := RX2) (T := TX2) (N := 7) dX2_put_8 rfl (by decide) rfl wf2_9 inX2 rfl) ?_
  refine tok_cons (snd_iload_n dX2_put_11 rfl rfl) ?_
  refine tok_cons (snd_aload_n dX2_put_12 rfl rfl) ?_
  refine tok_cons (snd_gr (C := RX2) (T := TX2) (N := 7) dX2_put_13 rfl (by decide) rfl wf2_15 inX2 rfl) ?_
  refine tok_cons (snd_iload_n dX2_put_16 rfl rfl) ?_
  refine tok_cons (snd_iald dX2_put_17 rfl) ?_
  refine tok_cons (snd_aload_n dX2_put_18 rfl rfl) ?_
  refine tok_cons (snd_gr (C := RX5) (T := TX5) (N := 3) dX2_put_19 rfl (by decide) rfl wf2_39 inX5 rfl) ?_
  refine tok_cons (snd_iload_n dX2_put_22 rfl rfl) ?_
  refine tok_cons (snd_iald dX2_put_23 rfl) ?_
  refine tok_cons (snd_add dX2_put_24 rfl) ?_
  refine tok_cons (snd_iast dX2_put_25 rfl) ?_
  refine tok_cons (snd_aload_n dX2_put_26 rfl rfl) ?_
  refine tok_cons (snd_iload_n dX2_put_27 rfl rfl) ?_
  refine tok_cons (snd_cv dX2_put_28 mok_1_notes ⟨wm2_44, wi_1_notes, wl_1_notes⟩ (rc := (RX1, TX1, 5)) rfl rfl pn_1_notes (by decide) ⟨rfl, rfl⟩ rfl) ?_
  refine tok_cons (snd_astore dX2_put_31 rfl (by decide)) ?_
  refine tok_cons (snd_aload_n dX2_put_33 rfl rfl) ?_
  refine tok_cons (snd_gr (C := RX2) (T := TX2) (N := 7) dX2_put_34 rfl (by decide) rfl wf2_21 inX2 rfl) ?_
  refine tok_cons (snd_iload_n dX2_put_37 rfl rfl) ?_
  refine tok_cons (snd_iald dX2_put_38 rfl) ?_
  refine tok_cons (snd_aload_n dX2_put_39 rfl rfl) ?_
  refine tok_cons (snd_gr (C := RX2) (T := TX2) (N := 7) dX2_put_40 rfl (by decide) rfl wf2_24 inX2 rfl) ?_
  refine tok_cons (snd_iload_n dX2_put_43 rfl rfl) ?_
  refine tok_cons (snd_iald dX2_put_44 rfl) ?_
  refine tok_cons (snd_add dX2_put_45 rfl) ?_
  refine tok_cons (snd_istore dX2_put_46 rfl (by decide)) ?_
  refine tok_cons (snd_aload dX2_put_48 rfl) ?_
  refine tok_cons (snd_iload dX2_put_50 rfl) ?_
  refine tok_cons (snd_aload_n dX2_put_52 rfl rfl) ?_
  refine tok_cons (snd_gi (C := RX5) (T := TX5) (N := 3) dX2_put_53 rfl (by decide) rfl wf2_49 inX5 rfl rfl) ?_
  refine tok_cons (snd_aload_n dX2_put_56 rfl rfl) ?_
  refine tok_cons (snd_gr (C := RX5) (T := TX5) (N := 3) dX2_put_57 rfl (by decide) rfl wf2_53 inX5 rfl) ?_
  refine tok_cons (snd_iload_n dX2_put_60 rfl rfl) ?_
  refine tok_cons (snd_iald dX2_put_61 rfl) ?_
  refine tok_cons (snd_aload_n dX2_put_62 rfl rfl) ?_
  refine tok_cons (snd_gr (C := RX5) (T := TX5) (N := 3) dX2_put_63 rfl (by decide) rfl wf2_39 inX5 rfl) ?_
  refine tok_cons (snd_iload_n dX2_put_66 rfl rfl) ?_
  refine tok_cons (snd_iald dX2_put_67 rfl) ?_
  refine tok_cons (snd_add dX2_put_68 rfl) ?_
  refine tok_cons (snd_cv dX2_put_69 mok_4_endBefore ⟨wm2_56, wi_4_endBefore, wl_4_endBefore⟩ (rc := (RX4, TX4, 2)) rfl rfl pn_4_endBefore (by decide) ⟨rfl, rfl⟩ rfl) ?_
  refine tok_cons (snd_istore dX2_put_72 rfl (by decide)) ?_
  refine tok_cons (snd_iload dX2_put_74 rfl) ?_
  refine tok_cons (snd_istore dX2_put_76 rfl (by decide)) ?_
  refine tok_cons (snd_iload dX2_put_78 rfl) ?_
  refine tok_cons (snd_iload dX2_put_80 rfl) ?_
  refine tok_cons (snd_icmp_ge dX2_put_82 (by decide) rfl) ?_
  refine tok_cons (snd_aload_n dX2_put_85 rfl rfl) ?_
  refine tok_cons (snd_gr (C := RX2) (T := TX2) (N := 7) dX2_put_86 rfl (by decide) rfl wf2_30 inX2 rfl) ?_
  refine tok_cons (snd_iload_n dX2_put_89 rfl rfl) ?_
  refine tok_cons (snd_aload dX2_put_90 rfl) ?_
  refine tok_cons (snd_gr (C := RX4) (T := TX4) (N := 2) dX2_put_92 rfl (by decide) rfl wf2_62 inX4 rfl) ?_
  refine tok_cons (snd_iconst dX2_put_95 rfl (inr_d rfl) rfl) ?_
  refine tok_cons (snd_aald dX2_put_96 rfl) ?_
  refine tok_cons (snd_iload dX2_put_97 rfl) ?_
  refine tok_cons (snd_iald dX2_put_99 rfl) ?_
  refine tok_cons (snd_iast dX2_put_100 rfl) ?_
  refine tok_cons (snd_aload_n dX2_put_101 rfl rfl) ?_
  refine tok_cons (snd_gr (C := RX2) (T := TX2) (N := 7) dX2_put_102 rfl (by decide) rfl wf2_27 inX2 rfl) ?_
  refine tok_cons (snd_iload_n dX2_put_105 rfl rfl) ?_
  refine tok_cons (snd_dup2 dX2_put_106 rfl) ?_
  refine tok_cons (snd_iald dX2_put_107 rfl) ?_
  refine tok_cons (snd_aload_n dX2_put_108 rfl rfl) ?_
  refine tok_cons (snd_gr (C := RX2) (T := TX2) (N := 7) dX2_put_109 rfl (by decide) rfl wf2_30 inX2 rfl) ?_
  refine tok_cons (snd_iload_n dX2_put_112 rfl rfl) ?_
  refine tok_cons (snd_iald dX2_put_113 rfl) ?_
  refine tok_cons (snd_add dX2_put_114 rfl) ?_
  refine tok_cons (snd_iast dX2_put_115 rfl) ?_
  refine tok_cons (snd_iinc dX2_put_116 rfl rfl (by decide)) ?_
  refine tok_cons (snd_goto dX2_put_119 (by decide)) ?_
  refine tok_cons (snd_aload_n dX2_put_122 rfl rfl) ?_
  refine tok_cons (snd_gr (C := RX2) (T := TX2) (N := 7) dX2_put_123 rfl (by decide) rfl wf2_24 inX2 rfl) ?_
  refine tok_cons (snd_iload_n dX2_put_126 rfl rfl) ?_
  refine tok_cons (snd_iload dX2_put_127 rfl) ?_
  refine tok_cons (snd_aload_n dX2_put_129 rfl rfl) ?_
  refine tok_cons (snd_gr (C := RX2) (T := TX2) (N := 7) dX2_put_130 rfl (by decide) rfl wf2_21 inX2 rfl) ?_
  refine tok_cons (snd_iload_n dX2_put_133 rfl rfl) ?_
  refine tok_cons (snd_iald dX2_put_134 rfl) ?_
  refine tok_cons (snd_sub dX2_put_135 rfl) ?_
  refine tok_cons (snd_iast dX2_put_136 rfl) ?_
  refine tok_cons (snd_iinc dX2_put_137 rfl rfl (by decide)) ?_
  refine tok_cons (snd_goto dX2_put_140 (by decide)) ?_
  refine tok_cons (snd_aload_n dX2_put_143 rfl rfl) ?_
  refine tok_cons (snd_gr (C := RX1) (T := TX1) (N := 5) dX2_put_144 rfl (by decide) rfl wf2_66 inX1 rfl) ?_
  refine tok_cons (snd_iconst dX2_put_147 rfl (inr_d rfl) rfl) ?_
  refine tok_cons (snd_iald dX2_put_148 rfl) ?_
  refine tok_cons (snd_iconst dX2_put_149 rfl (inr_d rfl) rfl) ?_
  refine tok_cons (snd_icmp_ne dX2_put_150 (by decide) rfl) ?_
  refine tok_cons (snd_iconst dX2_put_153 rfl (inr_d rfl) rfl) ?_
  refine tok_cons (snd_goto dX2_put_154 (by decide)) ?_
  refine tok_cons (snd_iconst dX2_put_157 rfl (inr_d rfl) rfl) ?_
  refine tok_cons (snd_istore_n dX2_put_158 rfl rfl (by decide)) ?_
  refine tok_cons (snd_aload_n dX2_put_159 rfl rfl) ?_
  refine tok_cons (snd_gr (C := RX2) (T := TX2) (N := 7) dX2_put_160 rfl (by decide) rfl wf2_9 inX2 rfl) ?_
  refine tok_cons (snd_iconst dX2_put_163 rfl (inr_d rfl) rfl) ?_
  refine tok_cons (snd_iald dX2_put_164 rfl) ?_
  refine tok_cons (snd_aload_n dX2_put_165 rfl rfl) ?_
  refine tok_cons (snd_gr (C := RX2) (T := TX2) (N := 7) dX2_put_166 rfl (by decide) rfl wf2_9 inX2 rfl) ?_
  refine tok_cons (snd_iconst dX2_put_169 rfl (inr_d rfl) rfl) ?_
  refine tok_cons (snd_iald dX2_put_170 rfl) ?_
  refine tok_cons (snd_max dX2_put_171 wm2_69 ws_max wn_Math wc_max (by decide) rfl) ?_
  refine tok_cons (snd_istore dX2_put_174 rfl (by decide)) ?_
  refine tok_cons (snd_iconst dX2_put_176 rfl (inr_d rfl) rfl) ?_
  refine tok_cons (snd_istore dX2_put_177 rfl (by decide)) ?_
  refine tok_cons (snd_iload dX2_put_179 rfl) ?_
  refine tok_cons (snd_iconst dX2_put_181 rfl (inr_d rfl) rfl) ?_
  refine tok_cons (snd_icmp_ge dX2_put_182 (by decide) rfl) ?_
  refine tok_cons (snd_aload_n dX2_put_185 rfl rfl) ?_
  refine tok_cons (snd_gr (C := RX2) (T := TX2) (N := 7) dX2_put_186 rfl (by decide) rfl wf2_15 inX2 rfl) ?_
  refine tok_cons (snd_iload dX2_put_189 rfl) ?_
  refine tok_cons (snd_iload_n dX2_put_191 rfl rfl) ?_
  refine tok_cons (snd_if_eq dX2_put_192 (by decide) rfl) ?_
  refine tok_cons (snd_iload dX2_put_195 rfl) ?_
  refine tok_cons (snd_goto dX2_put_197 (by decide)) ?_
  refine tok_cons (snd_aload_n dX2_put_200 rfl rfl) ?_
  refine tok_cons (snd_gr (C := RX2) (T := TX2) (N := 7) dX2_put_201 rfl (by decide) rfl wf2_9 inX2 rfl) ?_
  refine tok_cons (snd_iload dX2_put_204 rfl) ?_
  refine tok_cons (snd_iald dX2_put_206 rfl) ?_
  refine tok_cons (snd_aload_n dX2_put_207 rfl rfl) ?_
  refine tok_cons (snd_gr (C := RX1) (T := TX1) (N := 5) dX2_put_208 rfl (by decide) rfl wf2_66 inX1 rfl) ?_
  refine tok_cons (snd_iconst dX2_put_211 rfl (inr_d rfl) rfl) ?_
  refine tok_cons (snd_iald dX2_put_212 rfl) ?_
  refine tok_cons (snd_add dX2_put_213 rfl) ?_
  refine tok_cons (snd_iast dX2_put_214 rfl) ?_
  refine tok_cons (snd_iinc dX2_put_215 rfl rfl (by decide)) ?_
  refine tok_cons (snd_goto dX2_put_218 (by decide)) ?_
  refine tok_cons (snd_ret dX2_put_221 rfl) ?_
  exact tok_nil
def tab_2_fits (X : XT) : Tab := [(0, false, a_const 0 1), (1, false, a_istore 4 3), (3, false, a_iload 4 5), (5, false, a_const 2 6), (6, false, a_icmp 3 43 9), (9, false, a_aload 0 10), (10, false, a_gr 2 0 13), (13, false, a_iload 4 15), (15, false, a_ald false 16), (16, false, a_aload 0 17), (17, false, a_iload 4 19), (19, false, a_iload 2 20), (20, false, a_aload 0 21), (21, false, a_iload 4 23), (23, false, a_iload 3 24), (24, false, a_cv X M_2_fits M_2_mostCarried 2 3 27), (27, false, a_cv X M_2_fits M_2_noteRows 2 4 30), (30, false, a_add 31), (31, false, a_iload 1 32), (32, false, a_icmp 5 37 35), (35, false, a_const 0 36), (36, false, a_zret M_2_fits), (37, false, a_iinc 4 1 40), (40, false, a_goto 3), (43, false, a_const 1 44), (44, false, a_zret M_2_fits)]
set_option maxRecDepth 20000 in
theorem t_2_fits (X : XT) : tget (tab_2_fits X) 0 = some (false, a_const 0 1) ∧ tget (tab_2_fits X) 1 = some (false, a_istore 4 3) ∧ tget (tab_2_fits X) 3 = some (false, a_iload 4 5) ∧ tget (tab_2_fits X) 5 = some (false, a_const 2 6) ∧ tget (tab_2_fits X) 6 = some (false, a_icmp 3 43 9) ∧ tget (tab_2_fits X) 9 = some (false, a_aload 0 10) ∧ tget (tab_2_fits X) 10 = some (false, a_gr 2 0 13) ∧ tget (tab_2_fits X) 13 = some (false, a_iload 4 15) ∧ tget (tab_2_fits X) 15 = some (false, a_ald false 16) ∧ tget (tab_2_fits X) 16 = some (false, a_aload 0 17) ∧ tget (tab_2_fits X) 17 = some (false, a_iload 4 19) ∧ tget (tab_2_fits X) 19 = some (false, a_iload 2 20) ∧ tget (tab_2_fits X) 20 = some (false, a_aload 0 21) ∧ tget (tab_2_fits X) 21 = some (false, a_iload 4 23) ∧ tget (tab_2_fits X) 23 = some (false, a_iload 3 24) ∧ tget (tab_2_fits X) 24 = some (false, a_cv X M_2_fits M_2_mostCarried 2 3 27) ∧ tget (tab_2_fits X) 27 = some (false, a_cv X M_2_fits M_2_noteRows 2 4 30) ∧ tget (tab_2_fits X) 30 = some (false, a_add 31) ∧ tget (tab_2_fits X) 31 = some (false, a_iload 1 32) ∧ tget (tab_2_fits X) 32 = some (false, a_icmp 5 37 35) ∧ tget (tab_2_fits X) 35 = some (false, a_const 0 36) ∧ tget (tab_2_fits X) 36 = some (false, a_zret M_2_fits) ∧ tget (tab_2_fits X) 37 = some (false, a_iinc 4 1 40) ∧ tget (tab_2_fits X) 40 = some (false, a_goto 3) ∧ tget (tab_2_fits X) 43 = some (false, a_const 1 44) ∧ tget (tab_2_fits X) 44 = some (false, a_zret M_2_fits) := ⟨rfl, rfl, rfl, rfl, rfl, rfl, rfl, rfl, rfl, rfl, rfl, rfl, rfl, rfl, rfl, rfl, rfl, rfl, rfl, rfl, rfl, rfl, rfl, rfl, rfl, rfl⟩
theorem tok_2_fits (X : XT) : TabOK X M_2_fits (tab_2_fits X) := by
  unfold tab_2_fits
  refine tok_cons (snd_iconst dX2_fits_0 rfl (inr_d rfl) rfl) ?_
  refine tok_cons (snd_istore dX2_fits_1 rfl (by decide)) ?_
  refine tok_cons (snd_iload dX2_fits_3 rfl) ?_
  refine tok_cons (snd_iconst dX2_fits_5 rfl (inr_d rfl) rfl) ?_
  refine tok_cons (snd_icmp_ge dX2_fits_6 (by decide) rfl) ?_
  refine tok_cons (snd_aload_n dX2_fits_9 rfl rfl) ?_
  refine tok_cons (snd_gr (C := RX2) (T := TX2) (N := 7) dX2_fits_10 rfl (by decide) rfl wf2_9 inX2 rfl) ?_
  refine tok_cons (snd_iload dX2_fits_13 rfl) ?_
  refine tok_cons (snd_iald dX2_fits_15 rfl) ?_
  refine tok_cons (snd_aload_n dX2_fits_16 rfl rfl) ?_
  refine tok_cons (snd_iload dX2_fits_17 rfl) ?_
  refine tok_cons (snd_iload_n dX2_fits_19 rfl rfl) ?_
  refine tok_cons (snd_aload_n dX2_fits_20 rfl rfl) ?_
  refine tok_cons (snd_iload dX2_fits_21 rfl) ?_
  refine tok_cons (snd_iload_n dX2_fits_23 rfl rfl) ?_
  refine tok_cons (snd_cv dX2_fits_24 mok_2_mostCarried ⟨wm2_78, wi_2_mostCarried, wl_2_mostCarried⟩ (rc := (RX2, TX2, 7)) rfl rfl pn_2_mostCarried (by decide) ⟨rfl, rfl⟩ rfl) ?_
  refine tok_cons (snd_cv dX2_fits_27 mok_2_noteRows ⟨wm2_81, wi_2_noteRows, wl_2_noteRows⟩ (rc := (RX2, TX2, 7)) rfl rfl pn_2_noteRows (by decide) ⟨rfl, rfl⟩ rfl) ?_
  refine tok_cons (snd_add dX2_fits_30 rfl) ?_
  refine tok_cons (snd_iload_n dX2_fits_31 rfl rfl) ?_
  refine tok_cons (snd_icmp_le dX2_fits_32 (by decide) rfl) ?_
  refine tok_cons (snd_iconst dX2_fits_35 rfl (inr_d rfl) rfl) ?_
  refine tok_cons (snd_zret dX2_fits_36 rfl) ?_
  refine tok_cons (snd_iinc dX2_fits_37 rfl rfl (by decide)) ?_
  refine tok_cons (snd_goto dX2_fits_40 (by decide)) ?_
  refine tok_cons (snd_iconst dX2_fits_43 rfl (inr_d rfl) rfl) ?_
  refine tok_cons (snd_zret dX2_fits_44 rfl) ?_
  exact tok_nil
def tab_2_carriedFrom (X : XT) : Tab := [(0, false, a_aload 0 1), (1, false, a_iload 1 2), (2, false, a_aload 2 3), (3, false, a_gr 1 4 6), (6, false, a_const 4 7), (7, false, a_ald false 8), (8, false, a_cv X M_2_carriedFrom M_2_mostCarried 2 3 11), (11, false, a_istore 4 13), (13, false, a_const 0 14), (14, false, a_istore 5 16), (16, true, a_iload 5 18), (18, false, a_iload 4 20), (20, false, a_icmp 3 53 23), (23, false, a_aload 0 24), (24, false, a_gr 2 0 27), (27, false, a_iload 1 28), (28, false, a_ald false 29), (29, false, a_aload 0 30), (30, false, a_iload 1 31), (31, false, a_aload 2 32), (32, false, a_gr 1 4 35), (35, false, a_const 2 36), (36, false, a_ald false 37), (37, false, a_iload 5 39), (39, false, a_cv X M_2_carriedFrom M_2_noteRows 2 4 42), (42, false, a_add 43), (43, false, a_iload 3 44), (44, false, a_icmp 5 53 47), (47, false, a_iinc 5 1 50), (50, false, a_goto 16), (53, false, a_iload 5 55), (55, false, a_iret M_2_carriedFrom)]
set_option maxRecDepth 20000 in
theorem t_2_carriedFrom (X : XT) : tget (tab_2_carriedFrom X) 0 = some (false, a_aload 0 1) ∧ tget (tab_2_carriedFrom X) 1 = some (false, a_iload 1 2) ∧ tget (tab_2_carriedFrom X) 2 = some (false, a_aload 2 3) ∧ tget (tab_2_carriedFrom X) 3 = some (false, a_gr 1 4 6) ∧ tget (tab_2_carriedFrom X) 6 = some (false, a_const 4 7) ∧ tget (tab_2_carriedFrom X) 7 = some (false, a_ald false 8) ∧ tget (tab_2_carriedFrom X) 8 = some (false, a_cv X M_2_carriedFrom M_2_mostCarried 2 3 11) ∧ tget (tab_2_carriedFrom X) 11 = some (false, a_istore 4 13) ∧ tget (tab_2_carriedFrom X) 13 = some (false, a_const 0 14) ∧ tget (tab_2_carriedFrom X) 14 = some (false, a_istore 5 16) ∧ tget (tab_2_carriedFrom X) 16 = some (true, a_iload 5 18) ∧ tget (tab_2_carriedFrom X) 18 = some (false, a_iload 4 20) ∧ tget (tab_2_carriedFrom X) 20 = some (false, a_icmp 3 53 23) ∧ tget (tab_2_carriedFrom X) 23 = some (false, a_aload 0 24) ∧ tget (tab_2_carriedFrom X) 24 = some (false, a_gr 2 0 27) ∧ tget (tab_2_carriedFrom X) 27 = some (false, a_iload 1 28) ∧ tget (tab_2_carriedFrom X) 28 = some (false, a_ald false 29) ∧ tget (tab_2_carriedFrom X) 29 = some (false, a_aload 0 30) ∧ tget (tab_2_carriedFrom X) 30 = some (false, a_iload 1 31) ∧ tget (tab_2_carriedFrom X) 31 = some (false, a_aload 2 32) ∧ tget (tab_2_carriedFrom X) 32 = some (false, a_gr 1 4 35) ∧ tget (tab_2_carriedFrom X) 35 = some (false, a_const 2 36) ∧ tget (tab_2_carriedFrom X) 36 = some (false, a_ald false 37) ∧ tget (tab_2_carriedFrom X) 37 = some (false, a_iload 5 39) ∧ tget (tab_2_carriedFrom X) 39 = some (false, a_cv X M_2_carriedFrom M_2_noteRows 2 4 42) ∧ tget (tab_2_carriedFrom X) 42 = some (false, a_add 43) ∧ tget (tab_2_carriedFrom X) 43 = some (false, a_iload 3 44) ∧ tget (tab_2_carriedFrom X) 44 = some (false, a_icmp 5 53 47) ∧ tget (tab_2_carriedFrom X) 47 = some (false, a_iinc 5 1 50) ∧ tget (tab_2_carriedFrom X) 50 = some (false, a_goto 16) ∧ tget (tab_2_carriedFrom X) 53 = some (false, a_iload 5 55) ∧ tget (tab_2_carriedFrom X) 55 = some (false, a_iret M_2_carriedFrom) := ⟨rfl, rfl, rfl, rfl, rfl, rfl, rfl, rfl, rfl, rfl, rfl, rfl, rfl, rfl, rfl, rfl, rfl, rfl, rfl, rfl, rfl, rfl, rfl, rfl, rfl, rfl, rfl, rfl, rfl, rfl, rfl, rfl⟩
theorem tok_2_carriedFrom (X : XT) : TabOK X M_2_carriedFrom (tab_2_carriedFrom X) := by
  unfold tab_2_carriedFrom
  refine tok_cons (snd_aload_n dX2_carriedFrom_0 rfl rfl) ?_
  refine tok_cons (snd_iload_n dX2_carriedFrom_1 rfl rfl) ?_
  refine tok_cons (snd_aload_n dX2_carriedFrom_2 rfl rfl) ?_
  refine tok_cons (snd_gr (C := RX1) (T := TX1) (N := 5) dX2_carriedFrom_3 rfl (by decide) rfl wf2_66 inX1 rfl) ?_
  refine tok_cons (snd_iconst dX2_carriedFrom_6 rfl (inr_d rfl) rfl) ?_
  refine tok_cons (snd_iald dX2_carriedFrom_7 rfl) ?_
  refine tok_cons (snd_cv dX2_carriedFrom_8 mok_2_mostCarried ⟨wm2_78, wi_2_mostCarried, wl_2_mostCarried⟩ (rc := (RX2, TX2, 7)) rfl rfl pn_2_mostCarried (by decide) ⟨rfl, rfl⟩ rfl) ?_
  refine tok_cons (snd_istore dX2_carriedFrom_11 rfl (by decide)) ?_
  refine tok_cons (snd_iconst dX2_carriedFrom_13 rfl (inr_d rfl) rfl) ?_
  refine tok_cons (snd_istore dX2_carriedFrom_14 rfl (by decide)) ?_
  refine tok_cons (snd_iload dX2_carriedFrom_16 rfl) ?_
  refine tok_cons (snd_iload dX2_carriedFrom_18 rfl) ?_
  refine tok_cons (snd_icmp_ge dX2_carriedFrom_20 (by decide) rfl) ?_
  refine tok_cons (snd_aload_n dX2_carriedFrom_23 rfl rfl) ?_
  refine tok_cons (snd_gr (C := RX2) (T := TX2) (N := 7) dX2_carriedFrom_24 rfl (by decide) rfl wf2_9 inX2 rfl) ?_
  refine tok_cons (snd_iload_n dX2_carriedFrom_27 rfl rfl) ?_
  refine tok_cons (snd_iald dX2_carriedFrom_28 rfl) ?_
  refine tok_cons (snd_aload_n dX2_carriedFrom_29 rfl rfl) ?_
  refine tok_cons (snd_iload_n dX2_carriedFrom_30 rfl rfl) ?_
  refine tok_cons (snd_aload_n dX2_carriedFrom_31 rfl rfl) ?_
  refine tok_cons (snd_gr (C := RX1) (T := TX1) (N := 5) dX2_carriedFrom_32 rfl (by decide) rfl wf2_66 inX1 rfl) ?_
  refine tok_cons (snd_iconst dX2_carriedFrom_35 rfl (inr_d rfl) rfl) ?_
  refine tok_cons (snd_iald dX2_carriedFrom_36 rfl) ?_
  refine tok_cons (snd_iload dX2_carriedFrom_37 rfl) ?_
  refine tok_cons (snd_cv dX2_carriedFrom_39 mok_2_noteRows ⟨wm2_81, wi_2_noteRows, wl_2_noteRows⟩ (rc := (RX2, TX2, 7)) rfl rfl pn_2_noteRows (by decide) ⟨rfl, rfl⟩ rfl) ?_
  refine tok_cons (snd_add dX2_carriedFrom_42 rfl) ?_
  refine tok_cons (snd_iload_n dX2_carriedFrom_43 rfl rfl) ?_
  refine tok_cons (snd_icmp_le dX2_carriedFrom_44 (by decide) rfl) ?_
  refine tok_cons (snd_iinc dX2_carriedFrom_47 rfl rfl (by decide)) ?_
  refine tok_cons (snd_goto dX2_carriedFrom_50 (by decide)) ?_
  refine tok_cons (snd_iload dX2_carriedFrom_53 rfl) ?_
  refine tok_cons (snd_iret dX2_carriedFrom_55 rfl) ?_
  exact tok_nil
def tab_4_before (X : XT) : Tab := [(0, false, a_aload 0 1), (1, false, a_const 0 2), (2, false, a_iload 1 3), (3, false, a_iload 2 4), (4, false, a_cv X M_4_before M_4_endBefore 4 4 7), (7, false, a_iret M_4_before)]
set_option maxRecDepth 20000 in
theorem t_4_before (X : XT) : tget (tab_4_before X) 0 = some (false, a_aload 0 1) ∧ tget (tab_4_before X) 1 = some (false, a_const 0 2) ∧ tget (tab_4_before X) 2 = some (false, a_iload 1 3) ∧ tget (tab_4_before X) 3 = some (false, a_iload 2 4) ∧ tget (tab_4_before X) 4 = some (false, a_cv X M_4_before M_4_endBefore 4 4 7) ∧ tget (tab_4_before X) 7 = some (false, a_iret M_4_before) := ⟨rfl, rfl, rfl, rfl, rfl, rfl⟩
theorem tok_4_before (X : XT) : TabOK X M_4_before (tab_4_before X) := by
  unfold tab_4_before
  refine tok_cons (snd_aload_n dX4_before_0 rfl rfl) ?_
  refine tok_cons (snd_iconst dX4_before_1 rfl (inr_d rfl) rfl) ?_
  refine tok_cons (snd_iload_n dX4_before_2 rfl rfl) ?_
  refine tok_cons (snd_iload_n dX4_before_3 rfl rfl) ?_
  refine tok_cons (snd_cv dX4_before_4 mok_4_endBefore ⟨wm4_16, wi_4_endBefore, wl_4_endBefore⟩ (rc := (RX4, TX4, 2)) rfl rfl pn_4_endBefore (by decide) ⟨rfl, rfl⟩ rfl) ?_
  refine tok_cons (snd_iret dX4_before_7 rfl) ?_
  exact tok_nil
def tab_4_copyFrom (X : XT) : Tab := [(0, false, a_aload 0 1), (1, false, a_aload 1 2), (2, false, a_gi 4 0 0 5), (5, false, a_pi 4 0 0 false 8), (8, false, a_aload 1 9), (9, false, a_gr 4 1 12), (12, false, a_aload 0 13), (13, false, a_gr 4 1 16), (16, false, a_sn X M_4_copyFrom M_7_copyTable 2 19), (19, false, a_ret M_4_copyFrom)]
set_option maxRecDepth 20000 in
theorem t_4_copyFrom (X : XT) : tget (tab_4_copyFrom X) 0 = some (false, a_aload 0 1) ∧ tget (tab_4_copyFrom X) 1 = some (false, a_aload 1 2) ∧ tget (tab_4_copyFrom X) 2 = some (false, a_gi 4 0 0 5) ∧ tget (tab_4_copyFrom X) 5 = some (false, a_pi 4 0 0 false 8) ∧ tget (tab_4_copyFrom X) 8 = some (false, a_aload 1 9) ∧ tget (tab_4_copyFrom X) 9 = some (false, a_gr 4 1 12) ∧ tget (tab_4_copyFrom X) 12 = some (false, a_aload 0 13) ∧ tget (tab_4_copyFrom X) 13 = some (false, a_gr 4 1 16) ∧ tget (tab_4_copyFrom X) 16 = some (false, a_sn X M_4_copyFrom M_7_copyTable 2 19) ∧ tget (tab_4_copyFrom X) 19 = some (false, a_ret M_4_copyFrom) := ⟨rfl, rfl, rfl, rfl, rfl, rfl, rfl, rfl, rfl, rfl⟩
theorem tok_4_copyFrom (X : XT) : TabOK X M_4_copyFrom (tab_4_copyFrom X) := by
  unfold tab_4_copyFrom
  refine tok_cons (snd_aload_n dX4_copyFrom_0 rfl rfl) ?_
  refine tok_cons (snd_aload_n dX4_copyFrom_1 rfl rfl) ?_
  refine tok_cons (snd_gi (C := RX4) (T := TX4) (N := 2) dX4_copyFrom_2 rfl (by decide) rfl wf4_20 inX4 rfl rfl) ?_
  refine tok_cons (snd_pi (C := RX4) (T := TX4) (N := 2) (ty0 := tyX4) dX4_copyFrom_5 rfl (by decide) rfl wf4_20 inX4 tyX4_ok nmX4 (by decide +kernel) rfl rfl) ?_
  refine tok_cons (snd_aload_n dX4_copyFrom_8 rfl rfl) ?_
  refine tok_cons (snd_gr (C := RX4) (T := TX4) (N := 2) dX4_copyFrom_9 rfl (by decide) rfl wf4_11 inX4 rfl) ?_
  refine tok_cons (snd_aload_n dX4_copyFrom_12 rfl rfl) ?_
  refine tok_cons (snd_gr (C := RX4) (T := TX4) (N := 2) dX4_copyFrom_13 rfl (by decide) rfl wf4_11 inX4 rfl) ?_
  refine tok_cons (snd_sn dX4_copyFrom_16 mok_7_copyTable ⟨ws_7_copyTable, Or.inr (List.mem_of_getElem? (i := 10) rfl)⟩ pn_7_copyTable (by decide) ⟨rfl, rfl⟩ rfl) ?_
  refine tok_cons (snd_ret dX4_copyFrom_19 rfl) ?_
  exact tok_nil
def tab_6_has (X : XT) : Tab := [(0, false, a_iload 1 1), (1, false, a_const 0 2), (2, false, a_aload 0 3), (3, false, a_gi 6 1 1 6), (6, false, a_const 1 7), (7, false, a_sub 8), (8, false, a_sv X M_6_has M_7_isIn 3 11), (11, false, a_zret M_6_has)]
set_option maxRecDepth 20000 in
theorem t_6_has (X : XT) : tget (tab_6_has X) 0 = some (false, a_iload 1 1) ∧ tget (tab_6_has X) 1 = some (false, a_const 0 2) ∧ tget (tab_6_has X) 2 = some (false, a_aload 0 3) ∧ tget (tab_6_has X) 3 = some (false, a_gi 6 1 1 6) ∧ tget (tab_6_has X) 6 = some (false, a_const 1 7) ∧ tget (tab_6_has X) 7 = some (false, a_sub 8) ∧ tget (tab_6_has X) 8 = some (false, a_sv X M_6_has M_7_isIn 3 11) ∧ tget (tab_6_has X) 11 = some (false, a_zret M_6_has) := ⟨rfl, rfl, rfl, rfl, rfl, rfl, rfl, rfl⟩
theorem tok_6_has (X : XT) : TabOK X M_6_has (tab_6_has X) := by
  unfold tab_6_has
  refine tok_cons (snd_iload_n dX6_has_0 rfl rfl) ?_
  refine tok_cons (snd_iconst dX6_has_1 rfl (inr_d rfl) rfl) ?_
  refine tok_cons (snd_aload_n dX6_has_2 rfl rfl) ?_
  refine tok_cons (snd_gi (C := RX6) (T := TX6) (N := 11) dX6_has_3 rfl (by decide) rfl wf6_50 inX6 rfl rfl) ?_
  refine tok_cons (snd_iconst dX6_has_6 rfl (inr_d rfl) rfl) ?_
  refine tok_cons (snd_sub dX6_has_7 rfl) ?_
  refine tok_cons (snd_sv dX6_has_8 mok_7_isIn ⟨ws_7_isIn, Or.inr (List.mem_of_getElem? (i := 16) rfl)⟩ pn_7_isIn (by decide) ⟨rfl, rfl⟩ rfl) ?_
  refine tok_cons (snd_zret dX6_has_11 rfl) ?_
  exact tok_nil
def tab_6_contains (X : XT) : Tab := [(0, false, a_iload 4 2), (2, false, a_aload 0 3), (3, false, a_gr 6 4 6), (6, false, a_gst 3 9), (9, false, a_iload 3 10), (10, false, a_sld 11), (11, false, a_aald 12), (12, false, a_iload 1 13), (13, false, a_ald false 14), (14, false, a_sub 15), (15, false, a_istore 5 17), (17, false, a_aload 0 18), (18, false, a_gr 6 4 21), (21, false, a_const 0 22), (22, false, a_aald 23), (23, false, a_iload 1 24), (24, false, a_ald false 25), (25, false, a_iload 2 26), (26, false, a_icmp 1 56 29), (29, false, a_iload 5 31), (31, false, a_const 0 32), (32, false, a_aload 0 33), (33, false, a_gr 6 4 36), (36, false, a_gst 4 39), (39, false, a_iload 3 40), (40, false, a_sld 41), (41, false, a_aald 42), (42, false, a_iload 1 43), (43, false, a_ald false 44), (44, false, a_const 1 45), (45, false, a_sub 46), (46, false, a_sv X M_6_contains M_7_isIn 3 49), (49, false, a_if 0 56 52), (52, false, a_const 1 53), (53, false, a_goto 57), (56, false, a_const 0 57), (57, false, a_zret M_6_contains)]
set_option maxRecDepth 20000 in
theorem t_6_contains (X : XT) : tget (tab_6_contains X) 0 = some (false, a_iload 4 2) ∧ tget (tab_6_contains X) 2 = some (false, a_aload 0 3) ∧ tget (tab_6_contains X) 3 = some (false, a_gr 6 4 6) ∧ tget (tab_6_contains X) 6 = some (false, a_gst 3 9) ∧ tget (tab_6_contains X) 9 = some (false, a_iload 3 10) ∧ tget (tab_6_contains X) 10 = some (false, a_sld 11) ∧ tget (tab_6_contains X) 11 = some (false, a_aald 12) ∧ tget (tab_6_contains X) 12 = some (false, a_iload 1 13) ∧ tget (tab_6_contains X) 13 = some (false, a_ald false 14) ∧ tget (tab_6_contains X) 14 = some (false, a_sub 15) ∧ tget (tab_6_contains X) 15 = some (false, a_istore 5 17) ∧ tget (tab_6_contains X) 17 = some (false, a_aload 0 18) ∧ tget (tab_6_contains X) 18 = some (false, a_gr 6 4 21) ∧ tget (tab_6_contains X) 21 = some (false, a_const 0 22) ∧ tget (tab_6_contains X) 22 = some (false, a_aald 23) ∧ tget (tab_6_contains X) 23 = some (false, a_iload 1 24) ∧ tget (tab_6_contains X) 24 = some (false, a_ald false 25) ∧ tget (tab_6_contains X) 25 = some (false, a_iload 2 26) ∧ tget (tab_6_contains X) 26 = some (false, a_icmp 1 56 29) ∧ tget (tab_6_contains X) 29 = some (false, a_iload 5 31) ∧ tget (tab_6_contains X) 31 = some (false, a_const 0 32) ∧ tget (tab_6_contains X) 32 = some (false, a_aload 0 33) ∧ tget (tab_6_contains X) 33 = some (false, a_gr 6 4 36) ∧ tget (tab_6_contains X) 36 = some (false, a_gst 4 39) ∧ tget (tab_6_contains X) 39 = some (false, a_iload 3 40) ∧ tget (tab_6_contains X) 40 = some (false, a_sld 41) ∧ tget (tab_6_contains X) 41 = some (false, a_aald 42) ∧ tget (tab_6_contains X) 42 = some (false, a_iload 1 43) ∧ tget (tab_6_contains X) 43 = some (false, a_ald false 44) ∧ tget (tab_6_contains X) 44 = some (false, a_const 1 45) ∧ tget (tab_6_contains X) 45 = some (false, a_sub 46) ∧ tget (tab_6_contains X) 46 = some (false, a_sv X M_6_contains M_7_isIn 3 49) ∧ tget (tab_6_contains X) 49 = some (false, a_if 0 56 52) ∧ tget (tab_6_contains X) 52 = some (false, a_const 1 53) ∧ tget (tab_6_contains X) 53 = some (false, a_goto 57) ∧ tget (tab_6_contains X) 56 = some (false, a_const 0 57) ∧ tget (tab_6_contains X) 57 = some (false, a_zret M_6_contains) := ⟨rfl, rfl, rfl, rfl, rfl, rfl, rfl, rfl, rfl, rfl, rfl, rfl, rfl, rfl, rfl, rfl, rfl, rfl, rfl, rfl, rfl, rfl, rfl, rfl, rfl, rfl, rfl, rfl, rfl, rfl, rfl, rfl, rfl, rfl, rfl, rfl, rfl⟩
theorem tok_6_contains (X : XT) : TabOK X M_6_contains (tab_6_contains X) := by
  unfold tab_6_contains
  refine tok_cons (snd_iload dX6_contains_0 rfl) ?_
  refine tok_cons (snd_aload_n dX6_contains_2 rfl rfl) ?_
  refine tok_cons (snd_gr (C := RX6) (T := TX6) (N := 11) dX6_contains_3 rfl (by decide) rfl wf6_24 inX6 rfl) ?_
  refine tok_cons (snd_gstN dX6_contains_6 (by decide) rfl (List.mem_of_getElem? (i := 1) rfl) rfl) ?_
  refine tok_cons (snd_iload_n dX6_contains_9 rfl rfl) ?_
  refine tok_cons (snd_sld dX6_contains_10 rfl) ?_
  refine tok_cons (snd_aald dX6_contains_11 rfl) ?_
  refine tok_cons (snd_iload_n dX6_contains_12 rfl rfl) ?_
  refine tok_cons (snd_iald dX6_contains_13 rfl) ?_
  refine tok_cons (snd_sub dX6_contains_14 rfl) ?_
  refine tok_cons (snd_istore dX6_contains_15 rfl (by decide)) ?_
  refine tok_cons (snd_aload_n dX6_contains_17 rfl rfl) ?_
  refine tok_cons (snd_gr (C := RX6) (T := TX6) (N := 11) dX6_contains_18 rfl (by decide) rfl wf6_24 inX6 rfl) ?_
  refine tok_cons (snd_iconst dX6_contains_21 rfl (inr_d rfl) rfl) ?_
  refine tok_cons (snd_aald dX6_contains_22 rfl) ?_
  refine tok_cons (snd_iload_n dX6_contains_23 rfl rfl) ?_
  refine tok_cons (snd_iald dX6_contains_24 rfl) ?_
  refine tok_cons (snd_iload_n dX6_contains_25 rfl rfl) ?_
  refine tok_cons (snd_icmp_ne dX6_contains_26 (by decide) rfl) ?_
  refine tok_cons (snd_iload dX6_contains_29 rfl) ?_
  refine tok_cons (snd_iconst dX6_contains_31 rfl (inr_d rfl) rfl) ?_
  refine tok_cons (snd_aload_n dX6_contains_32 rfl rfl) ?_
  refine tok_cons (snd_gr (C := RX6) (T := TX6) (N := 11) dX6_contains_33 rfl (by decide) rfl wf6_24 inX6 rfl) ?_
  refine tok_cons (snd_gstN dX6_contains_36 (by decide) rfl (List.mem_of_getElem? (i := 2) rfl) rfl) ?_
  refine tok_cons (snd_iload_n dX6_contains_39 rfl rfl) ?_
  refine tok_cons (snd_sld dX6_contains_40 rfl) ?_
  refine tok_cons (snd_aald dX6_contains_41 rfl) ?_
  refine tok_cons (snd_iload_n dX6_contains_42 rfl rfl) ?_
  refine tok_cons (snd_iald dX6_contains_43 rfl) ?_
  refine tok_cons (snd_iconst dX6_contains_44 rfl (inr_d rfl) rfl) ?_
  refine tok_cons (snd_sub dX6_contains_45 rfl) ?_
  refine tok_cons (snd_sv dX6_contains_46 mok_7_isIn ⟨ws_7_isIn, Or.inr (List.mem_of_getElem? (i := 16) rfl)⟩ pn_7_isIn (by decide) ⟨rfl, rfl⟩ rfl) ?_
  refine tok_cons (snd_if_eq dX6_contains_49 (by decide) rfl) ?_
  refine tok_cons (snd_iconst dX6_contains_52 rfl (inr_d rfl) rfl) ?_
  refine tok_cons (snd_goto dX6_contains_53 (by decide)) ?_
  refine tok_cons (snd_iconst dX6_contains_56 rfl (inr_d rfl) rfl) ?_
  refine tok_cons (snd_zret dX6_contains_57 rfl) ?_
  exact tok_nil
def tab_6_textAt (X : XT) : Tab := [(0, false, a_aload 0 1), (1, false, a_gr 6 2 4), (4, false, a_iload 1 5), (5, false, a_ald false 6), (6, false, a_istore 4 8), (8, true, a_iload 4 10), (10, false, a_aload 0 11), (11, false, a_gr 6 2 14), (14, false, a_iload 1 15), (15, false, a_const 1 16), (16, false, a_add 17), (17, false, a_ald false 18), (18, false, a_icmp 3 106 21), (21, false, a_iload 3 22), (22, false, a_aload 0 23), (23, false, a_gr 6 4 26), (26, false, a_gst 5 29), (29, false, a_iload 2 30), (30, false, a_sld 31), (31, false, a_aald 32), (32, false, a_iload 4 34), (34, false, a_ald false 35), (35, false, a_sub 36), (36, false, a_istore 5 38), (38, false, a_iload 5 40), (40, false, a_const 0 41), (41, false, a_aload 0 42), (42, false, a_gr 6 4 45), (45, false, a_gst 4 48), (48, false, a_iload 2 49), (49, false, a_sld 50), (50, false, a_aald 51), (51, false, a_iload 4 53), (53, false, a_ald false 54), (54, false, a_const 1 55), (55, false, a_sub 56), (56, false, a_sv X M_6_textAt M_7_isIn 3 59), (59, false, a_if 0 100 62), (62, false, a_aload 0 63), (63, false, a_gr 6 4 66), (66, false, a_gst 3 69), (69, false, a_iload 2 70), (70, false, a_sld 71), (71, false, a_aald 72), (72, false, a_iload 4 74), (74, false, a_ald false 75), (75, false, a_iload 5 77), (77, false, a_add 78), (78, false, a_istore 6 80), (80, false, a_const 10000 83), (83, false, a_const 100 85), (85, false, a_aload 0 86), (86, false, a_gr 6 4 89), (89, false, a_const 0 90), (90, false, a_aald 91), (91, false, a_iload 4 93), (93, false, a_ald false 94), (94, false, a_mul 95), (95, false, a_add 96), (96, false, a_iload 6 98), (98, false, a_add 99), (99, false, a_iret M_6_textAt), (100, false, a_iinc 4 1 103), (103, false, a_goto 8), (106, false, a_const 0 107), (107, false, a_iret M_6_textAt)]
set_option maxRecDepth 20000 in
theorem t_6_textAt (X : XT) : tget (tab_6_textAt X) 0 = some (false, a_aload 0 1) ∧ tget (tab_6_textAt X) 1 = some (false, a_gr 6 2 4) ∧ tget (tab_6_textAt X) 4 = some (false, a_iload 1 5) ∧ tget (tab_6_textAt X) 5 = some (false, a_ald false 6) ∧ tget (tab_6_textAt X) 6 = some (false, a_istore 4 8) ∧ tget (tab_6_textAt X) 8 = some (true, a_iload 4 10) ∧ tget (tab_6_textAt X) 10 = some (false, a_aload 0 11) ∧ tget (tab_6_textAt X) 11 = some (false, a_gr 6 2 14) ∧ tget (tab_6_textAt X) 14 = some (false, a_iload 1 15) ∧ tget (tab_6_textAt X) 15 = some (false, a_const 1 16) ∧ tget (tab_6_textAt X) 16 = some (false, a_add 17) ∧ tget (tab_6_textAt X) 17 = some (false, a_ald false 18) ∧ tget (tab_6_textAt X) 18 = some (false, a_icmp 3 106 21) ∧ tget (tab_6_textAt X) 21 = some (false, a_iload 3 22) ∧ tget (tab_6_textAt X) 22 = some (false, a_aload 0 23) ∧ tget (tab_6_textAt X) 23 = some (false, a_gr 6 4 26) ∧ tget (tab_6_textAt X) 26 = some (false, a_gst 5 29) ∧ tget (tab_6_textAt X) 29 = some (false, a_iload 2 30) ∧ tget (tab_6_textAt X) 30 = some (false, a_sld 31) ∧ tget (tab_6_textAt X) 31 = some (false, a_aald 32) ∧ tget (tab_6_textAt X) 32 = some (false, a_iload 4 34) ∧ tget (tab_6_textAt X) 34 = some (false, a_ald false 35) ∧ tget (tab_6_textAt X) 35 = some (false, a_sub 36) ∧ tget (tab_6_textAt X) 36 = some (false, a_istore 5 38) ∧ tget (tab_6_textAt X) 38 = some (false, a_iload 5 40) ∧ tget (tab_6_textAt X) 40 = some (false, a_const 0 41) ∧ tget (tab_6_textAt X) 41 = some (false, a_aload 0 42) ∧ tget (tab_6_textAt X) 42 = some (false, a_gr 6 4 45) ∧ tget (tab_6_textAt X) 45 = some (false, a_gst 4 48) ∧ tget (tab_6_textAt X) 48 = some (false, a_iload 2 49) ∧ tget (tab_6_textAt X) 49 = some (false, a_sld 50) ∧ tget (tab_6_textAt X) 50 = some (false, a_aald 51) ∧ tget (tab_6_textAt X) 51 = some (false, a_iload 4 53) ∧ tget (tab_6_textAt X) 53 = some (false, a_ald false 54) ∧ tget (tab_6_textAt X) 54 = some (false, a_const 1 55) ∧ tget (tab_6_textAt X) 55 = some (false, a_sub 56) ∧ tget (tab_6_textAt X) 56 = some (false, a_sv X M_6_textAt M_7_isIn 3 59) ∧ tget (tab_6_textAt X) 59 = some (false, a_if 0 100 62) ∧ tget (tab_6_textAt X) 62 = some (false, a_aload 0 63) ∧ tget (tab_6_textAt X) 63 = some (false, a_gr 6 4 66) ∧ tget (tab_6_textAt X) 66 = some (false, a_gst 3 69) ∧ tget (tab_6_textAt X) 69 = some (false, a_iload 2 70) ∧ tget (tab_6_textAt X) 70 = some (false, a_sld 71) ∧ tget (tab_6_textAt X) 71 = some (false, a_aald 72) ∧ tget (tab_6_textAt X) 72 = some (false, a_iload 4 74) ∧ tget (tab_6_textAt X) 74 = some (false, a_ald false 75) ∧ tget (tab_6_textAt X) 75 = some (false, a_iload 5 77) ∧ tget (tab_6_textAt X) 77 = some (false, a_add 78) ∧ tget (tab_6_textAt X) 78 = some (false, a_istore 6 80) ∧ tget (tab_6_textAt X) 80 = some (false, a_const 10000 83) ∧ tget (tab_6_textAt X) 83 = some (false, a_const 100 85) ∧ tget (tab_6_textAt X) 85 = some (false, a_aload 0 86) ∧ tget (tab_6_textAt X) 86 = some (false, a_gr 6 4 89) ∧ tget (tab_6_textAt X) 89 = some (false, a_const 0 90) ∧ tget (tab_6_textAt X) 90 = some (false, a_aald 91) ∧ tget (tab_6_textAt X) 91 = some (false, a_iload 4 93) ∧ tget (tab_6_textAt X) 93 = some (false, a_ald false 94) ∧ tget (tab_6_textAt X) 94 = some (false, a_mul 95) ∧ tget (tab_6_textAt X) 95 = some (false, a_add 96) ∧ tget (tab_6_textAt X) 96 = some (false, a_iload 6 98) ∧ tget (tab_6_textAt X) 98 = some (false, a_add 99) ∧ tget (tab_6_textAt X) 99 = some (false, a_iret M_6_textAt) ∧ tget (tab_6_textAt X) 100 = some (false, a_iinc 4 1 103) ∧ tget (tab_6_textAt X) 103 = some (false, a_goto 8) ∧ tget (tab_6_textAt X) 106 = some (false, a_const 0 107) ∧ tget (tab_6_textAt X) 107 = some (false, a_iret M_6_textAt) := ⟨rfl, rfl, rfl, rfl, rfl, rfl, rfl, rfl, rfl, rfl, rfl, rfl, rfl, rfl, rfl, rfl, rfl, rfl, rfl, rfl, rfl, rfl, rfl, rfl, rfl, rfl, rfl, rfl, rfl, rfl, rfl, rfl, rfl, rfl, rfl, rfl, rfl, rfl, rfl, rfl, rfl, rfl, rfl, rfl, rfl, rfl, rfl, rfl, rfl, rfl, rfl, rfl, rfl, rfl, rfl, rfl, rfl, rfl, rfl, rfl, rfl, rfl, rfl, rfl, rfl, rfl⟩
theorem tok_6_textAt (X : XT) : TabOK X M_6_textAt (tab_6_textAt X) := by
  unfold tab_6_textAt
  refine tok_cons (snd_aload_n dX6_textAt_0 rfl rfl) ?_
  refine tok_cons (snd_gr (C := RX6) (T := TX6) (N := 11) dX6_textAt_1 rfl (by decide) rfl wf6_15 inX6 rfl) ?_
  refine tok_cons (snd_iload_n dX6_textAt_4 rfl rfl) ?_
  refine tok_cons (snd_iald dX6_textAt_5 rfl) ?_
  refine tok_cons (snd_istore dX6_textAt_6 rfl (by decide)) ?_
  refine tok_cons (snd_iload dX6_textAt_8 rfl) ?_
  refine tok_cons (snd_aload_n dX6_textAt_10 rfl rfl) ?_
  refine tok_cons (snd_gr (C := RX6) (T := TX6) (N := 11) dX6_textAt_11 rfl (by decide) rfl wf6_15 inX6 rfl) ?_
  refine tok_cons (snd_iload_n dX6_textAt_14 rfl rfl) ?_
  refine tok_cons (snd_iconst dX6_textAt_15 rfl (inr_d rfl) rfl) ?_
  refine tok_cons (snd_add dX6_textAt_16 rfl) ?_
  refine tok_cons (snd_iald dX6_textAt_17 rfl) ?_
  refine tok_cons (snd_icmp_ge dX6_textAt_18 (by decide) rfl) ?_
  refine tok_cons (snd_iload_n dX6_textAt_21 rfl rfl) ?_
  refine tok_cons (snd_aload_n dX6_textAt_22 rfl rfl) ?_
  refine tok_cons (snd_gr (C := RX6) (T := TX6) (N := 11) dX6_textAt_23 rfl (by decide) rfl wf6_24 inX6 rfl) ?_
  refine tok_cons (snd_gstN dX6_textAt_26 (by decide) rfl (List.mem_of_getElem? (i := 3) rfl) rfl) ?_
  refine tok_cons (snd_iload_n dX6_textAt_29 rfl rfl) ?_
  refine tok_cons (snd_sld dX6_textAt_30 rfl) ?_
  refine tok_cons (snd_aald dX6_textAt_31 rfl) ?_
  refine tok_cons (snd_iload dX6_textAt_32 rfl) ?_
  refine tok_cons (snd_iald dX6_textAt_34 rfl) ?_
  refine tok_cons (snd_sub dX6_textAt_35 rfl) ?_
  refine tok_cons (snd_istore dX6_textAt_36 rfl (by decide)) ?_
  refine tok_cons (snd_iload dX6_textAt_38 rfl) ?_
  refine tok_cons (snd_iconst dX6_textAt_40 rfl (inr_d rfl) rfl) ?_
  refine tok_cons (snd_aload_n dX6_textAt_41 rfl rfl) ?_
  refine tok_cons (snd_gr (C := RX6) (T := TX6) (N := 11) dX6_textAt_42 rfl (by decide) rfl wf6_24 inX6 rfl) ?_
  refine tok_cons (snd_gstN dX6_textAt_45 (by decide) rfl (List.mem_of_getElem? (i := 2) rfl) rfl) ?_
  refine tok_cons (snd_iload_n dX6_textAt_48 rfl rfl) ?_
  refine tok_cons (snd_sld dX6_textAt_49 rfl) ?_
  refine tok_cons (snd_aald dX6_textAt_50 rfl) ?_
  refine tok_cons (snd_iload dX6_textAt_51 rfl) ?_
  refine tok_cons (snd_iald dX6_textAt_53 rfl) ?_
  refine tok_cons (snd_iconst dX6_textAt_54 rfl (inr_d rfl) rfl) ?_
  refine tok_cons (snd_sub dX6_textAt_55 rfl) ?_
  refine tok_cons (snd_sv dX6_textAt_56 mok_7_isIn ⟨ws_7_isIn, Or.inr (List.mem_of_getElem? (i := 16) rfl)⟩ pn_7_isIn (by decide) ⟨rfl, rfl⟩ rfl) ?_
  refine tok_cons (snd_if_eq dX6_textAt_59 (by decide) rfl) ?_
  refine tok_cons (snd_aload_n dX6_textAt_62 rfl rfl) ?_
  refine tok_cons (snd_gr (C := RX6) (T := TX6) (N := 11) dX6_textAt_63 rfl (by decide) rfl wf6_24 inX6 rfl) ?_
  refine tok_cons (snd_gstN dX6_textAt_66 (by decide) rfl (List.mem_of_getElem? (i := 1) rfl) rfl) ?_
  refine tok_cons (snd_iload_n dX6_textAt_69 rfl rfl) ?_
  refine tok_cons (snd_sld dX6_textAt_70 rfl) ?_
  refine tok_cons (snd_aald dX6_textAt_71 rfl) ?_
  refine tok_cons (snd_iload dX6_textAt_72 rfl) ?_
  refine tok_cons (snd_iald dX6_textAt_74 rfl) ?_
  refine tok_cons (snd_iload dX6_textAt_75 rfl) ?_
  refine tok_cons (snd_add dX6_textAt_77 rfl) ?_
  refine tok_cons (snd_istore dX6_textAt_78 rfl (by decide)) ?_
  refine tok_cons (snd_sipush dX6_textAt_80 (by decide) (inr_d rfl) rfl) ?_
  refine tok_cons (snd_bipush dX6_textAt_83 (by decide) (inr_d rfl) rfl) ?_
  refine tok_cons (snd_aload_n dX6_textAt_85 rfl rfl) ?_
  refine tok_cons (snd_gr (C := RX6) (T := TX6) (N := 11) dX6_textAt_86 rfl (by decide) rfl wf6_24 inX6 rfl) ?_
  refine tok_cons (snd_iconst dX6_textAt_89 rfl (inr_d rfl) rfl) ?_
  refine tok_cons (snd_aald dX6_textAt_90 rfl) ?_
  refine tok_cons (snd_iload dX6_textAt_91 rfl) ?_
  refine tok_cons (snd_iald dX6_textAt_93 rfl) ?_
  refine tok_cons (snd_mul dX6_textAt_94 rfl) ?_
  refine tok_cons (snd_add dX6_textAt_95 rfl) ?_
  refine tok_cons (snd_iload dX6_textAt_96 rfl) ?_
  refine tok_cons (snd_add dX6_textAt_98 rfl) ?_
  refine tok_cons (snd_iret dX6_textAt_99 rfl) ?_
  refine tok_cons (snd_iinc dX6_textAt_100 rfl rfl (by decide)) ?_
  refine tok_cons (snd_goto dX6_textAt_103 (by decide)) ?_
  refine tok_cons (snd_iconst dX6_textAt_106 rfl (inr_d rfl) rfl) ?_
  refine tok_cons (snd_iret dX6_textAt_107 rfl) ?_
  exact tok_nil
def tab_6_noteAt (X : XT) : Tab := [(0, false, a_const 2 1), (1, false, a_iload 2 2), (2, false, a_mul 3), (3, false, a_iload 3 4), (4, false, a_add 5), (5, false, a_istore 5 7), (7, false, a_aload 0 8), (8, false, a_gr 6 5 11), (11, false, a_const 1 12), (12, false, a_aald 13), (13, false, a_iload 5 15), (15, false, a_ald false 16), (16, false, a_istore 6 18), (18, false, a_aload 0 19), (19, false, a_gi 6 0 0 22), (22, false, a_iload 6 24), (24, false, a_sub 25), (25, false, a_aload 0 26), (26, false, a_gr 6 5 29), (29, false, a_const 0 30), (30, false, a_aald 31), (31, false, a_iload 5 33), (33, false, a_ald false 34), (34, false, a_max M_6_noteAt 37), (37, false, a_istore 7 39), (39, false, a_iload 4 41), (41, false, a_iload 7 43), (43, false, a_iload 7 45), (45, false, a_iload 6 47), (47, false, a_add 48), (48, false, a_const 1 49), (49, false, a_sub 50), (50, false, a_sv X M_6_noteAt M_7_isIn 3 53), (53, false, a_if 1 58 56), (56, false, a_const 0 57), (57, false, a_iret M_6_noteAt), (58, false, a_iload 4 60), (60, false, a_iload 7 62), (62, false, a_sub 63), (63, false, a_aload 1 64), (64, false, a_gr 1 4 67), (67, false, a_const 2 68), (68, false, a_ald false 69), (69, false, a_sub 70), (70, false, a_istore 8 72), (72, false, a_iload 8 74), (74, false, a_if 3 83 77), (77, false, a_const 30000 80), (80, false, a_goto 96), (83, false, a_aload 0 84), (84, false, a_aload 1 85), (85, false, a_iload 3 86), (86, false, a_cv X M_6_noteAt M_1_notes 1 2 89), (89, false, a_iload 5 91), (91, false, a_iload 8 93), (93, false, a_cv X M_6_noteAt M_6_noteLine 6 4 96), (96, false, a_iret M_6_noteAt)]
set_option maxRecDepth 20000 in
theorem t_6_noteAt (X : XT) : tget (tab_6_noteAt X) 0 = some (false, a_const 2 1) ∧ tget (tab_6_noteAt X) 1 = some (false, a_iload 2 2) ∧ tget (tab_6_noteAt X) 2 = some (false, a_mul 3) ∧ tget (tab_6_noteAt X) 3 = some (false, a_iload 3 4) ∧ tget (tab_6_noteAt X) 4 = some (false, a_add 5) ∧ tget (tab_6_noteAt X) 5 = some (false, a_istore 5 7) ∧ tget (tab_6_noteAt X) 7 = some (false, a_aload 0 8) ∧ tget (tab_6_noteAt X) 8 = some (false, a_gr 6 5 11) ∧ tget (tab_6_noteAt X) 11 = some (false, a_const 1 12) ∧ tget (tab_6_noteAt X) 12 = some (false, a_aald 13) ∧ tget (tab_6_noteAt X) 13 = some (false, a_iload 5 15) ∧ tget (tab_6_noteAt X) 15 = some (false, a_ald false 16) ∧ tget (tab_6_noteAt X) 16 = some (false, a_istore 6 18) ∧ tget (tab_6_noteAt X) 18 = some (false, a_aload 0 19) ∧ tget (tab_6_noteAt X) 19 = some (false, a_gi 6 0 0 22) ∧ tget (tab_6_noteAt X) 22 = some (false, a_iload 6 24) ∧ tget (tab_6_noteAt X) 24 = some (false, a_sub 25) ∧ tget (tab_6_noteAt X) 25 = some (false, a_aload 0 26) ∧ tget (tab_6_noteAt X) 26 = some (false, a_gr 6 5 29) ∧ tget (tab_6_noteAt X) 29 = some (false, a_const 0 30) ∧ tget (tab_6_noteAt X) 30 = some (false, a_aald 31) ∧ tget (tab_6_noteAt X) 31 = some (false, a_iload 5 33) ∧ tget (tab_6_noteAt X) 33 = some (false, a_ald false 34) ∧ tget (tab_6_noteAt X) 34 = some (false, a_max M_6_noteAt 37) ∧ tget (tab_6_noteAt X) 37 = some (false, a_istore 7 39) ∧ tget (tab_6_noteAt X) 39 = some (false, a_iload 4 41) ∧ tget (tab_6_noteAt X) 41 = some (false, a_iload 7 43) ∧ tget (tab_6_noteAt X) 43 = some (false, a_iload 7 45) ∧ tget (tab_6_noteAt X) 45 = some (false, a_iload 6 47) ∧ tget (tab_6_noteAt X) 47 = some (false, a_add 48) ∧ tget (tab_6_noteAt X) 48 = some (false, a_const 1 49) ∧ tget (tab_6_noteAt X) 49 = some (false, a_sub 50) ∧ tget (tab_6_noteAt X) 50 = some (false, a_sv X M_6_noteAt M_7_isIn 3 53) ∧ tget (tab_6_noteAt X) 53 = some (false, a_if 1 58 56) ∧ tget (tab_6_noteAt X) 56 = some (false, a_const 0 57) ∧ tget (tab_6_noteAt X) 57 = some (false, a_iret M_6_noteAt) ∧ tget (tab_6_noteAt X) 58 = some (false, a_iload 4 60) ∧ tget (tab_6_noteAt X) 60 = some (false, a_iload 7 62) ∧ tget (tab_6_noteAt X) 62 = some (false, a_sub 63) ∧ tget (tab_6_noteAt X) 63 = some (false, a_aload 1 64) ∧ tget (tab_6_noteAt X) 64 = some (false, a_gr 1 4 67) ∧ tget (tab_6_noteAt X) 67 = some (false, a_const 2 68) ∧ tget (tab_6_noteAt X) 68 = some (false, a_ald false 69) ∧ tget (tab_6_noteAt X) 69 = some (false, a_sub 70) ∧ tget (tab_6_noteAt X) 70 = some (false, a_istore 8 72) ∧ tget (tab_6_noteAt X) 72 = some (false, a_iload 8 74) ∧ tget (tab_6_noteAt X) 74 = some (false, a_if 3 83 77) ∧ tget (tab_6_noteAt X) 77 = some (false, a_const 30000 80) ∧ tget (tab_6_noteAt X) 80 = some (false, a_goto 96) ∧ tget (tab_6_noteAt X) 83 = some (false, a_aload 0 84) ∧ tget (tab_6_noteAt X) 84 = some (false, a_aload 1 85) ∧ tget (tab_6_noteAt X) 85 = some (false, a_iload 3 86) ∧ tget (tab_6_noteAt X) 86 = some (false, a_cv X M_6_noteAt M_1_notes 1 2 89) ∧ tget (tab_6_noteAt X) 89 = some (false, a_iload 5 91) ∧ tget (tab_6_noteAt X) 91 = some (false, a_iload 8 93) ∧ tget (tab_6_noteAt X) 93 = some (false, a_cv X M_6_noteAt M_6_noteLine 6 4 96) ∧ tget (tab_6_noteAt X) 96 = some (false, a_iret M_6_noteAt) := ⟨rfl, rfl, rfl, rfl, rfl, rfl, rfl, rfl, rfl, rfl, rfl, rfl, rfl, rfl, rfl, rfl, rfl, rfl, rfl, rfl, rfl, rfl, rfl, rfl, rfl, rfl, rfl, rfl, rfl, rfl, rfl, rfl, rfl, rfl, rfl, rfl, rfl, rfl, rfl, rfl, rfl, rfl, rfl, rfl, rfl, rfl, rfl, rfl, rfl, rfl, rfl, rfl, rfl, rfl, rfl, rfl, rfl⟩
theorem tok_6_noteAt (X : XT) : TabOK X M_6_noteAt (tab_6_noteAt X) := by
  unfold tab_6_noteAt
  refine tok_cons (snd_iconst dX6_noteAt_0 rfl (inr_d rfl) rfl) ?_
  refine tok_cons (snd_iload_n dX6_noteAt_1 rfl rfl) ?_
  refine tok_cons (snd_mul dX6_noteAt_2 rfl) ?_
  refine tok_cons (snd_iload_n dX6_noteAt_3 rfl rfl) ?_
  refine tok_cons (snd_add dX6_noteAt_4 rfl) ?_
  refine tok_cons (snd_istore dX6_noteAt_5 rfl (by decide)) ?_
  refine tok_cons (snd_aload_n dX6_noteAt_7 rfl rfl) ?_
  refine tok_cons (snd_gr (C := RX6) (T := TX6) (N := 11) dX6_noteAt_8 rfl (by decide) rfl wf6_27 inX6 rfl) ?_
  refine tok_cons (snd_iconst dX6_noteAt_11 rfl (inr_d rfl) rfl) ?_
  refine tok_cons (snd_aald dX6_noteAt_12 rfl) ?_
  refine tok_cons (snd_iload dX6_noteAt_13 rfl) ?_
  refine tok_cons (snd_iald dX6_noteAt_15 rfl) ?_
  refine tok_cons (snd_istore dX6_noteAt_16 rfl (by decide)) ?_
  refine tok_cons (snd_aload_n dX6_noteAt_18 rfl rfl) ?_
  refine tok_cons (snd_gi (C := RX6) (T := TX6) (N := 11) dX6_noteAt_19 rfl (by decide) rfl wf6_11 inX6 rfl rfl) ?_
  refine tok_cons (snd_iload dX6_noteAt_22 rfl) ?_
  refine tok_cons (snd_sub dX6_noteAt_24 rfl) ?_
  refine tok_cons (snd_aload_n dX6_noteAt_25 rfl rfl) ?_
  refine tok_cons (snd_gr (C := RX6) (T := TX6) (N := 11) dX6_noteAt_26 rfl (by decide) rfl wf6_27 inX6 rfl) ?_
  refine tok_cons (snd_iconst dX6_noteAt_29 rfl (inr_d rfl) rfl) ?_
  refine tok_cons (snd_aald dX6_noteAt_30 rfl) ?_
  refine tok_cons (snd_iload dX6_noteAt_31 rfl) ?_
  refine tok_cons (snd_iald dX6_noteAt_33 rfl) ?_
  refine tok_cons (snd_max dX6_noteAt_34 wm6_165 ws_max wn_Math wc_max (by decide) rfl) ?_
  refine tok_cons (snd_istore dX6_noteAt_37 rfl (by decide)) ?_
  refine tok_cons (snd_iload dX6_noteAt_39 rfl) ?_
  refine tok_cons (snd_iload dX6_noteAt_41 rfl) ?_
  refine tok_cons (snd_iload dX6_noteAt_43 rfl) ?_
  refine tok_cons (snd_iload dX6_noteAt_45 rfl) ?_
  refine tok_cons (snd_add dX6_noteAt_47 rfl) ?_
  refine tok_cons (snd_iconst dX6_noteAt_48 rfl (inr_d rfl) rfl) ?_
  refine tok_cons (snd_sub dX6_noteAt_49 rfl) ?_
  refine tok_cons (snd_sv dX6_noteAt_50 mok_7_isIn ⟨ws_7_isIn, Or.inr (List.mem_of_getElem? (i := 16) rfl)⟩ pn_7_isIn (by decide) ⟨rfl, rfl⟩ rfl) ?_
  refine tok_cons (snd_if_ne dX6_noteAt_53 (by decide) rfl) ?_
  refine tok_cons (snd_iconst dX6_noteAt_56 rfl (inr_d rfl) rfl) ?_
  refine tok_cons (snd_iret dX6_noteAt_57 rfl) ?_
  refine tok_cons (snd_iload dX6_noteAt_58 rfl) ?_
  refine tok_cons (snd_iload dX6_noteAt_60 rfl) ?_
  refine tok_cons (snd_sub dX6_noteAt_62 rfl) ?_
  refine tok_cons (snd_aload_n dX6_noteAt_63 rfl rfl) ?_
  refine tok_cons (snd_gr (C := RX1) (T := TX1) (N := 5) dX6_noteAt_64 rfl (by decide) rfl wf6_120 inX1 rfl) ?_
  refine tok_cons (snd_iconst dX6_noteAt_67 rfl (inr_d rfl) rfl) ?_
  refine tok_cons (snd_iald dX6_noteAt_68 rfl) ?_
  refine tok_cons (snd_sub dX6_noteAt_69 rfl) ?_
  refine tok_cons (snd_istore dX6_noteAt_70 rfl (by decide)) ?_
  refine tok_cons (snd_iload dX6_noteAt_72 rfl) ?_
  refine tok_cons (snd_if_ge dX6_noteAt_74 (by decide) rfl) ?_
  refine tok_cons (snd_sipush dX6_noteAt_77 (by decide) (inr_d rfl) rfl) ?_
  refine tok_cons (snd_goto dX6_noteAt_80 (by decide)) ?_
  refine tok_cons (snd_aload_n dX6_noteAt_83 rfl rfl) ?_
  refine tok_cons (snd_aload_n dX6_noteAt_84 rfl rfl) ?_
  refine tok_cons (snd_iload_n dX6_noteAt_85 rfl rfl) ?_
  refine tok_cons (snd_cv dX6_noteAt_86 mok_1_notes ⟨wm6_181, wi_1_notes, wl_1_notes⟩ (rc := (RX1, TX1, 5)) rfl rfl pn_1_notes (by decide) ⟨rfl, rfl⟩ rfl) ?_
  refine tok_cons (snd_iload dX6_noteAt_89 rfl) ?_
  refine tok_cons (snd_iload dX6_noteAt_91 rfl) ?_
  refine tok_cons (snd_cv dX6_noteAt_93 mok_6_noteLine ⟨wm6_184, wi_6_noteLine, wl_6_noteLine⟩ (rc := (RX6, TX6, 11)) rfl rfl pn_6_noteLine (by decide) ⟨rfl, rfl⟩ rfl) ?_
  refine tok_cons (snd_iret dX6_noteAt_96 rfl) ?_
  exact tok_nil
def tab_7_isSide (X : XT) : Tab := [(0, false, a_iload 0 1), (1, false, a_const 0 2), (2, false, a_const 1 3), (3, false, a_sv X M_7_isSide M_7_isIn 3 6), (6, false, a_zret M_7_isSide)]
set_option maxRecDepth 20000 in
theorem t_7_isSide (X : XT) : tget (tab_7_isSide X) 0 = some (false, a_iload 0 1) ∧ tget (tab_7_isSide X) 1 = some (false, a_const 0 2) ∧ tget (tab_7_isSide X) 2 = some (false, a_const 1 3) ∧ tget (tab_7_isSide X) 3 = some (false, a_sv X M_7_isSide M_7_isIn 3 6) ∧ tget (tab_7_isSide X) 6 = some (false, a_zret M_7_isSide) := ⟨rfl, rfl, rfl, rfl, rfl⟩
theorem tok_7_isSide (X : XT) : TabOK X M_7_isSide (tab_7_isSide X) := by
  unfold tab_7_isSide
  refine tok_cons (snd_iload_n dX7_isSide_0 rfl rfl) ?_
  refine tok_cons (snd_iconst dX7_isSide_1 rfl (inr_d rfl) rfl) ?_
  refine tok_cons (snd_iconst dX7_isSide_2 rfl (inr_d rfl) rfl) ?_
  refine tok_cons (snd_sv dX7_isSide_3 mok_7_isIn ⟨ws_7_isIn, Or.inl ⟨wm7_41, rfl⟩⟩ pn_7_isIn (by decide) ⟨rfl, rfl⟩ rfl) ?_
  refine tok_cons (snd_zret dX7_isSide_6 rfl) ?_
  exact tok_nil
def tab_7_openPlace (X : XT) : Tab := [(0, false, a_iload 1 1), (1, false, a_const 0 2), (2, false, a_iload 2 3), (3, false, a_sv X M_7_openPlace M_7_isIn 3 6), (6, false, a_if 0 27 9), (9, false, a_iload 2 10), (10, false, a_aload 0 11), (11, false, a_len 12), (12, false, a_icmp 3 27 15), (15, false, a_aload 0 16), (16, false, a_iload 1 17), (17, false, a_aload 0 18), (18, false, a_iload 1 19), (19, false, a_const 1 20), (20, false, a_add 21), (21, false, a_iload 2 22), (22, false, a_iload 1 23), (23, false, a_sub 24), (24, false, a_copy 27), (27, false, a_ret M_7_openPlace)]
set_option maxRecDepth 20000 in
theorem t_7_openPlace (X : XT) : tget (tab_7_openPlace X) 0 = some (false, a_iload 1 1) ∧ tget (tab_7_openPlace X) 1 = some (false, a_const 0 2) ∧ tget (tab_7_openPlace X) 2 = some (false, a_iload 2 3) ∧ tget (tab_7_openPlace X) 3 = some (false, a_sv X M_7_openPlace M_7_isIn 3 6) ∧ tget (tab_7_openPlace X) 6 = some (false, a_if 0 27 9) ∧ tget (tab_7_openPlace X) 9 = some (false, a_iload 2 10) ∧ tget (tab_7_openPlace X) 10 = some (false, a_aload 0 11) ∧ tget (tab_7_openPlace X) 11 = some (false, a_len 12) ∧ tget (tab_7_openPlace X) 12 = some (false, a_icmp 3 27 15) ∧ tget (tab_7_openPlace X) 15 = some (false, a_aload 0 16) ∧ tget (tab_7_openPlace X) 16 = some (false, a_iload 1 17) ∧ tget (tab_7_openPlace X) 17 = some (false, a_aload 0 18) ∧ tget (tab_7_openPlace X) 18 = some (false, a_iload 1 19) ∧ tget (tab_7_openPlace X) 19 = some (false, a_const 1 20) ∧ tget (tab_7_openPlace X) 20 = some (false, a_add 21) ∧ tget (tab_7_openPlace X) 21 = some (false, a_iload 2 22) ∧ tget (tab_7_openPlace X) 22 = some (false, a_iload 1 23) ∧ tget (tab_7_openPlace X) 23 = some (false, a_sub 24) ∧ tget (tab_7_openPlace X) 24 = some (false, a_copy 27) ∧ tget (tab_7_openPlace X) 27 = some (false, a_ret M_7_openPlace) := ⟨rfl, rfl, rfl, rfl, rfl, rfl, rfl, rfl, rfl, rfl, rfl, rfl, rfl, rfl, rfl, rfl, rfl, rfl, rfl, rfl⟩
theorem tok_7_openPlace (X : XT) : TabOK X M_7_openPlace (tab_7_openPlace X) := by
  unfold tab_7_openPlace
  refine tok_cons (snd_iload_n dX7_openPlace_0 rfl rfl) ?_
  refine tok_cons (snd_iconst dX7_openPlace_1 rfl (inr_d rfl) rfl) ?_
  refine tok_cons (snd_iload_n dX7_openPlace_2 rfl rfl) ?_
  refine tok_cons (snd_sv dX7_openPlace_3 mok_7_isIn ⟨ws_7_isIn, Or.inl ⟨wm7_41, rfl⟩⟩ pn_7_isIn (by decide) ⟨rfl, rfl⟩ rfl) ?_
  refine tok_cons (snd_if_eq dX7_openPlace_6 (by decide) rfl) ?_
  refine tok_cons (snd_iload_n dX7_openPlace_9 rfl rfl) ?_
  refine tok_cons (snd_aload_n dX7_openPlace_10 rfl rfl) ?_
  refine tok_cons (snd_len dX7_openPlace_11 rfl) ?_
  refine tok_cons (snd_icmp_ge dX7_openPlace_12 (by decide) rfl) ?_
  refine tok_cons (snd_aload_n dX7_openPlace_15 rfl rfl) ?_
  refine tok_cons (snd_iload_n dX7_openPlace_16 rfl rfl) ?_
  refine tok_cons (snd_aload_n dX7_openPlace_17 rfl rfl) ?_
  refine tok_cons (snd_iload_n dX7_openPlace_18 rfl rfl) ?_
  refine tok_cons (snd_iconst dX7_openPlace_19 rfl (inr_d rfl) rfl) ?_
  refine tok_cons (snd_add dX7_openPlace_20 rfl) ?_
  refine tok_cons (snd_iload_n dX7_openPlace_21 rfl rfl) ?_
  refine tok_cons (snd_iload_n dX7_openPlace_22 rfl rfl) ?_
  refine tok_cons (snd_sub dX7_openPlace_23 rfl) ?_
  refine tok_cons (snd_copy dX7_openPlace_24 wm7_195 wnat ws_acopy wn_Sys (by decide) rfl) ?_
  refine tok_cons (snd_ret dX7_openPlace_27 rfl) ?_
  exact tok_nil
def tab_7_closePlace (X : XT) : Tab := [(0, false, a_iload 1 1), (1, false, a_const 0 2), (2, false, a_iload 2 3), (3, false, a_const 1 4), (4, false, a_sub 5), (5, false, a_sv X M_7_closePlace M_7_isIn 3 8), (8, false, a_if 0 31 11), (11, false, a_iload 2 12), (12, false, a_aload 0 13), (13, false, a_len 14), (14, false, a_icmp 4 31 17), (17, false, a_aload 0 18), (18, false, a_iload 1 19), (19, false, a_const 1 20), (20, false, a_add 21), (21, false, a_aload 0 22), (22, false, a_iload 1 23), (23, false, a_iload 2 24), (24, false, a_iload 1 25), (25, false, a_sub 26), (26, false, a_const 1 27), (27, false, a_sub 28), (28, false, a_copy 31), (31, false, a_ret M_7_closePlace)]
set_option maxRecDepth 20000 in
theorem t_7_closePlace (X : XT) : tget (tab_7_closePlace X) 0 = some (false, a_iload 1 1) ∧ tget (tab_7_closePlace X) 1 = some (false, a_const 0 2) ∧ tget (tab_7_closePlace X) 2 = some (false, a_iload 2 3) ∧ tget (tab_7_closePlace X) 3 = some (false, a_const 1 4) ∧ tget (tab_7_closePlace X) 4 = some (false, a_sub 5) ∧ tget (tab_7_closePlace X) 5 = some (false, a_sv X M_7_closePlace M_7_isIn 3 8) ∧ tget (tab_7_closePlace X) 8 = some (false, a_if 0 31 11) ∧ tget (tab_7_closePlace X) 11 = some (false, a_iload 2 12) ∧ tget (tab_7_closePlace X) 12 = some (false, a_aload 0 13) ∧ tget (tab_7_closePlace X) 13 = some (false, a_len 14) ∧ tget (tab_7_closePlace X) 14 = some (false, a_icmp 4 31 17) ∧ tget (tab_7_closePlace X) 17 = some (false, a_aload 0 18) ∧ tget (tab_7_closePlace X) 18 = some (false, a_iload 1 19) ∧ tget (tab_7_closePlace X) 19 = some (false, a_const 1 20) ∧ tget (tab_7_closePlace X) 20 = some (false, a_add 21) ∧ tget (tab_7_closePlace X) 21 = some (false, a_aload 0 22) ∧ tget (tab_7_closePlace X) 22 = some (false, a_iload 1 23) ∧ tget (tab_7_closePlace X) 23 = some (false, a_iload 2 24) ∧ tget (tab_7_closePlace X) 24 = some (false, a_iload 1 25) ∧ tget (tab_7_closePlace X) 25 = some (false, a_sub 26) ∧ tget (tab_7_closePlace X) 26 = some (false, a_const 1 27) ∧ tget (tab_7_closePlace X) 27 = some (false, a_sub 28) ∧ tget (tab_7_closePlace X) 28 = some (false, a_copy 31) ∧ tget (tab_7_closePlace X) 31 = some (false, a_ret M_7_closePlace) := ⟨rfl, rfl, rfl, rfl, rfl, rfl, rfl, rfl, rfl, rfl, rfl, rfl, rfl, rfl, rfl, rfl, rfl, rfl, rfl, rfl, rfl, rfl, rfl, rfl⟩
theorem tok_7_closePlace (X : XT) : TabOK X M_7_closePlace (tab_7_closePlace X) := by
  unfold tab_7_closePlace
  refine tok_cons (snd_iload_n dX7_closePlace_0 rfl rfl) ?_
  refine tok_cons (snd_iconst dX7_closePlace_1 rfl (inr_d rfl) rfl) ?_
  refine tok_cons (snd_iload_n dX7_closePlace_2 rfl rfl) ?_
  refine tok_cons (snd_iconst dX7_closePlace_3 rfl (inr_d rfl) rfl) ?_
  refine tok_cons (snd_sub dX7_closePlace_4 rfl) ?_
  refine tok_cons (snd_sv dX7_closePlace_5 mok_7_isIn ⟨ws_7_isIn, Or.inl ⟨wm7_41, rfl⟩⟩ pn_7_isIn (by decide) ⟨rfl, rfl⟩ rfl) ?_
  refine tok_cons (snd_if_eq dX7_closePlace_8 (by decide) rfl) ?_
  refine tok_cons (snd_iload_n dX7_closePlace_11 rfl rfl) ?_
  refine tok_cons (snd_aload_n dX7_closePlace_12 rfl rfl) ?_
  refine tok_cons (snd_len dX7_closePlace_13 rfl) ?_
  refine tok_cons (snd_icmp_gt dX7_closePlace_14 (by decide) rfl) ?_
  refine tok_cons (snd_aload_n dX7_closePlace_17 rfl rfl) ?_
  refine tok_cons (snd_iload_n dX7_closePlace_18 rfl rfl) ?_
  refine tok_cons (snd_iconst dX7_closePlace_19 rfl (inr_d rfl) rfl) ?_
  refine tok_cons (snd_add dX7_closePlace_20 rfl) ?_
  refine tok_cons (snd_aload_n dX7_closePlace_21 rfl rfl) ?_
  refine tok_cons (snd_iload_n dX7_closePlace_22 rfl rfl) ?_
  refine tok_cons (snd_iload_n dX7_closePlace_23 rfl rfl) ?_
  refine tok_cons (snd_iload_n dX7_closePlace_24 rfl rfl) ?_
  refine tok_cons (snd_sub dX7_closePlace_25 rfl) ?_
  refine tok_cons (snd_iconst dX7_closePlace_26 rfl (inr_d rfl) rfl) ?_
  refine tok_cons (snd_sub dX7_closePlace_27 rfl) ?_
  refine tok_cons (snd_copy dX7_closePlace_28 wm7_195 wnat ws_acopy wn_Sys (by decide) rfl) ?_
  refine tok_cons (snd_ret dX7_closePlace_31 rfl) ?_
  exact tok_nil
def tab_0_considerGroup (X : XT) : Tab := [(0, false, a_aload 0 1), (1, false, a_gr 0 3 4), (4, false, a_iload 3 5), (5, false, a_ald false 6), (6, false, a_const (-1) 7), (7, false, a_icmp 1 11 10), (10, false, a_ret M_0_considerGroup), (11, false, a_aload 0 12), (12, false, a_gr 0 3 15), (15, false, a_iload 3 16), (16, false, a_ald false 17), (17, false, a_iload 3 18), (18, false, a_aload 1 19), (19, false, a_gi 1 0 0 22), (22, false, a_icmp 3 33 25), (25, false, a_aload 0 26), (26, false, a_aload 1 27), (27, false, a_cv X M_0_considerGroup M_0_blankSquares 0 2 30), (30, false, a_goto 34), (33, false, a_const 0 34), (34, false, a_add 35), (35, false, a_istore 4 37), (37, false, a_aload 0 38), (38, false, a_gr 0 3 41), (41, false, a_iload 2 42), (42, false, a_ald false 43), (43, false, a_const (-1) 44), (44, false, a_icmp 0 58 47), (47, false, a_iload 4 49), (49, false, a_aload 0 50), (50, false, a_gr 0 3 53), (53, false, a_iload 2 54), (54, false, a_ald false 55), (55, false, a_icmp 4 75 58), (58, false, a_aload 0 59), (59, false, a_gr 0 3 62), (62, false, a_iload 2 63), (63, false, a_iload 4 65), (65, false, a_ast false 66), (66, false, a_aload 0 67), (67, false, a_gr 0 4 70), (70, false, a_iload 2 71), (71, false, a_iload 3 72), (72, false, a_iload 2 73), (73, false, a_sub 74), (74, false, a_ast false 75), (75, false, a_ret M_0_considerGroup)]
set_option maxRecDepth 20000 in
theorem t_0_considerGroup (X : XT) : tget (tab_0_considerGroup X) 0 = some (false, a_aload 0 1) ∧ tget (tab_0_considerGroup X) 1 = some (false, a_gr 0 3 4) ∧ tget (tab_0_considerGroup X) 4 = some (false, a_iload 3 5) ∧ tget (tab_0_considerGroup X) 5 = some (false, a_ald false 6) ∧ tget (tab_0_considerGroup X) 6 = some (false, a_const (-1) 7) ∧ tget (tab_0_considerGroup X) 7 = some (false, a_icmp 1 11 10) ∧ tget (tab_0_considerGroup X) 10 = some (false, a_ret M_0_considerGroup) ∧ tget (tab_0_considerGroup X) 11 = some (false, a_aload 0 12) ∧ tget (tab_0_considerGroup X) 12 = some (false, a_gr 0 3 15) ∧ tget (tab_0_considerGroup X) 15 = some (false, a_iload 3 16) ∧ tget (tab_0_considerGroup X) 16 = some (false, a_ald false 17) ∧ tget (tab_0_considerGroup X) 17 = some (false, a_iload 3 18) ∧ tget (tab_0_considerGroup X) 18 = some (false, a_aload 1 19) ∧ tget (tab_0_considerGroup X) 19 = some (false, a_gi 1 0 0 22) ∧ tget (tab_0_considerGroup X) 22 = some (false, a_icmp 3 33 25) ∧ tget (tab_0_considerGroup X) 25 = some (false, a_aload 0 26) ∧ tget (tab_0_considerGroup X) 26 = some (false, a_aload 1 27) ∧ tget (tab_0_considerGroup X) 27 = some (false, a_cv X M_0_considerGroup M_0_blankSquares 0 2 30) ∧ tget (tab_0_considerGroup X) 30 = some (false, a_goto 34) ∧ tget (tab_0_considerGroup X) 33 = some (false, a_const 0 34) ∧ tget (tab_0_considerGroup X) 34 = some (false, a_add 35) ∧ tget (tab_0_considerGroup X) 35 = some (false, a_istore 4 37) ∧ tget (tab_0_considerGroup X) 37 = some (false, a_aload 0 38) ∧ tget (tab_0_considerGroup X) 38 = some (false, a_gr 0 3 41) ∧ tget (tab_0_considerGroup X) 41 = some (false, a_iload 2 42) ∧ tget (tab_0_considerGroup X) 42 = some (false, a_ald false 43) ∧ tget (tab_0_considerGroup X) 43 = some (false, a_const (-1) 44) ∧ tget (tab_0_considerGroup X) 44 = some (false, a_icmp 0 58 47) ∧ tget (tab_0_considerGroup X) 47 = some (false, a_iload 4 49) ∧ tget (tab_0_considerGroup X) 49 = some (false, a_aload 0 50) ∧ tget (tab_0_considerGroup X) 50 = some (false, a_gr 0 3 53) ∧ tget (tab_0_considerGroup X) 53 = some (false, a_iload 2 54) ∧ tget (tab_0_considerGroup X) 54 = some (false, a_ald false 55) ∧ tget (tab_0_considerGroup X) 55 = some (false, a_icmp 4 75 58) ∧ tget (tab_0_considerGroup X) 58 = some (false, a_aload 0 59) ∧ tget (tab_0_considerGroup X) 59 = some (false, a_gr 0 3 62) ∧ tget (tab_0_considerGroup X) 62 = some (false, a_iload 2 63) ∧ tget (tab_0_considerGroup X) 63 = some (false, a_iload 4 65) ∧ tget (tab_0_considerGroup X) 65 = some (false, a_ast false 66) ∧ tget (tab_0_considerGroup X) 66 = some (false, a_aload 0 67) ∧ tget (tab_0_considerGroup X) 67 = some (false, a_gr 0 4 70) ∧ tget (tab_0_considerGroup X) 70 = some (false, a_iload 2 71) ∧ tget (tab_0_considerGroup X) 71 = some (false, a_iload 3 72) ∧ tget (tab_0_considerGroup X) 72 = some (false, a_iload 2 73) ∧ tget (tab_0_considerGroup X) 73 = some (false, a_sub 74) ∧ tget (tab_0_considerGroup X) 74 = some (false, a_ast false 75) ∧ tget (tab_0_considerGroup X) 75 = some (false, a_ret M_0_considerGroup) := ⟨rfl, rfl, rfl, rfl, rfl, rfl, rfl, rfl, rfl, rfl, rfl, rfl, rfl, rfl, rfl, rfl, rfl, rfl, rfl, rfl, rfl, rfl, rfl, rfl, rfl, rfl, rfl, rfl, rfl, rfl, rfl, rfl, rfl, rfl, rfl, rfl, rfl, rfl, rfl, rfl, rfl, rfl, rfl, rfl, rfl, rfl, rfl⟩
theorem tok_0_considerGroup (X : XT) : TabOK X M_0_considerGroup (tab_0_considerGroup X) := by
  unfold tab_0_considerGroup
  refine tok_cons (snd_aload_n dX0_considerGroup_0 rfl rfl) ?_
  refine tok_cons (snd_gr (C := RX0) (T := TX0) (N := 7) dX0_considerGroup_1 rfl (by decide) rfl wf0_15 inX0 rfl) ?_
  refine tok_cons (snd_iload_n dX0_considerGroup_4 rfl rfl) ?_
  refine tok_cons (snd_iald dX0_considerGroup_5 rfl) ?_
  refine tok_cons (snd_iconst dX0_considerGroup_6 rfl (inr_d rfl) rfl) ?_
  refine tok_cons (snd_icmp_ne dX0_considerGroup_7 (by decide) rfl) ?_
  refine tok_cons (snd_ret dX0_considerGroup_10 rfl) ?_
  refine tok_cons (snd_aload_n dX0_considerGroup_11 rfl rfl) ?_
  refine tok_cons (snd_gr (C := RX0) (T := TX0) (N := 7) dX0_considerGroup_12 rfl (by decide) rfl wf0_15 inX0 rfl) ?_
  refine tok_cons (snd_iload_n dX0_considerGroup_15 rfl rfl) ?_
  refine tok_cons (snd_iald dX0_considerGroup_16 rfl) ?_
  refine tok_cons (snd_iload_n dX0_considerGroup_17 rfl rfl) ?_
  refine tok_cons (snd_aload_n dX0_considerGroup_18 rfl rfl) ?_
  refine tok_cons (snd_gi (C := RX1) (T := TX1) (N := 5) dX0_considerGroup_19 rfl (by decide) rfl wf0_39 inX1 rfl rfl) ?_
  refine tok_cons (snd_icmp_ge dX0_considerGroup_22 (by decide) rfl) ?_
  refine tok_cons (snd_aload_n dX0_considerGroup_25 rfl rfl) ?_
  refine tok_cons (snd_aload_n dX0_considerGroup_26 rfl rfl) ?_
  refine tok_cons (snd_cv dX0_considerGroup_27 mok_0_blankSquares ⟨wm0_95, wi_0_blankSquares, wl_0_blankSquares⟩ (rc := (RX0, TX0, 7)) rfl rfl pn_0_blankSquares (by decide) ⟨rfl, rfl⟩ rfl) ?_
  refine tok_cons (snd_goto dX0_considerGroup_30 (by decide)) ?_
  refine tok_cons (snd_iconst dX0_considerGroup_33 rfl (inr_d rfl) rfl) ?_
  refine tok_cons (snd_add dX0_considerGroup_34 rfl) ?_
  refine tok_cons (snd_istore dX0_considerGroup_35 rfl (by decide)) ?_
  refine tok_cons (snd_aload_n dX0_considerGroup_37 rfl rfl) ?_
  refine tok_cons (snd_gr (C := RX0) (T := TX0) (N := 7) dX0_considerGroup_38 rfl (by decide) rfl wf0_15 inX0 rfl) ?_
  refine tok_cons (snd_iload_n dX0_considerGroup_41 rfl rfl) ?_
  refine tok_cons (snd_iald dX0_considerGroup_42 rfl) ?_
  refine tok_cons (snd_iconst dX0_considerGroup_43 rfl (inr_d rfl) rfl) ?_
  refine tok_cons (snd_icmp_eq dX0_considerGroup_44 (by decide) rfl) ?_
  refine tok_cons (snd_iload dX0_considerGroup_47 rfl) ?_
  refine tok_cons (snd_aload_n dX0_considerGroup_49 rfl rfl) ?_
  refine tok_cons (snd_gr (C := RX0) (T := TX0) (N := 7) dX0_considerGroup_50 rfl (by decide) rfl wf0_15 inX0 rfl) ?_
  refine tok_cons (snd_iload_n dX0_considerGroup_53 rfl rfl) ?_
  refine tok_cons (snd_iald dX0_considerGroup_54 rfl) ?_
  refine tok_cons (snd_icmp_gt dX0_considerGroup_55 (by decide) rfl) ?_
  refine tok_cons (snd_aload_n dX0_considerGroup_58 rfl rfl) ?_
  refine tok_cons (snd_gr (C := RX0) (T := TX0) (N := 7) dX0_considerGroup_59 rfl (by decide) rfl wf0_15 inX0 rfl) ?_
  refine tok_cons (snd_iload_n dX0_considerGroup_62 rfl rfl) ?_
  refine tok_cons (snd_iload dX0_considerGroup_63 rfl) ?_
  refine tok_cons (snd_iast dX0_considerGroup_65 rfl) ?_
  refine tok_cons (snd_aload_n dX0_considerGroup_66 rfl rfl) ?_
  refine tok_cons (snd_gr (C := RX0) (T := TX0) (N := 7) dX0_considerGroup_67 rfl (by decide) rfl wf0_18 inX0 rfl) ?_
  refine tok_cons (snd_iload_n dX0_considerGroup_70 rfl rfl) ?_
  refine tok_cons (snd_iload_n dX0_considerGroup_71 rfl rfl) ?_
  refine tok_cons (snd_iload_n dX0_considerGroup_72 rfl rfl) ?_
  refine tok_cons (snd_sub dX0_considerGroup_73 rfl) ?_
  refine tok_cons (snd_iast dX0_considerGroup_74 rfl) ?_
  refine tok_cons (snd_ret dX0_considerGroup_75 rfl) ?_
  exact tok_nil
def tab_1_hasLine (X : XT) : Tab := [(0, false, a_aload 0 1), (1, false, a_iload 1 2), (2, false, a_cv X M_1_hasLine M_1_hasPair 1 2 5), (5, false, a_if 0 37 8), (8, false, a_iload 2 9), (9, false, a_sv X M_1_hasLine M_7_isSide 1 12), (12, false, a_if 0 37 15), (15, false, a_iload 3 16), (16, false, a_const 0 17), (17, false, a_aload 0 18), (18, false, a_gr 1 1 21), (21, false, a_iload 2 22), (22, false, a_aald 23), (23, false, a_iload 1 24), (24, false, a_ald false 25), (25, false, a_const 1 26), (26, false, a_sub 27), (27, false, a_sv X M_1_hasLine M_7_isIn 3 30), (30, false, a_if 0 37 33), (33, false, a_const 1 34), (34, false, a_goto 38), (37, false, a_const 0 38), (38, false, a_zret M_1_hasLine)]
set_option maxRecDepth 20000 in
theorem t_1_hasLine (X : XT) : tget (tab_1_hasLine X) 0 = some (false, a_aload 0 1) ∧ tget (tab_1_hasLine X) 1 = some (false, a_iload 1 2) ∧ tget (tab_1_hasLine X) 2 = some (false, a_cv X M_1_hasLine M_1_hasPair 1 2 5) ∧ tget (tab_1_hasLine X) 5 = some (false, a_if 0 37 8) ∧ tget (tab_1_hasLine X) 8 = some (false, a_iload 2 9) ∧ tget (tab_1_hasLine X) 9 = some (false, a_sv X M_1_hasLine M_7_isSide 1 12) ∧ tget (tab_1_hasLine X) 12 = some (false, a_if 0 37 15) ∧ tget (tab_1_hasLine X) 15 = some (false, a_iload 3 16) ∧ tget (tab_1_hasLine X) 16 = some (false, a_const 0 17) ∧ tget (tab_1_hasLine X) 17 = some (false, a_aload 0 18) ∧ tget (tab_1_hasLine X) 18 = some (false, a_gr 1 1 21) ∧ tget (tab_1_hasLine X) 21 = some (false, a_iload 2 22) ∧ tget (tab_1_hasLine X) 22 = some (false, a_aald 23) ∧ tget (tab_1_hasLine X) 23 = some (false, a_iload 1 24) ∧ tget (tab_1_hasLine X) 24 = some (false, a_ald false 25) ∧ tget (tab_1_hasLine X) 25 = some (false, a_const 1 26) ∧ tget (tab_1_hasLine X) 26 = some (false, a_sub 27) ∧ tget (tab_1_hasLine X) 27 = some (false, a_sv X M_1_hasLine M_7_isIn 3 30) ∧ tget (tab_1_hasLine X) 30 = some (false, a_if 0 37 33) ∧ tget (tab_1_hasLine X) 33 = some (false, a_const 1 34) ∧ tget (tab_1_hasLine X) 34 = some (false, a_goto 38) ∧ tget (tab_1_hasLine X) 37 = some (false, a_const 0 38) ∧ tget (tab_1_hasLine X) 38 = some (false, a_zret M_1_hasLine) := ⟨rfl, rfl, rfl, rfl, rfl, rfl, rfl, rfl, rfl, rfl, rfl, rfl, rfl, rfl, rfl, rfl, rfl, rfl, rfl, rfl, rfl, rfl, rfl⟩
theorem tok_1_hasLine (X : XT) : TabOK X M_1_hasLine (tab_1_hasLine X) := by
  unfold tab_1_hasLine
  refine tok_cons (snd_aload_n dX1_hasLine_0 rfl rfl) ?_
  refine tok_cons (snd_iload_n dX1_hasLine_1 rfl rfl) ?_
  refine tok_cons (snd_cv dX1_hasLine_2 mok_1_hasPair ⟨wm1_46, wi_1_hasPair, wl_1_hasPair⟩ (rc := (RX1, TX1, 5)) rfl rfl pn_1_hasPair (by decide) ⟨rfl, rfl⟩ rfl) ?_
  refine tok_cons (snd_if_eq dX1_hasLine_5 (by decide) rfl) ?_
  refine tok_cons (snd_iload_n dX1_hasLine_8 rfl rfl) ?_
  refine tok_cons (snd_sv dX1_hasLine_9 mok_7_isSide ⟨ws_7_isSide, Or.inr (List.mem_of_getElem? (i := 13) rfl)⟩ pn_7_isSide (by decide) ⟨rfl, rfl⟩ rfl) ?_
  refine tok_cons (snd_if_eq dX1_hasLine_12 (by decide) rfl) ?_
  refine tok_cons (snd_iload_n dX1_hasLine_15 rfl rfl) ?_
  refine tok_cons (snd_iconst dX1_hasLine_16 rfl (inr_d rfl) rfl) ?_
  refine tok_cons (snd_aload_n dX1_hasLine_17 rfl rfl) ?_
  refine tok_cons (snd_gr (C := RX1) (T := TX1) (N := 5) dX1_hasLine_18 rfl (by decide) rfl wf1_11 inX1 rfl) ?_
  refine tok_cons (snd_iload_n dX1_hasLine_21 rfl rfl) ?_
  refine tok_cons (snd_aald dX1_hasLine_22 rfl) ?_
  refine tok_cons (snd_iload_n dX1_hasLine_23 rfl rfl) ?_
  refine tok_cons (snd_iald dX1_hasLine_24 rfl) ?_
  refine tok_cons (snd_iconst dX1_hasLine_25 rfl (inr_d rfl) rfl) ?_
  refine tok_cons (snd_sub dX1_hasLine_26 rfl) ?_
  refine tok_cons (snd_sv dX1_hasLine_27 mok_7_isIn ⟨ws_7_isIn, Or.inr (List.mem_of_getElem? (i := 11) rfl)⟩ pn_7_isIn (by decide) ⟨rfl, rfl⟩ rfl) ?_
  refine tok_cons (snd_if_eq dX1_hasLine_30 (by decide) rfl) ?_
  refine tok_cons (snd_iconst dX1_hasLine_33 rfl (inr_d rfl) rfl) ?_
  refine tok_cons (snd_goto dX1_hasLine_34 (by decide)) ?_
  refine tok_cons (snd_iconst dX1_hasLine_37 rfl (inr_d rfl) rfl) ?_
  refine tok_cons (snd_zret dX1_hasLine_38 rfl) ?_
  exact tok_nil
def tab_1_copyFrom (X : XT) : Tab := [(0, false, a_aload 0 1), (1, false, a_aload 1 2), (2, false, a_gi 1 0 0 5), (5, false, a_pi 1 0 0 false 8), (8, false, a_aload 1 9), (9, false, a_gr 1 1 12), (12, false, a_aload 0 13), (13, false, a_gr 1 1 16), (16, false, a_sn X M_1_copyFrom M_7_copyTable 2 19), (19, false, a_aload 0 20), (20, false, a_gr 1 2 23), (23, false, a_aload 1 24), (24, false, a_gr 1 2 27), (27, false, a_cn X M_1_copyFrom M_4_copyFrom 4 2 30), (30, false, a_aload 0 31), (31, false, a_gr 1 3 34), (34, false, a_aload 1 35), (35, false, a_gr 1 3 38), (38, false, a_cn X M_1_copyFrom M_4_copyFrom 4 2 41), (41, false, a_aload 1 42), (42, false, a_gr 1 4 45), (45, false, a_const 0 46), (46, false, a_aload 0 47), (47, false, a_gr 1 4 50), (50, false, a_const 0 51), (51, false, a_const 6 53), (53, false, a_copy 56), (56, false, a_ret M_1_copyFrom)]
set_option maxRecDepth 20000 in
theorem t_1_copyFrom (X : XT) : tget (tab_1_copyFrom X) 0 = some (false, a_aload 0 1) ∧ tget (tab_1_copyFrom X) 1 = some (false, a_aload 1 2) ∧ tget (tab_1_copyFrom X) 2 = some (false, a_gi 1 0 0 5) ∧ tget (tab_1_copyFrom X) 5 = some (false, a_pi 1 0 0 false 8) ∧ tget (tab_1_copyFrom X) 8 = some (false, a_aload 1 9) ∧ tget (tab_1_copyFrom X) 9 = some (false, a_gr 1 1 12) ∧ tget (tab_1_copyFrom X) 12 = some (false, a_aload 0 13) ∧ tget (tab_1_copyFrom X) 13 = some (false, a_gr 1 1 16) ∧ tget (tab_1_copyFrom X) 16 = some (false, a_sn X M_1_copyFrom M_7_copyTable 2 19) ∧ tget (tab_1_copyFrom X) 19 = some (false, a_aload 0 20) ∧ tget (tab_1_copyFrom X) 20 = some (false, a_gr 1 2 23) ∧ tget (tab_1_copyFrom X) 23 = some (false, a_aload 1 24) ∧ tget (tab_1_copyFrom X) 24 = some (false, a_gr 1 2 27) ∧ tget (tab_1_copyFrom X) 27 = some (false, a_cn X M_1_copyFrom M_4_copyFrom 4 2 30) ∧ tget (tab_1_copyFrom X) 30 = some (false, a_aload 0 31) ∧ tget (tab_1_copyFrom X) 31 = some (false, a_gr 1 3 34) ∧ tget (tab_1_copyFrom X) 34 = some (false, a_aload 1 35) ∧ tget (tab_1_copyFrom X) 35 = some (false, a_gr 1 3 38) ∧ tget (tab_1_copyFrom X) 38 = some (false, a_cn X M_1_copyFrom M_4_copyFrom 4 2 41) ∧ tget (tab_1_copyFrom X) 41 = some (false, a_aload 1 42) ∧ tget (tab_1_copyFrom X) 42 = some (false, a_gr 1 4 45) ∧ tget (tab_1_copyFrom X) 45 = some (false, a_const 0 46) ∧ tget (tab_1_copyFrom X) 46 = some (false, a_aload 0 47) ∧ tget (tab_1_copyFrom X) 47 = some (false, a_gr 1 4 50) ∧ tget (tab_1_copyFrom X) 50 = some (false, a_const 0 51) ∧ tget (tab_1_copyFrom X) 51 = some (false, a_const 6 53) ∧ tget (tab_1_copyFrom X) 53 = some (false, a_copy 56) ∧ tget (tab_1_copyFrom X) 56 = some (false, a_ret M_1_copyFrom) := ⟨rfl, rfl, rfl, rfl, rfl, rfl, rfl, rfl, rfl, rfl, rfl, rfl, rfl, rfl, rfl, rfl, rfl, rfl, rfl, rfl, rfl, rfl, rfl, rfl, rfl, rfl, rfl, rfl⟩
theorem tok_1_copyFrom (X : XT) : TabOK X M_1_copyFrom (tab_1_copyFrom X) := by
  unfold tab_1_copyFrom
  refine tok_cons (snd_aload_n dX1_copyFrom_0 rfl rfl) ?_
  refine tok_cons (snd_aload_n dX1_copyFrom_1 rfl rfl) ?_
  refine tok_cons (snd_gi (C := RX1) (T := TX1) (N := 5) dX1_copyFrom_2 rfl (by decide) rfl wf1_38 inX1 rfl rfl) ?_
  refine tok_cons (snd_pi (C := RX1) (T := TX1) (N := 5) (ty0 := tyX1) dX1_copyFrom_5 rfl (by decide) rfl wf1_38 inX1 tyX1_ok nmX1 (by decide +kernel) rfl rfl) ?_
  refine tok_cons (snd_aload_n dX1_copyFrom_8 rfl rfl) ?_
  refine tok_cons (snd_gr (C := RX1) (T := TX1) (N := 5) dX1_copyFrom_9 rfl (by decide) rfl wf1_11 inX1 rfl) ?_
  refine tok_cons (snd_aload_n dX1_copyFrom_12 rfl rfl) ?_
  refine tok_cons (snd_gr (C := RX1) (T := TX1) (N := 5) dX1_copyFrom_13 rfl (by decide) rfl wf1_11 inX1 rfl) ?_
  refine tok_cons (snd_sn dX1_copyFrom_16 mok_7_copyTable ⟨ws_7_copyTable, Or.inr (List.mem_of_getElem? (i := 9) rfl)⟩ pn_7_copyTable (by decide) ⟨rfl, rfl⟩ rfl) ?_
  refine tok_cons (snd_aload_n dX1_copyFrom_19 rfl rfl) ?_
  refine tok_cons (snd_gr (C := RX1) (T := TX1) (N := 5) dX1_copyFrom_20 rfl (by decide) rfl wf1_19 inX1 rfl) ?_
  refine tok_cons (snd_aload_n dX1_copyFrom_23 rfl rfl) ?_
  refine tok_cons (snd_gr (C := RX1) (T := TX1) (N := 5) dX1_copyFrom_24 rfl (by decide) rfl wf1_19 inX1 rfl) ?_
  refine tok_cons (snd_cn dX1_copyFrom_27 mok_4_copyFrom ⟨wm1_72, wi_4_copyFrom, wl_4_copyFrom⟩ (rc := (RX4, TX4, 2)) rfl rfl pn_4_copyFrom (by decide) ⟨rfl, rfl⟩ rfl) ?_
  refine tok_cons (snd_aload_n dX1_copyFrom_30 rfl rfl) ?_
  refine tok_cons (snd_gr (C := RX1) (T := TX1) (N := 5) dX1_copyFrom_31 rfl (by decide) rfl wf1_23 inX1 rfl) ?_
  refine tok_cons (snd_aload_n dX1_copyFrom_34 rfl rfl) ?_
  refine tok_cons (snd_gr (C := RX1) (T := TX1) (N := 5) dX1_copyFrom_35 rfl (by decide) rfl wf1_23 inX1 rfl) ?_
  refine tok_cons (snd_cn dX1_copyFrom_38 mok_4_copyFrom ⟨wm1_72, wi_4_copyFrom, wl_4_copyFrom⟩ (rc := (RX4, TX4, 2)) rfl rfl pn_4_copyFrom (by decide) ⟨rfl, rfl⟩ rfl) ?_
  refine tok_cons (snd_aload_n dX1_copyFrom_41 rfl rfl) ?_
  refine tok_cons (snd_gr (C := RX1) (T := TX1) (N := 5) dX1_copyFrom_42 rfl (by decide) rfl wf1_35 inX1 rfl) ?_
  refine tok_cons (snd_iconst dX1_copyFrom_45 rfl (inr_d rfl) rfl) ?_
  refine tok_cons (snd_aload_n dX1_copyFrom_46 rfl rfl) ?_
  refine tok_cons (snd_gr (C := RX1) (T := TX1) (N := 5) dX1_copyFrom_47 rfl (by decide) rfl wf1_35 inX1 rfl) ?_
  refine tok_cons (snd_iconst dX1_copyFrom_50 rfl (inr_d rfl) rfl) ?_
  refine tok_cons (snd_bipush dX1_copyFrom_51 (by decide) (inr_d rfl) rfl) ?_
  refine tok_cons (snd_copy dX1_copyFrom_53 wm1_76 wnat ws_acopy wn_Sys (by decide) rfl) ?_
  refine tok_cons (snd_ret dX1_copyFrom_56 rfl) ?_
  exact tok_nil
def tab_4_place (X : XT) : Tab := [(0, false, a_aload 0 1), (1, false, a_iload 1 2), (2, false, a_iload 2 3), (3, false, a_const 1 4), (4, false, a_add 5), (5, false, a_cv X M_4_place M_4_before 4 3 8), (8, false, a_istore 4 10), (10, false, a_aload 0 11), (11, false, a_gi 4 0 0 14), (14, false, a_const 40 16), (16, false, a_icmp 2 22 19), (19, false, a_iload 4 21), (21, false, a_iret M_4_place), (22, false, a_const 0 23), (23, false, a_istore 5 25), (25, false, a_iload 5 27), (27, false, a_const 3 28), (28, false, a_icmp 3 53 31), (31, false, a_aload 0 32), (32, false, a_gr 4 1 35), (35, false, a_iload 5 37), (37, false, a_aald 38), (38, false, a_iload 4 40), (40, false, a_aload 0 41), (41, false, a_gi 4 0 0 44), (44, false, a_sn X M_4_place M_7_openPlace 3 47), (47, false, a_iinc 5 1 50), (50, false, a_goto 25), (53, false, a_aload 0 54), (54, false, a_gr 4 1 57), (57, false, a_const 0 58), (58, false, a_aald 59), (59, false, a_iload 4 61), (61, false, a_iload 1 62), (62, false, a_ast false 63), (63, false, a_aload 0 64), (64, false, a_gr 4 1 67), (67, false, a_const 1 68), (68, false, a_aald 69), (69, false, a_iload 4 71), (71, false, a_iload 2 72), (72, false, a_ast false 73), (73, false, a_aload 0 74), (74, false, a_gr 4 1 77), (77, false, a_const 2 78), (78, false, a_aald 79), (79, false, a_iload 4 81), (81, false, a_iload 3 82), (82, false, a_ast false 83), (83, false, a_aload 0 84), (84, false, a_dup 85), (85, false, a_gi 4 0 0 88), (88, false, a_const 1 89), (89, false, a_add 90), (90, false, a_pi 4 0 0 false 93), (93, false, a_iload 4 95), (95, false, a_iret M_4_place)]
set_option maxRecDepth 20000 in
theorem t_4_place (X : XT) : tget (tab_4_place X) 0 = some (false, a_aload 0 1) ∧ tget (tab_4_place X) 1 = some (false, a_iload 1 2) ∧ tget (tab_4_place X) 2 = some (false, a_iload 2 3) ∧ tget (tab_4_place X) 3 = some (false, a_const 1 4) ∧ tget (tab_4_place X) 4 = some (false, a_add 5) ∧ tget (tab_4_place X) 5 = some (false, a_cv X M_4_place M_4_before 4 3 8) ∧ tget (tab_4_place X) 8 = some (false, a_istore 4 10) ∧ tget (tab_4_place X) 10 = some (false, a_aload 0 11) ∧ tget (tab_4_place X) 11 = some (false, a_gi 4 0 0 14) ∧ tget (tab_4_place X) 14 = some (false, a_const 40 16) ∧ tget (tab_4_place X) 16 = some (false, a_icmp 2 22 19) ∧ tget (tab_4_place X) 19 = some (false, a_iload 4 21) ∧ tget (tab_4_place X) 21 = some (false, a_iret M_4_place) ∧ tget (tab_4_place X) 22 = some (false, a_const 0 23) ∧ tget (tab_4_place X) 23 = some (false, a_istore 5 25) ∧ tget (tab_4_place X) 25 = some (false, a_iload 5 27) ∧ tget (tab_4_place X) 27 = some (false, a_const 3 28) ∧ tget (tab_4_place X) 28 = some (false, a_icmp 3 53 31) ∧ tget (tab_4_place X) 31 = some (false, a_aload 0 32) ∧ tget (tab_4_place X) 32 = some (false, a_gr 4 1 35) ∧ tget (tab_4_place X) 35 = some (false, a_iload 5 37) ∧ tget (tab_4_place X) 37 = some (false, a_aald 38) ∧ tget (tab_4_place X) 38 = some (false, a_iload 4 40) ∧ tget (tab_4_place X) 40 = some (false, a_aload 0 41) ∧ tget (tab_4_place X) 41 = some (false, a_gi 4 0 0 44) ∧ tget (tab_4_place X) 44 = some (false, a_sn X M_4_place M_7_openPlace 3 47) ∧ tget (tab_4_place X) 47 = some (false, a_iinc 5 1 50) ∧ tget (tab_4_place X) 50 = some (false, a_goto 25) ∧ tget (tab_4_place X) 53 = some (false, a_aload 0 54) ∧ tget (tab_4_place X) 54 = some (false, a_gr 4 1 57) ∧ tget (tab_4_place X) 57 = some (false, a_const 0 58) ∧ tget (tab_4_place X) 58 = some (false, a_aald 59) ∧ tget (tab_4_place X) 59 = some (false, a_iload 4 61) ∧ tget (tab_4_place X) 61 = some (false, a_iload 1 62) ∧ tget (tab_4_place X) 62 = some (false, a_ast false 63) ∧ tget (tab_4_place X) 63 = some (false, a_aload 0 64) ∧ tget (tab_4_place X) 64 = some (false, a_gr 4 1 67) ∧ tget (tab_4_place X) 67 = some (false, a_const 1 68) ∧ tget (tab_4_place X) 68 = some (false, a_aald 69) ∧ tget (tab_4_place X) 69 = some (false, a_iload 4 71) ∧ tget (tab_4_place X) 71 = some (false, a_iload 2 72) ∧ tget (tab_4_place X) 72 = some (false, a_ast false 73) ∧ tget (tab_4_place X) 73 = some (false, a_aload 0 74) ∧ tget (tab_4_place X) 74 = some (false, a_gr 4 1 77) ∧ tget (tab_4_place X) 77 = some (false, a_const 2 78) ∧ tget (tab_4_place X) 78 = some (false, a_aald 79) ∧ tget (tab_4_place X) 79 = some (false, a_iload 4 81) ∧ tget (tab_4_place X) 81 = some (false, a_iload 3 82) ∧ tget (tab_4_place X) 82 = some (false, a_ast false 83) ∧ tget (tab_4_place X) 83 = some (false, a_aload 0 84) ∧ tget (tab_4_place X) 84 = some (false, a_dup 85) ∧ tget (tab_4_place X) 85 = some (false, a_gi 4 0 0 88) ∧ tget (tab_4_place X) 88 = some (false, a_const 1 89) ∧ tget (tab_4_place X) 89 = some (false, a_add 90) ∧ tget (tab_4_place X) 90 = some (false, a_pi 4 0 0 false 93) ∧ tget (tab_4_place X) 93 = some (false, a_iload 4 95) ∧ tget (tab_4_place X) 95 = some (false, a_iret M_4_place) := ⟨rfl, rfl, rfl, rfl, rfl, rfl, rfl, rfl, rfl, rfl, rfl, rfl, rfl, rfl, rfl, rfl, rfl, rfl, rfl, rfl, rfl, rfl, rfl, rfl, rfl, rfl, rfl, rfl, rfl, rfl, rfl, rfl, rfl, rfl, rfl, rfl, rfl, rfl, rfl, rfl, rfl, rfl, rfl, rfl, rfl, rfl, rfl, rfl, rfl, rfl, rfl, rfl, rfl, rfl, rfl, rfl, rfl⟩
theorem tok_4_place (X : XT) : TabOK X M_4_place (tab_4_place X) := by
  unfold tab_4_place
  refine tok_cons (snd_aload_n dX4_place_0 rfl rfl) ?_
  refine tok_cons (snd_iload_n dX4_place_1 rfl rfl) ?_
  refine tok_cons (snd_iload_n dX4_place_2 rfl rfl) ?_
  refine tok_cons (snd_iconst dX4_place_3 rfl (inr_d rfl) rfl) ?_
  refine tok_cons (snd_add dX4_place_4 rfl) ?_
  refine tok_cons (snd_cv dX4_place_5 mok_4_before ⟨wm4_24, wi_4_before, wl_4_before⟩ (rc := (RX4, TX4, 2)) rfl rfl pn_4_before (by decide) ⟨rfl, rfl⟩ rfl) ?_
  refine tok_cons (snd_istore dX4_place_8 rfl (by decide)) ?_
  refine tok_cons (snd_aload_n dX4_place_10 rfl rfl) ?_
  refine tok_cons (snd_gi (C := RX4) (T := TX4) (N := 2) dX4_place_11 rfl (by decide) rfl wf4_20 inX4 rfl rfl) ?_
  refine tok_cons (snd_bipush dX4_place_14 (by decide) (inr_d rfl) rfl) ?_
  refine tok_cons (snd_icmp_lt dX4_place_16 (by decide) rfl) ?_
  refine tok_cons (snd_iload dX4_place_19 rfl) ?_
  refine tok_cons (snd_iret dX4_place_21 rfl) ?_
  refine tok_cons (snd_iconst dX4_place_22 rfl (inr_d rfl) rfl) ?_
  refine tok_cons (snd_istore dX4_place_23 rfl (by decide)) ?_
  refine tok_cons (snd_iload dX4_place_25 rfl) ?_
  refine tok_cons (snd_iconst dX4_place_27 rfl (inr_d rfl) rfl) ?_
  refine tok_cons (snd_icmp_ge dX4_place_28 (by decide) rfl) ?_
  refine tok_cons (snd_aload_n dX4_place_31 rfl rfl) ?_
  refine tok_cons (snd_gr (C := RX4) (T := TX4) (N := 2) dX4_place_32 rfl (by decide) rfl wf4_11 inX4 rfl) ?_
  refine tok_cons (snd_iload dX4_place_35 rfl) ?_
  refine tok_cons (snd_aald dX4_place_37 rfl) ?_
  refine tok_cons (snd_iload dX4_place_38 rfl) ?_
  refine tok_cons (snd_aload_n dX4_place_40 rfl rfl) ?_
  refine tok_cons (snd_gi (C := RX4) (T := TX4) (N := 2) dX4_place_41 rfl (by decide) rfl wf4_20 inX4 rfl rfl) ?_
  refine tok_cons (snd_sn dX4_place_44 mok_7_openPlace ⟨ws_7_openPlace, Or.inr (List.mem_of_getElem? (i := 14) rfl)⟩ pn_7_openPlace (by decide) ⟨rfl, rfl⟩ rfl) ?_
  refine tok_cons (snd_iinc dX4_place_47 rfl rfl (by decide)) ?_
  refine tok_cons (snd_goto dX4_place_50 (by decide)) ?_
  refine tok_cons (snd_aload_n dX4_place_53 rfl rfl) ?_
  refine tok_cons (snd_gr (C := RX4) (T := TX4) (N := 2) dX4_place_54 rfl (by decide) rfl wf4_11 inX4 rfl) ?_
  refine tok_cons (snd_iconst dX4_place_57 rfl (inr_d rfl) rfl) ?_
  refine tok_cons (snd_aald dX4_place_58 rfl) ?_
  refine tok_cons (snd_iload dX4_place_59 rfl) ?_
  refine tok_cons (snd_iload_n dX4_place_61 rfl rfl) ?_
  refine tok_cons (snd_iast dX4_place_62 rfl) ?_
  refine tok_cons (snd_aload_n dX4_place_63 rfl rfl) ?_
  refine tok_cons (snd_gr (C := RX4) (T := TX4) (N := 2) dX4_place_64 rfl (by decide) rfl wf4_11 inX4 rfl) ?_
  refine tok_cons (snd_iconst dX4_place_67 rfl (inr_d rfl) rfl) ?_
  refine tok_cons (snd_aald dX4_place_68 rfl) ?_
  refine tok_cons (snd_iload dX4_place_69 rfl) ?_
  refine tok_cons (snd_iload_n dX4_place_71 rfl rfl) ?_
  refine tok_cons (snd_iast dX4_place_72 rfl) ?_
  refine tok_cons (snd_aload_n dX4_place_73 rfl rfl) ?_
  refine tok_cons (snd_gr (C := RX4) (T := TX4) (N := 2) dX4_place_74 rfl (by decide) rfl wf4_11 inX4 rfl) ?_
  refine tok_cons (snd_iconst dX4_place_77 rfl (inr_d rfl) rfl) ?_
  refine tok_cons (snd_aald dX4_place_78 rfl) ?_
  refine tok_cons (snd_iload dX4_place_79 rfl) ?_
  refine tok_cons (snd_iload_n dX4_place_81 rfl rfl) ?_
  refine tok_cons (snd_iast dX4_place_82 rfl) ?_
  refine tok_cons (snd_aload_n dX4_place_83 rfl rfl) ?_
  refine tok_cons (snd_dup dX4_place_84 rfl) ?_
  refine tok_cons (snd_gi (C := RX4) (T := TX4) (N := 2) dX4_place_85 rfl (by decide) rfl wf4_20 inX4 rfl rfl) ?_
  refine tok_cons (snd_iconst dX4_place_88 rfl (inr_d rfl) rfl) ?_
  refine tok_cons (snd_add dX4_place_89 rfl) ?_
  refine tok_cons (snd_pi (C := RX4) (T := TX4) (N := 2) (ty0 := tyX4) dX4_place_90 rfl (by decide) rfl wf4_20 inX4 tyX4_ok nmX4 (by decide +kernel) rfl rfl) ?_
  refine tok_cons (snd_iload dX4_place_93 rfl) ?_
  refine tok_cons (snd_iret dX4_place_95 rfl) ?_
  exact tok_nil
def tab_4_drop (X : XT) : Tab := [(0, false, a_const 0 1), (1, false, a_istore 2 2), (2, false, a_iload 2 3), (3, false, a_const 3 4), (4, false, a_icmp 3 27 7), (7, false, a_aload 0 8), (8, false, a_gr 4 1 11), (11, false, a_iload 2 12), (12, false, a_aald 13), (13, false, a_iload 1 14), (14, false, a_aload 0 15), (15, false, a_gi 4 0 0 18), (18, false, a_sn X M_4_drop M_7_closePlace 3 21), (21, false, a_iinc 2 1 24), (24, false, a_goto 2), (27, false, a_aload 0 28), (28, false, a_dup 29), (29, false, a_gi 4 0 0 32), (32, false, a_const 1 33), (33, false, a_sub 34), (34, false, a_pi 4 0 0 false 37), (37, false, a_ret M_4_drop)]
set_option maxRecDepth 20000 in
theorem t_4_drop (X : XT) : tget (tab_4_drop X) 0 = some (false, a_const 0 1) ∧ tget (tab_4_drop X) 1 = some (false, a_istore 2 2) ∧ tget (tab_4_drop X) 2 = some (false, a_iload 2 3) ∧ tget (tab_4_drop X) 3 = some (false, a_const 3 4) ∧ tget (tab_4_drop X) 4 = some (false, a_icmp 3 27 7) ∧ tget (tab_4_drop X) 7 = some (false, a_aload 0 8) ∧ tget (tab_4_drop X) 8 = some (false, a_gr 4 1 11) ∧ tget (tab_4_drop X) 11 = some (false, a_iload 2 12) ∧ tget (tab_4_drop X) 12 = some (false, a_aald 13) ∧ tget (tab_4_drop X) 13 = some (false, a_iload 1 14) ∧ tget (tab_4_drop X) 14 = some (false, a_aload 0 15) ∧ tget (tab_4_drop X) 15 = some (false, a_gi 4 0 0 18) ∧ tget (tab_4_drop X) 18 = some (false, a_sn X M_4_drop M_7_closePlace 3 21) ∧ tget (tab_4_drop X) 21 = some (false, a_iinc 2 1 24) ∧ tget (tab_4_drop X) 24 = some (false, a_goto 2) ∧ tget (tab_4_drop X) 27 = some (false, a_aload 0 28) ∧ tget (tab_4_drop X) 28 = some (false, a_dup 29) ∧ tget (tab_4_drop X) 29 = some (false, a_gi 4 0 0 32) ∧ tget (tab_4_drop X) 32 = some (false, a_const 1 33) ∧ tget (tab_4_drop X) 33 = some (false, a_sub 34) ∧ tget (tab_4_drop X) 34 = some (false, a_pi 4 0 0 false 37) ∧ tget (tab_4_drop X) 37 = some (false, a_ret M_4_drop) := ⟨rfl, rfl, rfl, rfl, rfl, rfl, rfl, rfl, rfl, rfl, rfl, rfl, rfl, rfl, rfl, rfl, rfl, rfl, rfl, rfl, rfl, rfl⟩
theorem tok_4_drop (X : XT) : TabOK X M_4_drop (tab_4_drop X) := by
  unfold tab_4_drop
  refine tok_cons (snd_iconst dX4_drop_0 rfl (inr_d rfl) rfl) ?_
  refine tok_cons (snd_istore_n dX4_drop_1 rfl rfl (by decide)) ?_
  refine tok_cons (snd_iload_n dX4_drop_2 rfl rfl) ?_
  refine tok_cons (snd_iconst dX4_drop_3 rfl (inr_d rfl) rfl) ?_
  refine tok_cons (snd_icmp_ge dX4_drop_4 (by decide) rfl) ?_
  refine tok_cons (snd_aload_n dX4_drop_7 rfl rfl) ?_
  refine tok_cons (snd_gr (C := RX4) (T := TX4) (N := 2) dX4_drop_8 rfl (by decide) rfl wf4_11 inX4 rfl) ?_
  refine tok_cons (snd_iload_n dX4_drop_11 rfl rfl) ?_
  refine tok_cons (snd_aald dX4_drop_12 rfl) ?_
  refine tok_cons (snd_iload_n dX4_drop_13 rfl rfl) ?_
  refine tok_cons (snd_aload_n dX4_drop_14 rfl rfl) ?_
  refine tok_cons (snd_gi (C := RX4) (T := TX4) (N := 2) dX4_drop_15 rfl (by decide) rfl wf4_20 inX4 rfl rfl) ?_
  refine tok_cons (snd_sn dX4_drop_18 mok_7_closePlace ⟨ws_7_closePlace, Or.inr (List.mem_of_getElem? (i := 15) rfl)⟩ pn_7_closePlace (by decide) ⟨rfl, rfl⟩ rfl) ?_
  refine tok_cons (snd_iinc dX4_drop_21 rfl rfl (by decide)) ?_
  refine tok_cons (snd_goto dX4_drop_24 (by decide)) ?_
  refine tok_cons (snd_aload_n dX4_drop_27 rfl rfl) ?_
  refine tok_cons (snd_dup dX4_drop_28 rfl) ?_
  refine tok_cons (snd_gi (C := RX4) (T := TX4) (N := 2) dX4_drop_29 rfl (by decide) rfl wf4_20 inX4 rfl rfl) ?_
  refine tok_cons (snd_iconst dX4_drop_32 rfl (inr_d rfl) rfl) ?_
  refine tok_cons (snd_sub dX4_drop_33 rfl) ?_
  refine tok_cons (snd_pi (C := RX4) (T := TX4) (N := 2) (ty0 := tyX4) dX4_drop_34 rfl (by decide) rfl wf4_20 inX4 tyX4_ok nmX4 (by decide +kernel) rfl rfl) ?_
  refine tok_cons (snd_ret dX4_drop_37 rfl) ?_
  exact tok_nil
def tab_4_movePairs (X : XT) : Tab := [(0, false, a_aload 0 1), (1, false, a_iload 1 2), (2, false, a_const 0 3), (3, false, a_cv X M_4_movePairs M_4_before 4 3 6), (6, false, a_istore 3 7), (7, true, a_iload 3 8), (8, false, a_aload 0 9), (9, false, a_gi 4 0 0 12), (12, false, a_icmp 3 33 15), (15, false, a_aload 0 16), (16, false, a_gr 4 1 19), (19, false, a_const 0 20), (20, false, a_aald 21), (21, false, a_iload 3 22), (22, false, a_dup2 23), (23, false, a_ald false 24), (24, false, a_iload 2 25), (25, false, a_add 26), (26, false, a_ast false 27), (27, false, a_iinc 3 1 30), (30, false, a_goto 7), (33, false, a_ret M_4_movePairs)]
set_option maxRecDepth 20000 in
theorem t_4_movePairs (X : XT) : tget (tab_4_movePairs X) 0 = some (false, a_aload 0 1) ∧ tget (tab_4_movePairs X) 1 = some (false, a_iload 1 2) ∧ tget (tab_4_movePairs X) 2 = some (false, a_const 0 3) ∧ tget (tab_4_movePairs X) 3 = some (false, a_cv X M_4_movePairs M_4_before 4 3 6) ∧ tget (tab_4_movePairs X) 6 = some (false, a_istore 3 7) ∧ tget (tab_4_movePairs X) 7 = some (true, a_iload 3 8) ∧ tget (tab_4_movePairs X) 8 = some (false, a_aload 0 9) ∧ tget (tab_4_movePairs X) 9 = some (false, a_gi 4 0 0 12) ∧ tget (tab_4_movePairs X) 12 = some (false, a_icmp 3 33 15) ∧ tget (tab_4_movePairs X) 15 = some (false, a_aload 0 16) ∧ tget (tab_4_movePairs X) 16 = some (false, a_gr 4 1 19) ∧ tget (tab_4_movePairs X) 19 = some (false, a_const 0 20) ∧ tget (tab_4_movePairs X) 20 = some (false, a_aald 21) ∧ tget (tab_4_movePairs X) 21 = some (false, a_iload 3 22) ∧ tget (tab_4_movePairs X) 22 = some (false, a_dup2 23) ∧ tget (tab_4_movePairs X) 23 = some (false, a_ald false 24) ∧ tget (tab_4_movePairs X) 24 = some (false, a_iload 2 25) ∧ tget (tab_4_movePairs X) 25 = some (false, a_add 26) ∧ tget (tab_4_movePairs X) 26 = some (false, a_ast false 27) ∧ tget (tab_4_movePairs X) 27 = some (false, a_iinc 3 1 30) ∧ tget (tab_4_movePairs X) 30 = some (false, a_goto 7) ∧ tget (tab_4_movePairs X) 33 = some (false, a_ret M_4_movePairs) := ⟨rfl, rfl, rfl, rfl, rfl, rfl, rfl, rfl, rfl, rfl, rfl, rfl, rfl, rfl, rfl, rfl, rfl, rfl, rfl, rfl, rfl, rfl⟩
theorem tok_4_movePairs (X : XT) : TabOK X M_4_movePairs (tab_4_movePairs X) := by
  unfold tab_4_movePairs
  refine tok_cons (snd_aload_n dX4_movePairs_0 rfl rfl) ?_
  refine tok_cons (snd_iload_n dX4_movePairs_1 rfl rfl) ?_
  refine tok_cons (snd_iconst dX4_movePairs_2 rfl (inr_d rfl) rfl) ?_
  refine tok_cons (snd_cv dX4_movePairs_3 mok_4_before ⟨wm4_24, wi_4_before, wl_4_before⟩ (rc := (RX4, TX4, 2)) rfl rfl pn_4_before (by decide) ⟨rfl, rfl⟩ rfl) ?_
  refine tok_cons (snd_istore_n dX4_movePairs_6 rfl rfl (by decide)) ?_
  refine tok_cons (snd_iload_n dX4_movePairs_7 rfl rfl) ?_
  refine tok_cons (snd_aload_n dX4_movePairs_8 rfl rfl) ?_
  refine tok_cons (snd_gi (C := RX4) (T := TX4) (N := 2) dX4_movePairs_9 rfl (by decide) rfl wf4_20 inX4 rfl rfl) ?_
  refine tok_cons (snd_icmp_ge dX4_movePairs_12 (by decide) rfl) ?_
  refine tok_cons (snd_aload_n dX4_movePairs_15 rfl rfl) ?_
  refine tok_cons (snd_gr (C := RX4) (T := TX4) (N := 2) dX4_movePairs_16 rfl (by decide) rfl wf4_11 inX4 rfl) ?_
  refine tok_cons (snd_iconst dX4_movePairs_19 rfl (inr_d rfl) rfl) ?_
  refine tok_cons (snd_aald dX4_movePairs_20 rfl) ?_
  refine tok_cons (snd_iload_n dX4_movePairs_21 rfl rfl) ?_
  refine tok_cons (snd_dup2 dX4_movePairs_22 rfl) ?_
  refine tok_cons (snd_iald dX4_movePairs_23 rfl) ?_
  refine tok_cons (snd_iload_n dX4_movePairs_24 rfl rfl) ?_
  refine tok_cons (snd_add dX4_movePairs_25 rfl) ?_
  refine tok_cons (snd_iast dX4_movePairs_26 rfl) ?_
  refine tok_cons (snd_iinc dX4_movePairs_27 rfl rfl (by decide)) ?_
  refine tok_cons (snd_goto dX4_movePairs_30 (by decide)) ?_
  refine tok_cons (snd_ret dX4_movePairs_33 rfl) ?_
  exact tok_nil
def tab_5_takePair (X : XT) : Tab := [(0, false, a_aload 0 1), (1, false, a_iload 2 2), (2, false, a_pi 5 0 0 false 5), (5, false, a_const 0 6), (6, false, a_istore 3 7), (7, false, a_iload 3 8), (8, false, a_const 2 9), (9, false, a_icmp 3 51 12), (12, false, a_aload 0 13), (13, false, a_gr 5 1 16), (16, false, a_iload 3 17), (17, false, a_const 0 18), (18, false, a_ast false 19), (19, false, a_aload 0 20), (20, false, a_gr 5 2 23), (23, false, a_iload 3 24), (24, false, a_aload 1 25), (25, false, a_iload 2 26), (26, false, a_cv X M_5_takePair M_1_hasPair 1 2 29), (29, false, a_if 0 43 32), (32, false, a_aload 1 33), (33, false, a_gr 1 1 36), (36, false, a_iload 3 37), (37, false, a_aald 38), (38, false, a_iload 2 39), (39, false, a_ald false 40), (40, false, a_goto 44), (43, false, a_const 0 44), (44, false, a_ast false 45), (45, false, a_iinc 3 1 48), (48, false, a_goto 7), (51, false, a_ret M_5_takePair)]
set_option maxRecDepth 20000 in
theorem t_5_takePair (X : XT) : tget (tab_5_takePair X) 0 = some (false, a_aload 0 1) ∧ tget (tab_5_takePair X) 1 = some (false, a_iload 2 2) ∧ tget (tab_5_takePair X) 2 = some (false, a_pi 5 0 0 false 5) ∧ tget (tab_5_takePair X) 5 = some (false, a_const 0 6) ∧ tget (tab_5_takePair X) 6 = some (false, a_istore 3 7) ∧ tget (tab_5_takePair X) 7 = some (false, a_iload 3 8) ∧ tget (tab_5_takePair X) 8 = some (false, a_const 2 9) ∧ tget (tab_5_takePair X) 9 = some (false, a_icmp 3 51 12) ∧ tget (tab_5_takePair X) 12 = some (false, a_aload 0 13) ∧ tget (tab_5_takePair X) 13 = some (false, a_gr 5 1 16) ∧ tget (tab_5_takePair X) 16 = some (false, a_iload 3 17) ∧ tget (tab_5_takePair X) 17 = some (false, a_const 0 18) ∧ tget (tab_5_takePair X) 18 = some (false, a_ast false 19) ∧ tget (tab_5_takePair X) 19 = some (false, a_aload 0 20) ∧ tget (tab_5_takePair X) 20 = some (false, a_gr 5 2 23) ∧ tget (tab_5_takePair X) 23 = some (false, a_iload 3 24) ∧ tget (tab_5_takePair X) 24 = some (false, a_aload 1 25) ∧ tget (tab_5_takePair X) 25 = some (false, a_iload 2 26) ∧ tget (tab_5_takePair X) 26 = some (false, a_cv X M_5_takePair M_1_hasPair 1 2 29) ∧ tget (tab_5_takePair X) 29 = some (false, a_if 0 43 32) ∧ tget (tab_5_takePair X) 32 = some (false, a_aload 1 33) ∧ tget (tab_5_takePair X) 33 = some (false, a_gr 1 1 36) ∧ tget (tab_5_takePair X) 36 = some (false, a_iload 3 37) ∧ tget (tab_5_takePair X) 37 = some (false, a_aald 38) ∧ tget (tab_5_takePair X) 38 = some (false, a_iload 2 39) ∧ tget (tab_5_takePair X) 39 = some (false, a_ald false 40) ∧ tget (tab_5_takePair X) 40 = some (false, a_goto 44) ∧ tget (tab_5_takePair X) 43 = some (false, a_const 0 44) ∧ tget (tab_5_takePair X) 44 = some (false, a_ast false 45) ∧ tget (tab_5_takePair X) 45 = some (false, a_iinc 3 1 48) ∧ tget (tab_5_takePair X) 48 = some (false, a_goto 7) ∧ tget (tab_5_takePair X) 51 = some (false, a_ret M_5_takePair) := ⟨rfl, rfl, rfl, rfl, rfl, rfl, rfl, rfl, rfl, rfl, rfl, rfl, rfl, rfl, rfl, rfl, rfl, rfl, rfl, rfl, rfl, rfl, rfl, rfl, rfl, rfl, rfl, rfl, rfl, rfl, rfl, rfl⟩
theorem tok_5_takePair (X : XT) : TabOK X M_5_takePair (tab_5_takePair X) := by
  unfold tab_5_takePair
  refine tok_cons (snd_aload_n dX5_takePair_0 rfl rfl) ?_
  refine tok_cons (snd_iload_n dX5_takePair_1 rfl rfl) ?_
  refine tok_cons (snd_pi (C := RX5) (T := TX5) (N := 3) (ty0 := tyX5) dX5_takePair_2 rfl (by decide) rfl wf5_18 inX5 tyX5_ok nmX5 (by decide +kernel) rfl rfl) ?_
  refine tok_cons (snd_iconst dX5_takePair_5 rfl (inr_d rfl) rfl) ?_
  refine tok_cons (snd_istore_n dX5_takePair_6 rfl rfl (by decide)) ?_
  refine tok_cons (snd_iload_n dX5_takePair_7 rfl rfl) ?_
  refine tok_cons (snd_iconst dX5_takePair_8 rfl (inr_d rfl) rfl) ?_
  refine tok_cons (snd_icmp_ge dX5_takePair_9 (by decide) rfl) ?_
  refine tok_cons (snd_aload_n dX5_takePair_12 rfl rfl) ?_
  refine tok_cons (snd_gr (C := RX5) (T := TX5) (N := 3) dX5_takePair_13 rfl (by decide) rfl wf5_9 inX5 rfl) ?_
  refine tok_cons (snd_iload_n dX5_takePair_16 rfl rfl) ?_
  refine tok_cons (snd_iconst dX5_takePair_17 rfl (inr_d rfl) rfl) ?_
  refine tok_cons (snd_iast dX5_takePair_18 rfl) ?_
  refine tok_cons (snd_aload_n dX5_takePair_19 rfl rfl) ?_
  refine tok_cons (snd_gr (C := RX5) (T := TX5) (N := 3) dX5_takePair_20 rfl (by decide) rfl wf5_15 inX5 rfl) ?_
  refine tok_cons (snd_iload_n dX5_takePair_23 rfl rfl) ?_
  refine tok_cons (snd_aload_n dX5_takePair_24 rfl rfl) ?_
  refine tok_cons (snd_iload_n dX5_takePair_25 rfl rfl) ?_
  refine tok_cons (snd_cv dX5_takePair_26 mok_1_hasPair ⟨wm5_22, wi_1_hasPair, wl_1_hasPair⟩ (rc := (RX1, TX1, 5)) rfl rfl pn_1_hasPair (by decide) ⟨rfl, rfl⟩ rfl) ?_
  refine tok_cons (snd_if_eq dX5_takePair_29 (by decide) rfl) ?_
  refine tok_cons (snd_aload_n dX5_takePair_32 rfl rfl) ?_
  refine tok_cons (snd_gr (C := RX1) (T := TX1) (N := 5) dX5_takePair_33 rfl (by decide) rfl wf5_28 inX1 rfl) ?_
  refine tok_cons (snd_iload_n dX5_takePair_36 rfl rfl) ?_
  refine tok_cons (snd_aald dX5_takePair_37 rfl) ?_
  refine tok_cons (snd_iload_n dX5_takePair_38 rfl rfl) ?_
  refine tok_cons (snd_iald dX5_takePair_39 rfl) ?_
  refine tok_cons (snd_goto dX5_takePair_40 (by decide)) ?_
  refine tok_cons (snd_iconst dX5_takePair_43 rfl (inr_d rfl) rfl) ?_
  refine tok_cons (snd_iast dX5_takePair_44 rfl) ?_
  refine tok_cons (snd_iinc dX5_takePair_45 rfl rfl (by decide)) ?_
  refine tok_cons (snd_goto dX5_takePair_48 (by decide)) ?_
  refine tok_cons (snd_ret dX5_takePair_51 rfl) ?_
  exact tok_nil
def tab_6_fits (X : XT) : Tab := [(0, false, a_aload 0 1), (1, false, a_gr 6 8 4), (4, false, a_aload 0 5), (5, false, a_gr 6 7 8), (8, false, a_cn X M_6_fits M_2_copyFrom 2 2 11), (11, false, a_aload 0 12), (12, false, a_gr 6 8 15), (15, false, a_aload 1 16), (16, false, a_aload 2 17), (17, false, a_cn X M_6_fits M_2_put 2 3 20), (20, false, a_aload 0 21), (21, false, a_gr 6 8 24), (24, false, a_aload 0 25), (25, false, a_gi 6 0 0 28), (28, false, a_aload 1 29), (29, false, a_gr 1 4 32), (32, false, a_const 2 33), (33, false, a_ald false 34), (34, false, a_aload 1 35), (35, false, a_gr 1 4 38), (38, false, a_const 4 39), (39, false, a_ald false 40), (40, false, a_cv X M_6_fits M_2_fits 2 4 43), (43, false, a_zret M_6_fits)]
set_option maxRecDepth 20000 in
theorem t_6_fits (X : XT) : tget (tab_6_fits X) 0 = some (false, a_aload 0 1) ∧ tget (tab_6_fits X) 1 = some (false, a_gr 6 8 4) ∧ tget (tab_6_fits X) 4 = some (false, a_aload 0 5) ∧ tget (tab_6_fits X) 5 = some (false, a_gr 6 7 8) ∧ tget (tab_6_fits X) 8 = some (false, a_cn X M_6_fits M_2_copyFrom 2 2 11) ∧ tget (tab_6_fits X) 11 = some (false, a_aload 0 12) ∧ tget (tab_6_fits X) 12 = some (false, a_gr 6 8 15) ∧ tget (tab_6_fits X) 15 = some (false, a_aload 1 16) ∧ tget (tab_6_fits X) 16 = some (false, a_aload 2 17) ∧ tget (tab_6_fits X) 17 = some (false, a_cn X M_6_fits M_2_put 2 3 20) ∧ tget (tab_6_fits X) 20 = some (false, a_aload 0 21) ∧ tget (tab_6_fits X) 21 = some (false, a_gr 6 8 24) ∧ tget (tab_6_fits X) 24 = some (false, a_aload 0 25) ∧ tget (tab_6_fits X) 25 = some (false, a_gi 6 0 0 28) ∧ tget (tab_6_fits X) 28 = some (false, a_aload 1 29) ∧ tget (tab_6_fits X) 29 = some (false, a_gr 1 4 32) ∧ tget (tab_6_fits X) 32 = some (false, a_const 2 33) ∧ tget (tab_6_fits X) 33 = some (false, a_ald false 34) ∧ tget (tab_6_fits X) 34 = some (false, a_aload 1 35) ∧ tget (tab_6_fits X) 35 = some (false, a_gr 1 4 38) ∧ tget (tab_6_fits X) 38 = some (false, a_const 4 39) ∧ tget (tab_6_fits X) 39 = some (false, a_ald false 40) ∧ tget (tab_6_fits X) 40 = some (false, a_cv X M_6_fits M_2_fits 2 4 43) ∧ tget (tab_6_fits X) 43 = some (false, a_zret M_6_fits) := ⟨rfl, rfl, rfl, rfl, rfl, rfl, rfl, rfl, rfl, rfl, rfl, rfl, rfl, rfl, rfl, rfl, rfl, rfl, rfl, rfl, rfl, rfl, rfl, rfl⟩
theorem tok_6_fits (X : XT) : TabOK X M_6_fits (tab_6_fits X) := by
  unfold tab_6_fits
  refine tok_cons (snd_aload_n dX6_fits_0 rfl rfl) ?_
  refine tok_cons (snd_gr (C := RX6) (T := TX6) (N := 11) dX6_fits_1 rfl (by decide) rfl wf6_37 inX6 rfl) ?_
  refine tok_cons (snd_aload_n dX6_fits_4 rfl rfl) ?_
  refine tok_cons (snd_gr (C := RX6) (T := TX6) (N := 11) dX6_fits_5 rfl (by decide) rfl wf6_33 inX6 rfl) ?_
  refine tok_cons (snd_cn dX6_fits_8 mok_2_copyFrom ⟨wm6_112, wi_2_copyFrom, wl_2_copyFrom⟩ (rc := (RX2, TX2, 7)) rfl rfl pn_2_copyFrom (by decide) ⟨rfl, rfl⟩ rfl) ?_
  refine tok_cons (snd_aload_n dX6_fits_11 rfl rfl) ?_
  refine tok_cons (snd_gr (C := RX6) (T := TX6) (N := 11) dX6_fits_12 rfl (by decide) rfl wf6_37 inX6 rfl) ?_
  refine tok_cons (snd_aload_n dX6_fits_15 rfl rfl) ?_
  refine tok_cons (snd_aload_n dX6_fits_16 rfl rfl) ?_
  refine tok_cons (snd_cn dX6_fits_17 mok_2_put ⟨wm6_116, wi_2_put, wl_2_put⟩ (rc := (RX2, TX2, 7)) rfl rfl pn_2_put (by decide) ⟨rfl, rfl⟩ rfl) ?_
  refine tok_cons (snd_aload_n dX6_fits_20 rfl rfl) ?_
  refine tok_cons (snd_gr (C := RX6) (T := TX6) (N := 11) dX6_fits_21 rfl (by decide) rfl wf6_37 inX6 rfl) ?_
  refine tok_cons (snd_aload_n dX6_fits_24 rfl rfl) ?_
  refine tok_cons (snd_gi (C := RX6) (T := TX6) (N := 11) dX6_fits_25 rfl (by decide) rfl wf6_11 inX6 rfl rfl) ?_
  refine tok_cons (snd_aload_n dX6_fits_28 rfl rfl) ?_
  refine tok_cons (snd_gr (C := RX1) (T := TX1) (N := 5) dX6_fits_29 rfl (by decide) rfl wf6_120 inX1 rfl) ?_
  refine tok_cons (snd_iconst dX6_fits_32 rfl (inr_d rfl) rfl) ?_
  refine tok_cons (snd_iald dX6_fits_33 rfl) ?_
  refine tok_cons (snd_aload_n dX6_fits_34 rfl rfl) ?_
  refine tok_cons (snd_gr (C := RX1) (T := TX1) (N := 5) dX6_fits_35 rfl (by decide) rfl wf6_120 inX1 rfl) ?_
  refine tok_cons (snd_iconst dX6_fits_38 rfl (inr_d rfl) rfl) ?_
  refine tok_cons (snd_iald dX6_fits_39 rfl) ?_
  refine tok_cons (snd_cv dX6_fits_40 mok_2_fits ⟨wm6_123, wi_2_fits, wl_2_fits⟩ (rc := (RX2, TX2, 7)) rfl rfl pn_2_fits (by decide) ⟨rfl, rfl⟩ rfl) ?_
  refine tok_cons (snd_zret dX6_fits_43 rfl) ?_
  exact tok_nil
def tab_6_addSegment (X : XT) : Tab := [(0, false, a_aload 0 1), (1, false, a_gi 6 6 6 4), (4, false, a_const 600 7), (7, false, a_icmp 2 11 10), (10, false, a_ret M_6_addSegment), (11, false, a_aload 0 12), (12, false, a_gr 6 4 15), (15, false, a_const 0 16), (16, false, a_aald 17), (17, false, a_aload 0 18), (18, false, a_gi 6 6 6 21), (21, false, a_aload 2 22), (22, false, a_gi 5 0 0 25), (25, false, a_ast false 26), (26, false, a_aload 0 27), (27, false, a_gr 6 4 30), (30, false, a_const 7 32), (32, false, a_aald 33), (33, false, a_aload 0 34), (34, false, a_gi 6 6 6 37), (37, false, a_iload 3 38), (38, false, a_ast false 39), (39, false, a_const 0 40), (40, false, a_istore 4 42), (42, false, a_iload 4 44), (44, false, a_const 2 45), (45, false, a_icmp 3 126 48), (48, false, a_aload 0 49), (49, false, a_gr 6 4 52), (52, false, a_gst 3 55), (55, false, a_iload 4 57), (57, false, a_sld 58), (58, false, a_aald 59), (59, false, a_aload 0 60), (60, false, a_gi 6 6 6 63), (63, false, a_aload 2 64), (64, false, a_gr 5 1 67), (67, false, a_iload 4 69), (69, false, a_ald false 70), (70, false, a_ast false 71), (71, false, a_aload 0 72), (72, false, a_gr 6 4 75), (75, false, a_gst 4 78), (78, false, a_iload 4 80), (80, false, a_sld 81), (81, false, a_aald 82), (82, false, a_aload 0 83), (83, false, a_gi 6 6 6 86), (86, false, a_aload 2 87), (87, false, a_gr 5 2 90), (90, false, a_iload 4 92), (92, false, a_ald false 93), (93, false, a_ast false 94), (94, false, a_aload 0 95), (95, false, a_gr 6 4 98), (98, false, a_gst 5 101), (101, false, a_iload 4 103), (103, false, a_sld 104), (104, false, a_aald 105), (105, false, a_aload 0 106), (106, false, a_gi 6 6 6 109), (109, false, a_aload 0 110), (110, false, a_gr 6 7 113), (113, false, a_gr 2 1 116), (116, false, a_iload 4 118), (118, false, a_ald false 119), (119, false, a_ast false 120), (120, false, a_iinc 4 1 123), (123, false, a_goto 42), (126, false, a_aload 0 127), (127, false, a_dup 128), (128, false, a_gi 6 6 6 131), (131, false, a_const 1 132), (132, false, a_add 133), (133, false, a_pi 6 6 6 false 136), (136, false, a_aload 0 137), (137, false, a_gr 6 7 140), (140, false, a_aload 1 141), (141, false, a_aload 2 142), (142, false, a_cn X M_6_addSegment M_2_put 2 3 145), (145, false, a_ret M_6_addSegment)]
set_option maxRecDepth 20000 in
theorem t_6_addSegment (X : XT) : tget (tab_6_addSegment X) 0 = some (false, a_aload 0 1) ∧ tget (tab_6_addSegment X) 1 = some (false, a_gi 6 6 6 4) ∧ tget (tab_6_addSegment X) 4 = some (false, a_const 600 7) ∧ tget (tab_6_addSegment X) 7 = some (false, a_icmp 2 11 10) ∧ tget (tab_6_addSegment X) 10 = some (false, a_ret M_6_addSegment) ∧ tget (tab_6_addSegment X) 11 = some (false, a_aload 0 12) ∧ tget (tab_6_addSegment X) 12 = some (false, a_gr 6 4 15) ∧ tget (tab_6_addSegment X) 15 = some (false, a_const 0 16) ∧ tget (tab_6_addSegment X) 16 = some (false, a_aald 17) ∧ tget (tab_6_addSegment X) 17 = some (false, a_aload 0 18) ∧ tget (tab_6_addSegment X) 18 = some (false, a_gi 6 6 6 21) ∧ tget (tab_6_addSegment X) 21 = some (false, a_aload 2 22) ∧ tget (tab_6_addSegment X) 22 = some (false, a_gi 5 0 0 25) ∧ tget (tab_6_addSegment X) 25 = some (false, a_ast false 26) ∧ tget (tab_6_addSegment X) 26 = some (false, a_aload 0 27) ∧ tget (tab_6_addSegment X) 27 = some (false, a_gr 6 4 30) ∧ tget (tab_6_addSegment X) 30 = some (false, a_const 7 32) ∧ tget (tab_6_addSegment X) 32 = some (false, a_aald 33) ∧ tget (tab_6_addSegment X) 33 = some (false, a_aload 0 34) ∧ tget (tab_6_addSegment X) 34 = some (false, a_gi 6 6 6 37) ∧ tget (tab_6_addSegment X) 37 = some (false, a_iload 3 38) ∧ tget (tab_6_addSegment X) 38 = some (false, a_ast false 39) ∧ tget (tab_6_addSegment X) 39 = some (false, a_const 0 40) ∧ tget (tab_6_addSegment X) 40 = some (false, a_istore 4 42) ∧ tget (tab_6_addSegment X) 42 = some (false, a_iload 4 44) ∧ tget (tab_6_addSegment X) 44 = some (false, a_const 2 45) ∧ tget (tab_6_addSegment X) 45 = some (false, a_icmp 3 126 48) ∧ tget (tab_6_addSegment X) 48 = some (false, a_aload 0 49) ∧ tget (tab_6_addSegment X) 49 = some (false, a_gr 6 4 52) ∧ tget (tab_6_addSegment X) 52 = some (false, a_gst 3 55) ∧ tget (tab_6_addSegment X) 55 = some (false, a_iload 4 57) ∧ tget (tab_6_addSegment X) 57 = some (false, a_sld 58) ∧ tget (tab_6_addSegment X) 58 = some (false, a_aald 59) ∧ tget (tab_6_addSegment X) 59 = some (false, a_aload 0 60) ∧ tget (tab_6_addSegment X) 60 = some (false, a_gi 6 6 6 63) ∧ tget (tab_6_addSegment X) 63 = some (false, a_aload 2 64) ∧ tget (tab_6_addSegment X) 64 = some (false, a_gr 5 1 67) ∧ tget (tab_6_addSegment X) 67 = some (false, a_iload 4 69) ∧ tget (tab_6_addSegment X) 69 = some (false, a_ald false 70) ∧ tget (tab_6_addSegment X) 70 = some (false, a_ast false 71) ∧ tget (tab_6_addSegment X) 71 = some (false, a_aload 0 72) ∧ tget (tab_6_addSegment X) 72 = some (false, a_gr 6 4 75) ∧ tget (tab_6_addSegment X) 75 = some (false, a_gst 4 78) ∧ tget (tab_6_addSegment X) 78 = some (false, a_iload 4 80) ∧ tget (tab_6_addSegment X) 80 = some (false, a_sld 81) ∧ tget (tab_6_addSegment X) 81 = some (false, a_aald 82) ∧ tget (tab_6_addSegment X) 82 = some (false, a_aload 0 83) ∧ tget (tab_6_addSegment X) 83 = some (false, a_gi 6 6 6 86) ∧ tget (tab_6_addSegment X) 86 = some (false, a_aload 2 87) ∧ tget (tab_6_addSegment X) 87 = some (false, a_gr 5 2 90) ∧ tget (tab_6_addSegment X) 90 = some (false, a_iload 4 92) ∧ tget (tab_6_addSegment X) 92 = some (false, a_ald false 93) ∧ tget (tab_6_addSegment X) 93 = some (false, a_ast false 94) ∧ tget (tab_6_addSegment X) 94 = some (false, a_aload 0 95) ∧ tget (tab_6_addSegment X) 95 = some (false, a_gr 6 4 98) ∧ tget (tab_6_addSegment X) 98 = some (false, a_gst 5 101) ∧ tget (tab_6_addSegment X) 101 = some (false, a_iload 4 103) ∧ tget (tab_6_addSegment X) 103 = some (false, a_sld 104) ∧ tget (tab_6_addSegment X) 104 = some (false, a_aald 105) ∧ tget (tab_6_addSegment X) 105 = some (false, a_aload 0 106) ∧ tget (tab_6_addSegment X) 106 = some (false, a_gi 6 6 6 109) ∧ tget (tab_6_addSegment X) 109 = some (false, a_aload 0 110) ∧ tget (tab_6_addSegment X) 110 = some (false, a_gr 6 7 113) ∧ tget (tab_6_addSegment X) 113 = some (false, a_gr 2 1 116) ∧ tget (tab_6_addSegment X) 116 = some (false, a_iload 4 118) ∧ tget (tab_6_addSegment X) 118 = some (false, a_ald false 119) ∧ tget (tab_6_addSegment X) 119 = some (false, a_ast false 120) ∧ tget (tab_6_addSegment X) 120 = some (false, a_iinc 4 1 123) ∧ tget (tab_6_addSegment X) 123 = some (false, a_goto 42) ∧ tget (tab_6_addSegment X) 126 = some (false, a_aload 0 127) ∧ tget (tab_6_addSegment X) 127 = some (false, a_dup 128) ∧ tget (tab_6_addSegment X) 128 = some (false, a_gi 6 6 6 131) ∧ tget (tab_6_addSegment X) 131 = some (false, a_const 1 132) ∧ tget (tab_6_addSegment X) 132 = some (false, a_add 133) ∧ tget (tab_6_addSegment X) 133 = some (false, a_pi 6 6 6 false 136) ∧ tget (tab_6_addSegment X) 136 = some (false, a_aload 0 137) ∧ tget (tab_6_addSegment X) 137 = some (false, a_gr 6 7 140) ∧ tget (tab_6_addSegment X) 140 = some (false, a_aload 1 141) ∧ tget (tab_6_addSegment X) 141 = some (false, a_aload 2 142) ∧ tget (tab_6_addSegment X) 142 = some (false, a_cn X M_6_addSegment M_2_put 2 3 145) ∧ tget (tab_6_addSegment X) 145 = some (false, a_ret M_6_addSegment) := ⟨rfl, rfl, rfl, rfl, rfl, rfl, rfl, rfl, rfl, rfl, rfl, rfl, rfl, rfl, rfl, rfl, rfl, rfl, rfl, rfl, rfl, rfl, rfl, rfl, rfl, rfl, rfl, rfl, rfl, rfl, rfl, rfl, rfl, rfl, rfl, rfl, rfl, rfl, rfl, rfl, rfl, rfl, rfl, rfl, rfl, rfl, rfl, rfl, rfl, rfl, rfl, rfl, rfl, rfl, rfl, rfl, rfl, rfl, rfl, rfl, rfl, rfl, rfl, rfl, rfl, rfl, rfl, rfl, rfl, rfl, rfl, rfl, rfl, rfl, rfl, rfl, rfl, rfl, rfl, rfl, rfl⟩
theorem tok_6_addSegment (X : XT) : TabOK X M_6_addSegment (tab_6_addSegment X) := by
  unfold tab_6_addSegment
  refine tok_cons (snd_aload_n dX6_addSegment_0 rfl rfl) ?_
  refine tok_cons (snd_gi (C := RX6) (T := TX6) (N := 11) dX6_addSegment_1 rfl (by decide) rfl wf6_53 inX6 rfl rfl) ?_
  refine tok_cons (snd_sipush dX6_addSegment_4 (by decide) (inr_d rfl) rfl) ?_
  refine tok_cons (snd_icmp_lt dX6_addSegment_7 (by decide) rfl) ?_
  refine tok_cons (snd_ret dX6_addSegment_10 rfl) ?_
  refine tok_cons (snd_aload_n dX6_addSegment_11 rfl rfl) ?_
  refine tok_cons (snd_gr (C := RX6) (T := TX6) (N := 11) dX6_addSegment_12 rfl (by decide) rfl wf6_24 inX6 rfl) ?_
  refine tok_cons (snd_iconst dX6_addSegment_15 rfl (inr_d rfl) rfl) ?_
  refine tok_cons (snd_aald dX6_addSegment_16 rfl) ?_
  refine tok_cons (snd_aload_n dX6_addSegment_17 rfl rfl) ?_
  refine tok_cons (snd_gi (C := RX6) (T := TX6) (N := 11) dX6_addSegment_18 rfl (by decide) rfl wf6_53 inX6 rfl rfl) ?_
  refine tok_cons (snd_aload_n dX6_addSegment_21 rfl rfl) ?_
  refine tok_cons (snd_gi (C := RX5) (T := TX5) (N := 3) dX6_addSegment_22 rfl (by decide) rfl wf6_64 inX5 rfl rfl) ?_
  refine tok_cons (snd_iast dX6_addSegment_25 rfl) ?_
  refine tok_cons (snd_aload_n dX6_addSegment_26 rfl rfl) ?_
  refine tok_cons (snd_gr (C := RX6) (T := TX6) (N := 11) dX6_addSegment_27 rfl (by decide) rfl wf6_24 inX6 rfl) ?_
  refine tok_cons (snd_bipush dX6_addSegment_30 (by decide) (inr_d rfl) rfl) ?_
  refine tok_cons (snd_aald dX6_addSegment_32 rfl) ?_
  refine tok_cons (snd_aload_n dX6_addSegment_33 rfl rfl) ?_
  refine tok_cons (snd_gi (C := RX6) (T := TX6) (N := 11) dX6_addSegment_34 rfl (by decide) rfl wf6_53 inX6 rfl rfl) ?_
  refine tok_cons (snd_iload_n dX6_addSegment_37 rfl rfl) ?_
  refine tok_cons (snd_iast dX6_addSegment_38 rfl) ?_
  refine tok_cons (snd_iconst dX6_addSegment_39 rfl (inr_d rfl) rfl) ?_
  refine tok_cons (snd_istore dX6_addSegment_40 rfl (by decide)) ?_
  refine tok_cons (snd_iload dX6_addSegment_42 rfl) ?_
  refine tok_cons (snd_iconst dX6_addSegment_44 rfl (inr_d rfl) rfl) ?_
  refine tok_cons (snd_icmp_ge dX6_addSegment_45 (by decide) rfl) ?_
  refine tok_cons (snd_aload_n dX6_addSegment_48 rfl rfl) ?_
  refine tok_cons (snd_gr (C := RX6) (T := TX6) (N := 11) dX6_addSegment_49 rfl (by decide) rfl wf6_24 inX6 rfl) ?_
  refine tok_cons (snd_gstN dX6_addSegment_52 (by decide) rfl (List.mem_of_getElem? (i := 1) rfl) rfl) ?_
  refine tok_cons (snd_iload dX6_addSegment_55 rfl) ?_
  refine tok_cons (snd_sld dX6_addSegment_57 rfl) ?_
  refine tok_cons (snd_aald dX6_addSegment_58 rfl) ?_
  refine tok_cons (snd_aload_n dX6_addSegment_59 rfl rfl) ?_
  refine tok_cons (snd_gi (C := RX6) (T := TX6) (N := 11) dX6_addSegment_60 rfl (by decide) rfl wf6_53 inX6 rfl rfl) ?_
  refine tok_cons (snd_aload_n dX6_addSegment_63 rfl rfl) ?_
  refine tok_cons (snd_gr (C := RX5) (T := TX5) (N := 3) dX6_addSegment_64 rfl (by decide) rfl wf6_145 inX5 rfl) ?_
  refine tok_cons (snd_iload dX6_addSegment_67 rfl) ?_
  refine tok_cons (snd_iald dX6_addSegment_69 rfl) ?_
  refine tok_cons (snd_iast dX6_addSegment_70 rfl) ?_
  refine tok_cons (snd_aload_n dX6_addSegment_71 rfl rfl) ?_
  refine tok_cons (snd_gr (C := RX6) (T := TX6) (N := 11) dX6_addSegment_72 rfl (by decide) rfl wf6_24 inX6 rfl) ?_
  refine tok_cons (snd_gstN dX6_addSegment_75 (by decide) rfl (List.mem_of_getElem? (i := 2) rfl) rfl) ?_
  refine tok_cons (snd_iload dX6_addSegment_78 rfl) ?_
  refine tok_cons (snd_sld dX6_addSegment_80 rfl) ?_
  refine tok_cons (snd_aald dX6_addSegment_81 rfl) ?_
  refine tok_cons (snd_aload_n dX6_addSegment_82 rfl rfl) ?_
  refine tok_cons (snd_gi (C := RX6) (T := TX6) (N := 11) dX6_addSegment_83 rfl (by decide) rfl wf6_53 inX6 rfl rfl) ?_
  refine tok_cons (snd_aload_n dX6_addSegment_86 rfl rfl) ?_
  refine tok_cons (snd_gr (C := RX5) (T := TX5) (N := 3) dX6_addSegment_87 rfl (by decide) rfl wf6_126 inX5 rfl) ?_
  refine tok_cons (snd_iload dX6_addSegment_90 rfl) ?_
  refine tok_cons (snd_iald dX6_addSegment_92 rfl) ?_
  refine tok_cons (snd_iast dX6_addSegment_93 rfl) ?_
  refine tok_cons (snd_aload_n dX6_addSegment_94 rfl rfl) ?_
  refine tok_cons (snd_gr (C := RX6) (T := TX6) (N := 11) dX6_addSegment_95 rfl (by decide) rfl wf6_24 inX6 rfl) ?_
  refine tok_cons (snd_gstN dX6_addSegment_98 (by decide) rfl (List.mem_of_getElem? (i := 3) rfl) rfl) ?_
  refine tok_cons (snd_iload dX6_addSegment_101 rfl) ?_
  refine tok_cons (snd_sld dX6_addSegment_103 rfl) ?_
  refine tok_cons (snd_aald dX6_addSegment_104 rfl) ?_
  refine tok_cons (snd_aload_n dX6_addSegment_105 rfl rfl) ?_
  refine tok_cons (snd_gi (C := RX6) (T := TX6) (N := 11) dX6_addSegment_106 rfl (by decide) rfl wf6_53 inX6 rfl rfl) ?_
  refine tok_cons (snd_aload_n dX6_addSegment_109 rfl rfl) ?_
  refine tok_cons (snd_gr (C := RX6) (T := TX6) (N := 11) dX6_addSegment_110 rfl (by decide) rfl wf6_33 inX6 rfl) ?_
  refine tok_cons (snd_gr (C := RX2) (T := TX2) (N := 7) dX6_addSegment_113 rfl (by decide) rfl wf6_129 inX2 rfl) ?_
  refine tok_cons (snd_iload dX6_addSegment_116 rfl) ?_
  refine tok_cons (snd_iald dX6_addSegment_118 rfl) ?_
  refine tok_cons (snd_iast dX6_addSegment_119 rfl) ?_
  refine tok_cons (snd_iinc dX6_addSegment_120 rfl rfl (by decide)) ?_
  refine tok_cons (snd_goto dX6_addSegment_123 (by decide)) ?_
  refine tok_cons (snd_aload_n dX6_addSegment_126 rfl rfl) ?_
  refine tok_cons (snd_dup dX6_addSegment_127 rfl) ?_
  refine tok_cons (snd_gi (C := RX6) (T := TX6) (N := 11) dX6_addSegment_128 rfl (by decide) rfl wf6_53 inX6 rfl rfl) ?_
  refine tok_cons (snd_iconst dX6_addSegment_131 rfl (inr_d rfl) rfl) ?_
  refine tok_cons (snd_add dX6_addSegment_132 rfl) ?_
  refine tok_cons (snd_pi (C := RX6) (T := TX6) (N := 11) (ty0 := tyX6) dX6_addSegment_133 rfl (by decide) rfl wf6_53 inX6 tyX6_ok nmX6 (by decide +kernel) rfl rfl) ?_
  refine tok_cons (snd_aload_n dX6_addSegment_136 rfl rfl) ?_
  refine tok_cons (snd_gr (C := RX6) (T := TX6) (N := 11) dX6_addSegment_137 rfl (by decide) rfl wf6_33 inX6 rfl) ?_
  refine tok_cons (snd_aload_n dX6_addSegment_140 rfl rfl) ?_
  refine tok_cons (snd_aload_n dX6_addSegment_141 rfl rfl) ?_
  refine tok_cons (snd_cn dX6_addSegment_142 mok_2_put ⟨wm6_116, wi_2_put, wl_2_put⟩ (rc := (RX2, TX2, 7)) rfl rfl pn_2_put (by decide) ⟨rfl, rfl⟩ rfl) ?_
  refine tok_cons (snd_ret dX6_addSegment_145 rfl) ?_
  exact tok_nil
def tab_6_endSpread (X : XT) : Tab := [(0, false, a_const 0 1), (1, false, a_istore 2 2), (2, false, a_iload 2 3), (3, false, a_const 2 4), (4, false, a_icmp 3 202 7), (7, false, a_const 2 8), (8, false, a_aload 0 9), (9, false, a_gi 6 1 1 12), (12, false, a_mul 13), (13, false, a_iload 2 14), (14, false, a_add 15), (15, false, a_istore 3 16), (16, false, a_aload 0 17), (17, false, a_gr 6 7 20), (20, false, a_iload 2 21), (21, false, a_aload 1 22), (22, false, a_aload 0 23), (23, false, a_gi 6 0 0 26), (26, false, a_cv X M_6_endSpread M_2_carriedFrom 2 4 29), (29, false, a_istore 4 31), (31, false, a_aload 0 32), (32, false, a_gr 6 7 35), (35, false, a_iload 2 36), (36, false, a_aload 1 37), (37, false, a_gr 1 4 40), (40, false, a_const 2 41), (41, false, a_ald false 42), (42, false, a_iload 4 44), (44, false, a_cv X M_6_endSpread M_2_noteRows 2 4 47), (47, false, a_istore 5 49), (49, false, a_aload 0 50), (50, false, a_gr 6 5 53), (53, false, a_const 0 54), (54, false, a_aald 55), (55, false, a_iload 3 56), (56, false, a_aload 0 57), (57, false, a_gr 6 7 60), (60, false, a_gr 2 0 63), (63, false, a_iload 2 64), (64, false, a_ald false 65), (65, false, a_ast false 66), (66, false, a_aload 0 67), (67, false, a_gr 6 5 70), (70, false, a_const 1 71), (71, false, a_aald 72), (72, false, a_iload 3 73), (73, false, a_iload 5 75), (75, false, a_ast false 76), (76, false, a_aload 0 77), (77, false, a_gr 6 5 80), (80, false, a_const 2 81), (81, false, a_aald 82), (82, false, a_iload 3 83), (83, false, a_const 0 84), (84, false, a_aload 0 85), (85, false, a_gi 6 0 0 88), (88, false, a_aload 0 89), (89, false, a_gr 6 7 92), (92, false, a_gr 2 0 95), (95, false, a_iload 2 96), (96, false, a_ald false 97), (97, false, a_sub 98), (98, false, a_iload 5 100), (100, false, a_sub 101), (101, false, a_max M_6_endSpread 104), (104, false, a_ast false 105), (105, false, a_aload 0 106), (106, false, a_gr 6 5 109), (109, false, a_const 3 110), (110, false, a_aald 111), (111, false, a_iload 3 112), (112, false, a_aload 0 113), (113, false, a_gr 6 7 116), (116, false, a_gr 2 2 119), (119, false, a_iload 2 120), (120, false, a_ald false 121), (121, false, a_ast false 122), (122, false, a_aload 0 123), (123, false, a_gr 6 5 126), (126, false, a_const 4 127), (127, false, a_aald 128), (128, false, a_iload 3 129), (129, false, a_iload 4 131), (131, false, a_ast false 132), (132, false, a_aload 0 133), (133, false, a_gr 6 5 136), (136, false, a_const 5 137), (137, false, a_aald 138), (138, false, a_iload 3 139), (139, false, a_aload 0 140), (140, false, a_gr 6 7 143), (143, false, a_gr 2 4 146), (146, false, a_iload 2 147), (147, false, a_ald false 148), (148, false, a_ast false 149), (149, false, a_aload 0 150), (150, false, a_gr 6 5 153), (153, false, a_const 6 155), (155, false, a_aald 156), (156, false, a_iload 3 157), (157, false, a_aload 0 158), (158, false, a_gr 6 7 161), (161, false, a_gr 2 3 164), (164, false, a_iload 2 165), (165, false, a_ald false 166), (166, false, a_ast false 167), (167, false, a_aload 0 168), (168, false, a_gr 6 7 171), (171, false, a_iload 2 172), (172, false, a_iload 4 174), (174, false, a_aload 0 175), (175, false, a_gr 6 7 178), (178, false, a_gr 2 3 181), (181, false, a_iload 2 182), (182, false, a_ald false 183), (183, false, a_aload 0 184), (184, false, a_gr 6 7 187), (187, false, a_gr 2 4 190), (190, false, a_iload 2 191), (191, false, a_ald false 192), (192, false, a_add 193), (193, false, a_cn X M_6_endSpread M_2_turn 2 4 196), (196, false, a_iinc 2 1 199), (199, false, a_goto 2), (202, false, a_aload 0 203), (203, false, a_dup 204), (204, false, a_gi 6 1 1 207), (207, false, a_const 1 208), (208, false, a_add 209), (209, false, a_pi 6 1 1 false 212), (212, false, a_aload 0 213), (213, false, a_gr 6 2 216), (216, false, a_aload 0 217), (217, false, a_gi 6 1 1 220), (220, false, a_aload 0 221), (221, false, a_gi 6 6 6 224), (224, false, a_ast false 225), (225, false, a_ret M_6_endSpread)]
set_option maxRecDepth 20000 in
theorem t_6_endSpread (X : XT) : tget (tab_6_endSpread X) 0 = some (false, a_const 0 1) ∧ tget (tab_6_endSpread X) 1 = some (false, a_istore 2 2) ∧ tget (tab_6_endSpread X) 2 = some (false, a_iload 2 3) ∧ tget (tab_6_endSpread X) 3 = some (false, a_const 2 4) ∧ tget (tab_6_endSpread X) 4 = some (false, a_icmp 3 202 7) ∧ tget (tab_6_endSpread X) 7 = some (false, a_const 2 8) ∧ tget (tab_6_endSpread X) 8 = some (false, a_aload 0 9) ∧ tget (tab_6_endSpread X) 9 = some (false, a_gi 6 1 1 12) ∧ tget (tab_6_endSpread X) 12 = some (false, a_mul 13) ∧ tget (tab_6_endSpread X) 13 = some (false, a_iload 2 14) ∧ tget (tab_6_endSpread X) 14 = some (false, a_add 15) ∧ tget (tab_6_endSpread X) 15 = some (false, a_istore 3 16) ∧ tget (tab_6_endSpread X) 16 = some (false, a_aload 0 17) ∧ tget (tab_6_endSpread X) 17 = some (false, a_gr 6 7 20) ∧ tget (tab_6_endSpread X) 20 = some (false, a_iload 2 21) ∧ tget (tab_6_endSpread X) 21 = some (false, a_aload 1 22) ∧ tget (tab_6_endSpread X) 22 = some (false, a_aload 0 23) ∧ tget (tab_6_endSpread X) 23 = some (false, a_gi 6 0 0 26) ∧ tget (tab_6_endSpread X) 26 = some (false, a_cv X M_6_endSpread M_2_carriedFrom 2 4 29) ∧ tget (tab_6_endSpread X) 29 = some (false, a_istore 4 31) ∧ tget (tab_6_endSpread X) 31 = some (false, a_aload 0 32) ∧ tget (tab_6_endSpread X) 32 = some (false, a_gr 6 7 35) ∧ tget (tab_6_endSpread X) 35 = some (false, a_iload 2 36) ∧ tget (tab_6_endSpread X) 36 = some (false, a_aload 1 37) ∧ tget (tab_6_endSpread X) 37 = some (false, a_gr 1 4 40) ∧ tget (tab_6_endSpread X) 40 = some (false, a_const 2 41) ∧ tget (tab_6_endSpread X) 41 = some (false, a_ald false 42) ∧ tget (tab_6_endSpread X) 42 = some (false, a_iload 4 44) ∧ tget (tab_6_endSpread X) 44 = some (false, a_cv X M_6_endSpread M_2_noteRows 2 4 47) ∧ tget (tab_6_endSpread X) 47 = some (false, a_istore 5 49) ∧ tget (tab_6_endSpread X) 49 = some (false, a_aload 0 50) ∧ tget (tab_6_endSpread X) 50 = some (false, a_gr 6 5 53) ∧ tget (tab_6_endSpread X) 53 = some (false, a_const 0 54) ∧ tget (tab_6_endSpread X) 54 = some (false, a_aald 55) ∧ tget (tab_6_endSpread X) 55 = some (false, a_iload 3 56) ∧ tget (tab_6_endSpread X) 56 = some (false, a_aload 0 57) ∧ tget (tab_6_endSpread X) 57 = some (false, a_gr 6 7 60) ∧ tget (tab_6_endSpread X) 60 = some (false, a_gr 2 0 63) ∧ tget (tab_6_endSpread X) 63 = some (false, a_iload 2 64) ∧ tget (tab_6_endSpread X) 64 = some (false, a_ald false 65) ∧ tget (tab_6_endSpread X) 65 = some (false, a_ast false 66) ∧ tget (tab_6_endSpread X) 66 = some (false, a_aload 0 67) ∧ tget (tab_6_endSpread X) 67 = some (false, a_gr 6 5 70) ∧ tget (tab_6_endSpread X) 70 = some (false, a_const 1 71) ∧ tget (tab_6_endSpread X) 71 = some (false, a_aald 72) ∧ tget (tab_6_endSpread X) 72 = some (false, a_iload 3 73) ∧ tget (tab_6_endSpread X) 73 = some (false, a_iload 5 75) ∧ tget (tab_6_endSpread X) 75 = some (false, a_ast false 76) ∧ tget (tab_6_endSpread X) 76 = some (false, a_aload 0 77) ∧ tget (tab_6_endSpread X) 77 = some (false, a_gr 6 5 80) ∧ tget (tab_6_endSpread X) 80 = some (false, a_const 2 81) ∧ tget (tab_6_endSpread X) 81 = some (false, a_aald 82) ∧ tget (tab_6_endSpread X) 82 = some (false, a_iload 3 83) ∧ tget (tab_6_endSpread X) 83 = some (false, a_const 0 84) ∧ tget (tab_6_endSpread X) 84 = some (false, a_aload 0 85) ∧ tget (tab_6_endSpread X) 85 = some (false, a_gi 6 0 0 88) ∧ tget (tab_6_endSpread X) 88 = some (false, a_aload 0 89) ∧ tget (tab_6_endSpread X) 89 = some (false, a_gr 6 7 92) ∧ tget (tab_6_endSpread X) 92 = some (false, a_gr 2 0 95) ∧ tget (tab_6_endSpread X) 95 = some (false, a_iload 2 96) ∧ tget (tab_6_endSpread X) 96 = some (false, a_ald false 97) ∧ tget (tab_6_endSpread X) 97 = some (false, a_sub 98) ∧ tget (tab_6_endSpread X) 98 = some (false, a_iload 5 100) ∧ tget (tab_6_endSpread X) 100 = some (false, a_sub 101) ∧ tget (tab_6_endSpread X) 101 = some (false, a_max M_6_endSpread 104) ∧ tget (tab_6_endSpread X) 104 = some (false, a_ast false 105) ∧ tget (tab_6_endSpread X) 105 = some (false, a_aload 0 106) ∧ tget (tab_6_endSpread X) 106 = some (false, a_gr 6 5 109) ∧ tget (tab_6_endSpread X) 109 = some (false, a_const 3 110) ∧ tget (tab_6_endSpread X) 110 = some (false, a_aald 111) ∧ tget (tab_6_endSpread X) 111 = some (false, a_iload 3 112) ∧ tget (tab_6_endSpread X) 112 = some (false, a_aload 0 113) ∧ tget (tab_6_endSpread X) 113 = some (false, a_gr 6 7 116) ∧ tget (tab_6_endSpread X) 116 = some (false, a_gr 2 2 119) ∧ tget (tab_6_endSpread X) 119 = some (false, a_iload 2 120) ∧ tget (tab_6_endSpread X) 120 = some (false, a_ald false 121) ∧ tget (tab_6_endSpread X) 121 = some (false, a_ast false 122) ∧ tget (tab_6_endSpread X) 122 = some (false, a_aload 0 123) ∧ tget (tab_6_endSpread X) 123 = some (false, a_gr 6 5 126) ∧ tget (tab_6_endSpread X) 126 = some (false, a_const 4 127) ∧ tget (tab_6_endSpread X) 127 = some (false, a_aald 128) ∧ tget (tab_6_endSpread X) 128 = some (false, a_iload 3 129) ∧ tget (tab_6_endSpread X) 129 = some (false, a_iload 4 131) ∧ tget (tab_6_endSpread X) 131 = some (false, a_ast false 132) ∧ tget (tab_6_endSpread X) 132 = some (false, a_aload 0 133) ∧ tget (tab_6_endSpread X) 133 = some (false, a_gr 6 5 136) ∧ tget (tab_6_endSpread X) 136 = some (false, a_const 5 137) ∧ tget (tab_6_endSpread X) 137 = some (false, a_aald 138) ∧ tget (tab_6_endSpread X) 138 = some (false, a_iload 3 139) ∧ tget (tab_6_endSpread X) 139 = some (false, a_aload 0 140) ∧ tget (tab_6_endSpread X) 140 = some (false, a_gr 6 7 143) ∧ tget (tab_6_endSpread X) 143 = some (false, a_gr 2 4 146) ∧ tget (tab_6_endSpread X) 146 = some (false, a_iload 2 147) ∧ tget (tab_6_endSpread X) 147 = some (false, a_ald false 148) ∧ tget (tab_6_endSpread X) 148 = some (false, a_ast false 149) ∧ tget (tab_6_endSpread X) 149 = some (false, a_aload 0 150) ∧ tget (tab_6_endSpread X) 150 = some (false, a_gr 6 5 153) ∧ tget (tab_6_endSpread X) 153 = some (false, a_const 6 155) ∧ tget (tab_6_endSpread X) 155 = some (false, a_aald 156) ∧ tget (tab_6_endSpread X) 156 = some (false, a_iload 3 157) ∧ tget (tab_6_endSpread X) 157 = some (false, a_aload 0 158) ∧ tget (tab_6_endSpread X) 158 = some (false, a_gr 6 7 161) ∧ tget (tab_6_endSpread X) 161 = some (false, a_gr 2 3 164) ∧ tget (tab_6_endSpread X) 164 = some (false, a_iload 2 165) ∧ tget (tab_6_endSpread X) 165 = some (false, a_ald false 166) ∧ tget (tab_6_endSpread X) 166 = some (false, a_ast false 167) ∧ tget (tab_6_endSpread X) 167 = some (false, a_aload 0 168) ∧ tget (tab_6_endSpread X) 168 = some (false, a_gr 6 7 171) ∧ tget (tab_6_endSpread X) 171 = some (false, a_iload 2 172) ∧ tget (tab_6_endSpread X) 172 = some (false, a_iload 4 174) ∧ tget (tab_6_endSpread X) 174 = some (false, a_aload 0 175) ∧ tget (tab_6_endSpread X) 175 = some (false, a_gr 6 7 178) ∧ tget (tab_6_endSpread X) 178 = some (false, a_gr 2 3 181) ∧ tget (tab_6_endSpread X) 181 = some (false, a_iload 2 182) ∧ tget (tab_6_endSpread X) 182 = some (false, a_ald false 183) ∧ tget (tab_6_endSpread X) 183 = some (false, a_aload 0 184) ∧ tget (tab_6_endSpread X) 184 = some (false, a_gr 6 7 187) ∧ tget (tab_6_endSpread X) 187 = some (false, a_gr 2 4 190) ∧ tget (tab_6_endSpread X) 190 = some (false, a_iload 2 191) ∧ tget (tab_6_endSpread X) 191 = some (false, a_ald false 192) ∧ tget (tab_6_endSpread X) 192 = some (false, a_add 193) ∧ tget (tab_6_endSpread X) 193 = some (false, a_cn X M_6_endSpread M_2_turn 2 4 196) ∧ tget (tab_6_endSpread X) 196 = some (false, a_iinc 2 1 199) ∧ tget (tab_6_endSpread X) 199 = some (false, a_goto 2) ∧ tget (tab_6_endSpread X) 202 = some (false, a_aload 0 203) ∧ tget (tab_6_endSpread X) 203 = some (false, a_dup 204) ∧ tget (tab_6_endSpread X) 204 = some (false, a_gi 6 1 1 207) ∧ tget (tab_6_endSpread X) 207 = some (false, a_const 1 208) ∧ tget (tab_6_endSpread X) 208 = some (false, a_add 209) ∧ tget (tab_6_endSpread X) 209 = some (false, a_pi 6 1 1 false 212) ∧ tget (tab_6_endSpread X) 212 = some (false, a_aload 0 213) ∧ tget (tab_6_endSpread X) 213 = some (false, a_gr 6 2 216) ∧ tget (tab_6_endSpread X) 216 = some (false, a_aload 0 217) ∧ tget (tab_6_endSpread X) 217 = some (false, a_gi 6 1 1 220) ∧ tget (tab_6_endSpread X) 220 = some (false, a_aload 0 221) ∧ tget (tab_6_endSpread X) 221 = some (false, a_gi 6 6 6 224) ∧ tget (tab_6_endSpread X) 224 = some (false, a_ast false 225) ∧ tget (tab_6_endSpread X) 225 = some (false, a_ret M_6_endSpread) := ⟨rfl, rfl, rfl, rfl, rfl, rfl, rfl, rfl, rfl, rfl, rfl, rfl, rfl, rfl, rfl, rfl, rfl, rfl, rfl, rfl, rfl, rfl, rfl, rfl, rfl, rfl, rfl, rfl, rfl, rfl, rfl, rfl, rfl, rfl, rfl, rfl, rfl, rfl, rfl, rfl, rfl, rfl, rfl, rfl, rfl, rfl, rfl, rfl, rfl, rfl, rfl, rfl, rfl, rfl, rfl, rfl, rfl, rfl, rfl, rfl, rfl, rfl, rfl, rfl, rfl, rfl, rfl, rfl, rfl, rfl, rfl, rfl, rfl, rfl, rfl, rfl, rfl, rfl, rfl, rfl, rfl, rfl, rfl, rfl, rfl, rfl, rfl, rfl, rfl, rfl, rfl, rfl, rfl, rfl, rfl, rfl, rfl, rfl, rfl, rfl, rfl, rfl, rfl, rfl, rfl, rfl, rfl, rfl, rfl, rfl, rfl, rfl, rfl, rfl, rfl, rfl, rfl, rfl, rfl, rfl, rfl, rfl, rfl, rfl, rfl, rfl, rfl, rfl, rfl, rfl, rfl, rfl, rfl, rfl, rfl, rfl, rfl, rfl⟩
theorem tok_6_endSpread (X : XT) : TabOK X M_6_endSpread (tab_6_endSpread X) := by
  unfold tab_6_endSpread
  refine tok_cons (snd_iconst dX6_endSpread_0 rfl (inr_d rfl) rfl) ?_
  refine tok_cons (snd_istore_n dX6_endSpread_1 rfl rfl (by decide)) ?_
  refine tok_cons (snd_iload_n dX6_endSpread_2 rfl rfl) ?_
  refine tok_cons (snd_iconst dX6_endSpread_3 rfl (inr_d rfl) rfl) ?_
  refine tok_cons (snd_icmp_ge dX6_endSpread_4 (by decide) rfl) ?_
  refine tok_cons (snd_iconst dX6_endSpread_7 rfl (inr_d rfl) rfl) ?_
  refine tok_cons (snd_aload_n dX6_endSpread_8 rfl rfl) ?_
  refine tok_cons (snd_gi (C := RX6) (T := TX6) (N := 11) dX6_endSpread_9 rfl (by decide) rfl wf6_50 inX6 rfl rfl) ?_
  refine tok_cons (snd_mul dX6_endSpread_12 rfl) ?_
  refine tok_cons (snd_iload_n dX6_endSpread_13 rfl rfl) ?_
  refine tok_cons (snd_add dX6_endSpread_14 rfl) ?_
  refine tok_cons (snd_istore_n dX6_endSpread_15 rfl rfl (by decide)) ?_
  refine tok_cons (snd_aload_n dX6_endSpread_16 rfl rfl) ?_
  refine tok_cons (snd_gr (C := RX6) (T := TX6) (N := 11) dX6_endSpread_17 rfl (by decide) rfl wf6_33 inX6 rfl) ?_
  refine tok_cons (snd_iload_n dX6_endSpread_20 rfl rfl) ?_
  refine tok_cons (snd_aload_n dX6_endSpread_21 rfl rfl) ?_
  refine tok_cons (snd_aload_n dX6_endSpread_22 rfl rfl) ?_
  refine tok_cons (snd_gi (C := RX6) (T := TX6) (N := 11) dX6_endSpread_23 rfl (by decide) rfl wf6_11 inX6 rfl rfl) ?_
  refine tok_cons (snd_cv dX6_endSpread_26 mok_2_carriedFrom ⟨wm6_154, wi_2_carriedFrom, wl_2_carriedFrom⟩ (rc := (RX2, TX2, 7)) rfl rfl pn_2_carriedFrom (by decide) ⟨rfl, rfl⟩ rfl) ?_
  refine tok_cons (snd_istore dX6_endSpread_29 rfl (by decide)) ?_
  refine tok_cons (snd_aload_n dX6_endSpread_31 rfl rfl) ?_
  refine tok_cons (snd_gr (C := RX6) (T := TX6) (N := 11) dX6_endSpread_32 rfl (by decide) rfl wf6_33 inX6 rfl) ?_
  refine tok_cons (snd_iload_n dX6_endSpread_35 rfl rfl) ?_
  refine tok_cons (snd_aload_n dX6_endSpread_36 rfl rfl) ?_
  refine tok_cons (snd_gr (C := RX1) (T := TX1) (N := 5) dX6_endSpread_37 rfl (by decide) rfl wf6_120 inX1 rfl) ?_
  refine tok_cons (snd_iconst dX6_endSpread_40 rfl (inr_d rfl) rfl) ?_
  refine tok_cons (snd_iald dX6_endSpread_41 rfl) ?_
  refine tok_cons (snd_iload dX6_endSpread_42 rfl) ?_
  refine tok_cons (snd_cv dX6_endSpread_44 mok_2_noteRows ⟨wm6_158, wi_2_noteRows, wl_2_noteRows⟩ (rc := (RX2, TX2, 7)) rfl rfl pn_2_noteRows (by decide) ⟨rfl, rfl⟩ rfl) ?_
  refine tok_cons (snd_istore dX6_endSpread_47 rfl (by decide)) ?_
  refine tok_cons (snd_aload_n dX6_endSpread_49 rfl rfl) ?_
  refine tok_cons (snd_gr (C := RX6) (T := TX6) (N := 11) dX6_endSpread_50 rfl (by decide) rfl wf6_27 inX6 rfl) ?_
  refine tok_cons (snd_iconst dX6_endSpread_53 rfl (inr_d rfl) rfl) ?_
  refine tok_cons (snd_aald dX6_endSpread_54 rfl) ?_
  refine tok_cons (snd_iload_n dX6_endSpread_55 rfl rfl) ?_
  refine tok_cons (snd_aload_n dX6_endSpread_56 rfl rfl) ?_
  refine tok_cons (snd_gr (C := RX6) (T := TX6) (N := 11) dX6_endSpread_57 rfl (by decide) rfl wf6_33 inX6 rfl) ?_
  refine tok_cons (snd_gr (C := RX2) (T := TX2) (N := 7) dX6_endSpread_60 rfl (by decide) rfl wf6_162 inX2 rfl) ?_
  refine tok_cons (snd_iload_n dX6_endSpread_63 rfl rfl) ?_
  refine tok_cons (snd_iald dX6_endSpread_64 rfl) ?_
  refine tok_cons (snd_iast dX6_endSpread_65 rfl) ?_
  refine tok_cons (snd_aload_n dX6_endSpread_66 rfl rfl) ?_
  refine tok_cons (snd_gr (C := RX6) (T := TX6) (N := 11) dX6_endSpread_67 rfl (by decide) rfl wf6_27 inX6 rfl) ?_
  refine tok_cons (snd_iconst dX6_endSpread_70 rfl (inr_d rfl) rfl) ?_
  refine tok_cons (snd_aald dX6_endSpread_71 rfl) ?_
  refine tok_cons (snd_iload_n dX6_endSpread_72 rfl rfl) ?_
  refine tok_cons (snd_iload dX6_endSpread_73 rfl) ?_
  refine tok_cons (snd_iast dX6_endSpread_75 rfl) ?_
  refine tok_cons (snd_aload_n dX6_endSpread_76 rfl rfl) ?_
  refine tok_cons (snd_gr (C := RX6) (T := TX6) (N := 11) dX6_endSpread_77 rfl (by decide) rfl wf6_27 inX6 rfl) ?_
  refine tok_cons (snd_iconst dX6_endSpread_80 rfl (inr_d rfl) rfl) ?_
  refine tok_cons (snd_aald dX6_endSpread_81 rfl) ?_
  refine tok_cons (snd_iload_n dX6_endSpread_82 rfl rfl) ?_
  refine tok_cons (snd_iconst dX6_endSpread_83 rfl (inr_d rfl) rfl) ?_
  refine tok_cons (snd_aload_n dX6_endSpread_84 rfl rfl) ?_
  refine tok_cons (snd_gi (C := RX6) (T := TX6) (N := 11) dX6_endSpread_85 rfl (by decide) rfl wf6_11 inX6 rfl rfl) ?_
  refine tok_cons (snd_aload_n dX6_endSpread_88 rfl rfl) ?_
  refine tok_cons (snd_gr (C := RX6) (T := TX6) (N := 11) dX6_endSpread_89 rfl (by decide) rfl wf6_33 inX6 rfl) ?_
  refine tok_cons (snd_gr (C := RX2) (T := TX2) (N := 7) dX6_endSpread_92 rfl (by decide) rfl wf6_162 inX2 rfl) ?_
  refine tok_cons (snd_iload_n dX6_endSpread_95 rfl rfl) ?_
  refine tok_cons (snd_iald dX6_endSpread_96 rfl) ?_
  refine tok_cons (snd_sub dX6_endSpread_97 rfl) ?_
  refine tok_cons (snd_iload dX6_endSpread_98 rfl) ?_
  refine tok_cons (snd_sub dX6_endSpread_100 rfl) ?_
  refine tok_cons (snd_max dX6_endSpread_101 wm6_165 ws_max wn_Math wc_max (by decide) rfl) ?_
  refine tok_cons (snd_iast dX6_endSpread_104 rfl) ?_
  refine tok_cons (snd_aload_n dX6_endSpread_105 rfl rfl) ?_
  refine tok_cons (snd_gr (C := RX6) (T := TX6) (N := 11) dX6_endSpread_106 rfl (by decide) rfl wf6_27 inX6 rfl) ?_
  refine tok_cons (snd_iconst dX6_endSpread_109 rfl (inr_d rfl) rfl) ?_
  refine tok_cons (snd_aald dX6_endSpread_110 rfl) ?_
  refine tok_cons (snd_iload_n dX6_endSpread_111 rfl rfl) ?_
  refine tok_cons (snd_aload_n dX6_endSpread_112 rfl rfl) ?_
  refine tok_cons (snd_gr (C := RX6) (T := TX6) (N := 11) dX6_endSpread_113 rfl (by decide) rfl wf6_33 inX6 rfl) ?_
  refine tok_cons (snd_gr (C := RX2) (T := TX2) (N := 7) dX6_endSpread_116 rfl (by decide) rfl wf6_85 inX2 rfl) ?_
  refine tok_cons (snd_iload_n dX6_endSpread_119 rfl rfl) ?_
  refine tok_cons (snd_iald dX6_endSpread_120 rfl) ?_
  refine tok_cons (snd_iast dX6_endSpread_121 rfl) ?_
  refine tok_cons (snd_aload_n dX6_endSpread_122 rfl rfl) ?_
  refine tok_cons (snd_gr (C := RX6) (T := TX6) (N := 11) dX6_endSpread_123 rfl (by decide) rfl wf6_27 inX6 rfl) ?_
  refine tok_cons (snd_iconst dX6_endSpread_126 rfl (inr_d rfl) rfl) ?_
  refine tok_cons (snd_aald dX6_endSpread_127 rfl) ?_
  refine tok_cons (snd_iload_n dX6_endSpread_128 rfl rfl) ?_
  refine tok_cons (snd_iload dX6_endSpread_129 rfl) ?_
  refine tok_cons (snd_iast dX6_endSpread_131 rfl) ?_
  refine tok_cons (snd_aload_n dX6_endSpread_132 rfl rfl) ?_
  refine tok_cons (snd_gr (C := RX6) (T := TX6) (N := 11) dX6_endSpread_133 rfl (by decide) rfl wf6_27 inX6 rfl) ?_
  refine tok_cons (snd_iconst dX6_endSpread_136 rfl (inr_d rfl) rfl) ?_
  refine tok_cons (snd_aald dX6_endSpread_137 rfl) ?_
  refine tok_cons (snd_iload_n dX6_endSpread_138 rfl rfl) ?_
  refine tok_cons (snd_aload_n dX6_endSpread_139 rfl rfl) ?_
  refine tok_cons (snd_gr (C := RX6) (T := TX6) (N := 11) dX6_endSpread_140 rfl (by decide) rfl wf6_33 inX6 rfl) ?_
  refine tok_cons (snd_gr (C := RX2) (T := TX2) (N := 7) dX6_endSpread_143 rfl (by decide) rfl wf6_168 inX2 rfl) ?_
  refine tok_cons (snd_iload_n dX6_endSpread_146 rfl rfl) ?_
  refine tok_cons (snd_iald dX6_endSpread_147 rfl) ?_
  refine tok_cons (snd_iast dX6_endSpread_148 rfl) ?_
  refine tok_cons (snd_aload_n dX6_endSpread_149 rfl rfl) ?_
  refine tok_cons (snd_gr (C := RX6) (T := TX6) (N := 11) dX6_endSpread_150 rfl (by decide) rfl wf6_27 inX6 rfl) ?_
  refine tok_cons (snd_bipush dX6_endSpread_153 (by decide) (inr_d rfl) rfl) ?_
  refine tok_cons (snd_aald dX6_endSpread_155 rfl) ?_
  refine tok_cons (snd_iload_n dX6_endSpread_156 rfl rfl) ?_
  refine tok_cons (snd_aload_n dX6_endSpread_157 rfl rfl) ?_
  refine tok_cons (snd_gr (C := RX6) (T := TX6) (N := 11) dX6_endSpread_158 rfl (by decide) rfl wf6_33 inX6 rfl) ?_
  refine tok_cons (snd_gr (C := RX2) (T := TX2) (N := 7) dX6_endSpread_161 rfl (by decide) rfl wf6_171 inX2 rfl) ?_
  refine tok_cons (snd_iload_n dX6_endSpread_164 rfl rfl) ?_
  refine tok_cons (snd_iald dX6_endSpread_165 rfl) ?_
  refine tok_cons (snd_iast dX6_endSpread_166 rfl) ?_
  refine tok_cons (snd_aload_n dX6_endSpread_167 rfl rfl) ?_
  refine tok_cons (snd_gr (C := RX6) (T := TX6) (N := 11) dX6_endSpread_168 rfl (by decide) rfl wf6_33 inX6 rfl) ?_
  refine tok_cons (snd_iload_n dX6_endSpread_171 rfl rfl) ?_
  refine tok_cons (snd_iload dX6_endSpread_172 rfl) ?_
  refine tok_cons (snd_aload_n dX6_endSpread_174 rfl rfl) ?_
  refine tok_cons (snd_gr (C := RX6) (T := TX6) (N := 11) dX6_endSpread_175 rfl (by decide) rfl wf6_33 inX6 rfl) ?_
  refine tok_cons (snd_gr (C := RX2) (T := TX2) (N := 7) dX6_endSpread_178 rfl (by decide) rfl wf6_171 inX2 rfl) ?_
  refine tok_cons (snd_iload_n dX6_endSpread_181 rfl rfl) ?_
  refine tok_cons (snd_iald dX6_endSpread_182 rfl) ?_
  refine tok_cons (snd_aload_n dX6_endSpread_183 rfl rfl) ?_
  refine tok_cons (snd_gr (C := RX6) (T := TX6) (N := 11) dX6_endSpread_184 rfl (by decide) rfl wf6_33 inX6 rfl) ?_
  refine tok_cons (snd_gr (C := RX2) (T := TX2) (N := 7) dX6_endSpread_187 rfl (by decide) rfl wf6_168 inX2 rfl) ?_
  refine tok_cons (snd_iload_n dX6_endSpread_190 rfl rfl) ?_
  refine tok_cons (snd_iald dX6_endSpread_191 rfl) ?_
  refine tok_cons (snd_add dX6_endSpread_192 rfl) ?_
  refine tok_cons (snd_cn dX6_endSpread_193 mok_2_turn ⟨wm6_60, wi_2_turn, wl_2_turn⟩ (rc := (RX2, TX2, 7)) rfl rfl pn_2_turn (by decide) ⟨rfl, rfl⟩ rfl) ?_
  refine tok_cons (snd_iinc dX6_endSpread_196 rfl rfl (by decide)) ?_
  refine tok_cons (snd_goto dX6_endSpread_199 (by decide)) ?_
  refine tok_cons (snd_aload_n dX6_endSpread_202 rfl rfl) ?_
  refine tok_cons (snd_dup dX6_endSpread_203 rfl) ?_
  refine tok_cons (snd_gi (C := RX6) (T := TX6) (N := 11) dX6_endSpread_204 rfl (by decide) rfl wf6_50 inX6 rfl rfl) ?_
  refine tok_cons (snd_iconst dX6_endSpread_207 rfl (inr_d rfl) rfl) ?_
  refine tok_cons (snd_add dX6_endSpread_208 rfl) ?_
  refine tok_cons (snd_pi (C := RX6) (T := TX6) (N := 11) (ty0 := tyX6) dX6_endSpread_209 rfl (by decide) rfl wf6_50 inX6 tyX6_ok nmX6 (by decide +kernel) rfl rfl) ?_
  refine tok_cons (snd_aload_n dX6_endSpread_212 rfl rfl) ?_
  refine tok_cons (snd_gr (C := RX6) (T := TX6) (N := 11) dX6_endSpread_213 rfl (by decide) rfl wf6_15 inX6 rfl) ?_
  refine tok_cons (snd_aload_n dX6_endSpread_216 rfl rfl) ?_
  refine tok_cons (snd_gi (C := RX6) (T := TX6) (N := 11) dX6_endSpread_217 rfl (by decide) rfl wf6_50 inX6 rfl rfl) ?_
  refine tok_cons (snd_aload_n dX6_endSpread_220 rfl rfl) ?_
  refine tok_cons (snd_gi (C := RX6) (T := TX6) (N := 11) dX6_endSpread_221 rfl (by decide) rfl wf6_53 inX6 rfl rfl) ?_
  refine tok_cons (snd_iast dX6_endSpread_224 rfl) ?_
  refine tok_cons (snd_ret dX6_endSpread_225 rfl) ?_
  exact tok_nil
def tab_6_segmentWith (X : XT) : Tab := [(0, false, a_const 0 1), (1, false, a_istore 4 3), (3, true, a_iload 4 5), (5, false, a_aload 0 6), (6, false, a_gi 6 6 6 9), (9, false, a_const 1 10), (10, false, a_sub 11), (11, false, a_icmp 3 32 14), (14, false, a_aload 0 15), (15, false, a_iload 4 17), (17, false, a_iload 1 18), (18, false, a_iload 2 19), (19, false, a_iload 3 20), (20, false, a_cv X M_6_segmentWith M_6_contains 6 5 23), (23, false, a_if 1 32 26), (26, false, a_iinc 4 1 29), (29, false, a_goto 3), (32, false, a_iload 4 34), (34, false, a_iret M_6_segmentWith)]
set_option maxRecDepth 20000 in
theorem t_6_segmentWith (X : XT) : tget (tab_6_segmentWith X) 0 = some (false, a_const 0 1) ∧ tget (tab_6_segmentWith X) 1 = some (false, a_istore 4 3) ∧ tget (tab_6_segmentWith X) 3 = some (true, a_iload 4 5) ∧ tget (tab_6_segmentWith X) 5 = some (false, a_aload 0 6) ∧ tget (tab_6_segmentWith X) 6 = some (false, a_gi 6 6 6 9) ∧ tget (tab_6_segmentWith X) 9 = some (false, a_const 1 10) ∧ tget (tab_6_segmentWith X) 10 = some (false, a_sub 11) ∧ tget (tab_6_segmentWith X) 11 = some (false, a_icmp 3 32 14) ∧ tget (tab_6_segmentWith X) 14 = some (false, a_aload 0 15) ∧ tget (tab_6_segmentWith X) 15 = some (false, a_iload 4 17) ∧ tget (tab_6_segmentWith X) 17 = some (false, a_iload 1 18) ∧ tget (tab_6_segmentWith X) 18 = some (false, a_iload 2 19) ∧ tget (tab_6_segmentWith X) 19 = some (false, a_iload 3 20) ∧ tget (tab_6_segmentWith X) 20 = some (false, a_cv X M_6_segmentWith M_6_contains 6 5 23) ∧ tget (tab_6_segmentWith X) 23 = some (false, a_if 1 32 26) ∧ tget (tab_6_segmentWith X) 26 = some (false, a_iinc 4 1 29) ∧ tget (tab_6_segmentWith X) 29 = some (false, a_goto 3) ∧ tget (tab_6_segmentWith X) 32 = some (false, a_iload 4 34) ∧ tget (tab_6_segmentWith X) 34 = some (false, a_iret M_6_segmentWith) := ⟨rfl, rfl, rfl, rfl, rfl, rfl, rfl, rfl, rfl, rfl, rfl, rfl, rfl, rfl, rfl, rfl, rfl, rfl, rfl⟩
theorem tok_6_segmentWith (X : XT) : TabOK X M_6_segmentWith (tab_6_segmentWith X) := by
  unfold tab_6_segmentWith
  refine tok_cons (snd_iconst dX6_segmentWith_0 rfl (inr_d rfl) rfl) ?_
  refine tok_cons (snd_istore dX6_segmentWith_1 rfl (by decide)) ?_
  refine tok_cons (snd_iload dX6_segmentWith_3 rfl) ?_
  refine tok_cons (snd_aload_n dX6_segmentWith_5 rfl rfl) ?_
  refine tok_cons (snd_gi (C := RX6) (T := TX6) (N := 11) dX6_segmentWith_6 rfl (by decide) rfl wf6_53 inX6 rfl rfl) ?_
  refine tok_cons (snd_iconst dX6_segmentWith_9 rfl (inr_d rfl) rfl) ?_
  refine tok_cons (snd_sub dX6_segmentWith_10 rfl) ?_
  refine tok_cons (snd_icmp_ge dX6_segmentWith_11 (by decide) rfl) ?_
  refine tok_cons (snd_aload_n dX6_segmentWith_14 rfl rfl) ?_
  refine tok_cons (snd_iload dX6_segmentWith_15 rfl) ?_
  refine tok_cons (snd_iload_n dX6_segmentWith_17 rfl rfl) ?_
  refine tok_cons (snd_iload_n dX6_segmentWith_18 rfl rfl) ?_
  refine tok_cons (snd_iload_n dX6_segmentWith_19 rfl rfl) ?_
  refine tok_cons (snd_cv dX6_segmentWith_20 mok_6_contains ⟨wm6_177, wi_6_contains, wl_6_contains⟩ (rc := (RX6, TX6, 11)) rfl rfl pn_6_contains (by decide) ⟨rfl, rfl⟩ rfl) ?_
  refine tok_cons (snd_if_ne dX6_segmentWith_23 (by decide) rfl) ?_
  refine tok_cons (snd_iinc dX6_segmentWith_26 rfl rfl (by decide)) ?_
  refine tok_cons (snd_goto dX6_segmentWith_29 (by decide)) ?_
  refine tok_cons (snd_iload dX6_segmentWith_32 rfl) ?_
  refine tok_cons (snd_iret dX6_segmentWith_34 rfl) ?_
  exact tok_nil
def tab_7_pairInfo (X : XT) : Tab := [(0, false, a_aload 0 1), (1, false, a_gr 7 0 4), (4, false, a_iload 1 5), (5, false, a_cv X M_7_pairInfo M_1_hasPair 1 2 8), (8, false, a_if 0 20 11), (11, false, a_iload 2 12), (12, false, a_const 0 13), (13, false, a_const 3 14), (14, false, a_sv X M_7_pairInfo M_7_isIn 3 17), (17, false, a_if 1 22 20), (20, false, a_const (-1) 21), (21, false, a_iret M_7_pairInfo), (22, false, a_aload 0 23), (23, false, a_gr 7 0 26), (26, false, a_gr 1 1 29), (29, false, a_iload 2 30), (30, false, a_aald 31), (31, false, a_iload 1 32), (32, false, a_ald false 33), (33, false, a_iret M_7_pairInfo)]
set_option maxRecDepth 20000 in
theorem t_7_pairInfo (X : XT) : tget (tab_7_pairInfo X) 0 = some (false, a_aload 0 1) ∧ tget (tab_7_pairInfo X) 1 = some (false, a_gr 7 0 4) ∧ tget (tab_7_pairInfo X) 4 = some (false, a_iload 1 5) ∧ tget (tab_7_pairInfo X) 5 = some (false, a_cv X M_7_pairInfo M_1_hasPair 1 2 8) ∧ tget (tab_7_pairInfo X) 8 = some (false, a_if 0 20 11) ∧ tget (tab_7_pairInfo X) 11 = some (false, a_iload 2 12) ∧ tget (tab_7_pairInfo X) 12 = some (false, a_const 0 13) ∧ tget (tab_7_pairInfo X) 13 = some (false, a_const 3 14) ∧ tget (tab_7_pairInfo X) 14 = some (false, a_sv X M_7_pairInfo M_7_isIn 3 17) ∧ tget (tab_7_pairInfo X) 17 = some (false, a_if 1 22 20) ∧ tget (tab_7_pairInfo X) 20 = some (false, a_const (-1) 21) ∧ tget (tab_7_pairInfo X) 21 = some (false, a_iret M_7_pairInfo) ∧ tget (tab_7_pairInfo X) 22 = some (false, a_aload 0 23) ∧ tget (tab_7_pairInfo X) 23 = some (false, a_gr 7 0 26) ∧ tget (tab_7_pairInfo X) 26 = some (false, a_gr 1 1 29) ∧ tget (tab_7_pairInfo X) 29 = some (false, a_iload 2 30) ∧ tget (tab_7_pairInfo X) 30 = some (false, a_aald 31) ∧ tget (tab_7_pairInfo X) 31 = some (false, a_iload 1 32) ∧ tget (tab_7_pairInfo X) 32 = some (false, a_ald false 33) ∧ tget (tab_7_pairInfo X) 33 = some (false, a_iret M_7_pairInfo) := ⟨rfl, rfl, rfl, rfl, rfl, rfl, rfl, rfl, rfl, rfl, rfl, rfl, rfl, rfl, rfl, rfl, rfl, rfl, rfl, rfl⟩
theorem tok_7_pairInfo (X : XT) : TabOK X M_7_pairInfo (tab_7_pairInfo X) := by
  unfold tab_7_pairInfo
  refine tok_cons (snd_aload_n dX7_pairInfo_0 rfl rfl) ?_
  refine tok_cons (snd_gr (C := RX7) (T := TX7) (N := 4) dX7_pairInfo_1 rfl (by decide) rfl wf7_10 inX7 rfl) ?_
  refine tok_cons (snd_iload_n dX7_pairInfo_4 rfl rfl) ?_
  refine tok_cons (snd_cv dX7_pairInfo_5 mok_1_hasPair ⟨wm7_52, wi_1_hasPair, wl_1_hasPair⟩ (rc := (RX1, TX1, 5)) rfl rfl pn_1_hasPair (by decide) ⟨rfl, rfl⟩ rfl) ?_
  refine tok_cons (snd_if_eq dX7_pairInfo_8 (by decide) rfl) ?_
  refine tok_cons (snd_iload_n dX7_pairInfo_11 rfl rfl) ?_
  refine tok_cons (snd_iconst dX7_pairInfo_12 rfl (inr_d rfl) rfl) ?_
  refine tok_cons (snd_iconst dX7_pairInfo_13 rfl (inr_d rfl) rfl) ?_
  refine tok_cons (snd_sv dX7_pairInfo_14 mok_7_isIn ⟨ws_7_isIn, Or.inl ⟨wm7_41, rfl⟩⟩ pn_7_isIn (by decide) ⟨rfl, rfl⟩ rfl) ?_
  refine tok_cons (snd_if_ne dX7_pairInfo_17 (by decide) rfl) ?_
  refine tok_cons (snd_iconst dX7_pairInfo_20 rfl (inr_d rfl) rfl) ?_
  refine tok_cons (snd_iret dX7_pairInfo_21 rfl) ?_
  refine tok_cons (snd_aload_n dX7_pairInfo_22 rfl rfl) ?_
  refine tok_cons (snd_gr (C := RX7) (T := TX7) (N := 4) dX7_pairInfo_23 rfl (by decide) rfl wf7_10 inX7 rfl) ?_
  refine tok_cons (snd_gr (C := RX1) (T := TX1) (N := 5) dX7_pairInfo_26 rfl (by decide) rfl wf7_112 inX1 rfl) ?_
  refine tok_cons (snd_iload_n dX7_pairInfo_29 rfl rfl) ?_
  refine tok_cons (snd_aald dX7_pairInfo_30 rfl) ?_
  refine tok_cons (snd_iload_n dX7_pairInfo_31 rfl rfl) ?_
  refine tok_cons (snd_iald dX7_pairInfo_32 rfl) ?_
  refine tok_cons (snd_iret dX7_pairInfo_33 rfl) ?_
  exact tok_nil
def tab_7_noteCount (X : XT) : Tab := [(0, false, a_iload 1 1), (1, false, a_sv X M_7_noteCount M_7_isSide 1 4), (4, false, a_if 0 21 7), (7, false, a_aload 0 8), (8, false, a_gr 7 0 11), (11, false, a_iload 1 12), (12, false, a_cv X M_7_noteCount M_1_notes 1 2 15), (15, false, a_gi 4 0 0 18), (18, false, a_goto 22), (21, false, a_const (-1) 22), (22, false, a_iret M_7_noteCount)]
set_option maxRecDepth 20000 in
theorem t_7_noteCount (X : XT) : tget (tab_7_noteCount X) 0 = some (false, a_iload 1 1) ∧ tget (tab_7_noteCount X) 1 = some (false, a_sv X M_7_noteCount M_7_isSide 1 4) ∧ tget (tab_7_noteCount X) 4 = some (false, a_if 0 21 7) ∧ tget (tab_7_noteCount X) 7 = some (false, a_aload 0 8) ∧ tget (tab_7_noteCount X) 8 = some (false, a_gr 7 0 11) ∧ tget (tab_7_noteCount X) 11 = some (false, a_iload 1 12) ∧ tget (tab_7_noteCount X) 12 = some (false, a_cv X M_7_noteCount M_1_notes 1 2 15) ∧ tget (tab_7_noteCount X) 15 = some (false, a_gi 4 0 0 18) ∧ tget (tab_7_noteCount X) 18 = some (false, a_goto 22) ∧ tget (tab_7_noteCount X) 21 = some (false, a_const (-1) 22) ∧ tget (tab_7_noteCount X) 22 = some (false, a_iret M_7_noteCount) := ⟨rfl, rfl, rfl, rfl, rfl, rfl, rfl, rfl, rfl, rfl, rfl⟩
theorem tok_7_noteCount (X : XT) : TabOK X M_7_noteCount (tab_7_noteCount X) := by
  unfold tab_7_noteCount
  refine tok_cons (snd_iload_n dX7_noteCount_0 rfl rfl) ?_
  refine tok_cons (snd_sv dX7_noteCount_1 mok_7_isSide ⟨ws_7_isSide, Or.inl ⟨wm7_60, rfl⟩⟩ pn_7_isSide (by decide) ⟨rfl, rfl⟩ rfl) ?_
  refine tok_cons (snd_if_eq dX7_noteCount_4 (by decide) rfl) ?_
  refine tok_cons (snd_aload_n dX7_noteCount_7 rfl rfl) ?_
  refine tok_cons (snd_gr (C := RX7) (T := TX7) (N := 4) dX7_noteCount_8 rfl (by decide) rfl wf7_10 inX7 rfl) ?_
  refine tok_cons (snd_iload_n dX7_noteCount_11 rfl rfl) ?_
  refine tok_cons (snd_cv dX7_noteCount_12 mok_1_notes ⟨wm7_63, wi_1_notes, wl_1_notes⟩ (rc := (RX1, TX1, 5)) rfl rfl pn_1_notes (by decide) ⟨rfl, rfl⟩ rfl) ?_
  refine tok_cons (snd_gi (C := RX4) (T := TX4) (N := 2) dX7_noteCount_15 rfl (by decide) rfl wf7_84 inX4 rfl rfl) ?_
  refine tok_cons (snd_goto dX7_noteCount_18 (by decide)) ?_
  refine tok_cons (snd_iconst dX7_noteCount_21 rfl (inr_d rfl) rfl) ?_
  refine tok_cons (snd_iret dX7_noteCount_22 rfl) ?_
  exact tok_nil
def tab_7_noteInfo (X : XT) : Tab := [(0, false, a_iload 1 1), (1, false, a_sv X M_7_noteInfo M_7_isSide 1 4), (4, false, a_if 0 20 7), (7, false, a_iload 2 8), (8, false, a_if 2 20 11), (11, false, a_iload 3 12), (12, false, a_const 0 13), (13, false, a_const 2 14), (14, false, a_sv X M_7_noteInfo M_7_isIn 3 17), (17, false, a_if 1 22 20), (20, false, a_const (-1) 21), (21, false, a_iret M_7_noteInfo), (22, false, a_aload 0 23), (23, false, a_gr 7 0 26), (26, false, a_iload 1 27), (27, false, a_cv X M_7_noteInfo M_1_notes 1 2 30), (30, false, a_astore 4 32), (32, false, a_iload 2 33), (33, false, a_aload 4 35), (35, false, a_gi 4 0 0 38), (38, false, a_icmp 3 53 41), (41, false, a_aload 4 43), (43, false, a_gr 4 1 46), (46, false, a_iload 3 47), (47, false, a_aald 48), (48, false, a_iload 2 49), (49, false, a_ald false 50), (50, false, a_goto 55), (53, false, a_const (-4) 55), (55, false, a_iret M_7_noteInfo)]
set_option maxRecDepth 20000 in
theorem t_7_noteInfo (X : XT) : tget (tab_7_noteInfo X) 0 = some (false, a_iload 1 1) ∧ tget (tab_7_noteInfo X) 1 = some (false, a_sv X M_7_noteInfo M_7_isSide 1 4) ∧ tget (tab_7_noteInfo X) 4 = some (false, a_if 0 20 7) ∧ tget (tab_7_noteInfo X) 7 = some (false, a_iload 2 8) ∧ tget (tab_7_noteInfo X) 8 = some (false, a_if 2 20 11) ∧ tget (tab_7_noteInfo X) 11 = some (false, a_iload 3 12) ∧ tget (tab_7_noteInfo X) 12 = some (false, a_const 0 13) ∧ tget (tab_7_noteInfo X) 13 = some (false, a_const 2 14) ∧ tget (tab_7_noteInfo X) 14 = some (false, a_sv X M_7_noteInfo M_7_isIn 3 17) ∧ tget (tab_7_noteInfo X) 17 = some (false, a_if 1 22 20) ∧ tget (tab_7_noteInfo X) 20 = some (false, a_const (-1) 21) ∧ tget (tab_7_noteInfo X) 21 = some (false, a_iret M_7_noteInfo) ∧ tget (tab_7_noteInfo X) 22 = some (false, a_aload 0 23) ∧ tget (tab_7_noteInfo X) 23 = some (false, a_gr 7 0 26) ∧ tget (tab_7_noteInfo X) 26 = some (false, a_iload 1 27) ∧ tget (tab_7_noteInfo X) 27 = some (false, a_cv X M_7_noteInfo M_1_notes 1 2 30) ∧ tget (tab_7_noteInfo X) 30 = some (false, a_astore 4 32) ∧ tget (tab_7_noteInfo X) 32 = some (false, a_iload 2 33) ∧ tget (tab_7_noteInfo X) 33 = some (false, a_aload 4 35) ∧ tget (tab_7_noteInfo X) 35 = some (false, a_gi 4 0 0 38) ∧ tget (tab_7_noteInfo X) 38 = some (false, a_icmp 3 53 41) ∧ tget (tab_7_noteInfo X) 41 = some (false, a_aload 4 43) ∧ tget (tab_7_noteInfo X) 43 = some (false, a_gr 4 1 46) ∧ tget (tab_7_noteInfo X) 46 = some (false, a_iload 3 47) ∧ tget (tab_7_noteInfo X) 47 = some (false, a_aald 48) ∧ tget (tab_7_noteInfo X) 48 = some (false, a_iload 2 49) ∧ tget (tab_7_noteInfo X) 49 = some (false, a_ald false 50) ∧ tget (tab_7_noteInfo X) 50 = some (false, a_goto 55) ∧ tget (tab_7_noteInfo X) 53 = some (false, a_const (-4) 55) ∧ tget (tab_7_noteInfo X) 55 = some (false, a_iret M_7_noteInfo) := ⟨rfl, rfl, rfl, rfl, rfl, rfl, rfl, rfl, rfl, rfl, rfl, rfl, rfl, rfl, rfl, rfl, rfl, rfl, rfl, rfl, rfl, rfl, rfl, rfl, rfl, rfl, rfl, rfl, rfl, rfl⟩
theorem tok_7_noteInfo (X : XT) : TabOK X M_7_noteInfo (tab_7_noteInfo X) := by
  unfold tab_7_noteInfo
  refine tok_cons (snd_iload_n dX7_noteInfo_0 rfl rfl) ?_
  refine tok_cons (snd_sv dX7_noteInfo_1 mok_7_isSide ⟨ws_7_isSide, Or.inl ⟨wm7_60, rfl⟩⟩ pn_7_isSide (by decide) ⟨rfl, rfl⟩ rfl) ?_
  refine tok_cons (snd_if_eq dX7_noteInfo_4 (by decide) rfl) ?_
  refine tok_cons (snd_iload_n dX7_noteInfo_7 rfl rfl) ?_
  refine tok_cons (snd_if_lt dX7_noteInfo_8 (by decide) rfl) ?_
  refine tok_cons (snd_iload_n dX7_noteInfo_11 rfl rfl) ?_
  refine tok_cons (snd_iconst dX7_noteInfo_12 rfl (inr_d rfl) rfl) ?_
  refine tok_cons (snd_iconst dX7_noteInfo_13 rfl (inr_d rfl) rfl) ?_
  refine tok_cons (snd_sv dX7_noteInfo_14 mok_7_isIn ⟨ws_7_isIn, Or.inl ⟨wm7_41, rfl⟩⟩ pn_7_isIn (by decide) ⟨rfl, rfl⟩ rfl) ?_
  refine tok_cons (snd_if_ne dX7_noteInfo_17 (by decide) rfl) ?_
  refine tok_cons (snd_iconst dX7_noteInfo_20 rfl (inr_d rfl) rfl) ?_
  refine tok_cons (snd_iret dX7_noteInfo_21 rfl) ?_
  refine tok_cons (snd_aload_n dX7_noteInfo_22 rfl rfl) ?_
  refine tok_cons (snd_gr (C := RX7) (T := TX7) (N := 4) dX7_noteInfo_23 rfl (by decide) rfl wf7_10 inX7 rfl) ?_
  refine tok_cons (snd_iload_n dX7_noteInfo_26 rfl rfl) ?_
  refine tok_cons (snd_cv dX7_noteInfo_27 mok_1_notes ⟨wm7_63, wi_1_notes, wl_1_notes⟩ (rc := (RX1, TX1, 5)) rfl rfl pn_1_notes (by decide) ⟨rfl, rfl⟩ rfl) ?_
  refine tok_cons (snd_astore dX7_noteInfo_30 rfl (by decide)) ?_
  refine tok_cons (snd_iload_n dX7_noteInfo_32 rfl rfl) ?_
  refine tok_cons (snd_aload dX7_noteInfo_33 rfl) ?_
  refine tok_cons (snd_gi (C := RX4) (T := TX4) (N := 2) dX7_noteInfo_35 rfl (by decide) rfl wf7_84 inX4 rfl rfl) ?_
  refine tok_cons (snd_icmp_ge dX7_noteInfo_38 (by decide) rfl) ?_
  refine tok_cons (snd_aload dX7_noteInfo_41 rfl) ?_
  refine tok_cons (snd_gr (C := RX4) (T := TX4) (N := 2) dX7_noteInfo_43 rfl (by decide) rfl wf7_116 inX4 rfl) ?_
  refine tok_cons (snd_iload_n dX7_noteInfo_46 rfl rfl) ?_
  refine tok_cons (snd_aald dX7_noteInfo_47 rfl) ?_
  refine tok_cons (snd_iload_n dX7_noteInfo_48 rfl rfl) ?_
  refine tok_cons (snd_iald dX7_noteInfo_49 rfl) ?_
  refine tok_cons (snd_goto dX7_noteInfo_50 (by decide)) ?_
  refine tok_cons (snd_bipush dX7_noteInfo_53 (by decide) (inr_d rfl) rfl) ?_
  refine tok_cons (snd_iret dX7_noteInfo_55 rfl) ?_
  exact tok_nil
def tab_0_searchFrom (X : XT) : Tab := [(0, false, a_aload 0 1), (1, false, a_gr 0 3 4), (4, false, a_iload 2 5), (5, false, a_const (-1) 6), (6, false, a_ast false 7), (7, false, a_aload 0 8), (8, false, a_gr 0 5 11), (11, false, a_const 0 12), (12, false, a_const 0 13), (13, false, a_aload 1 14), (14, false, a_gr 1 2 17), (17, false, a_iload 2 18), (18, false, a_const 0 19), (19, false, a_cv X M_0_searchFrom M_4_before 4 3 22), (22, false, a_cn X M_0_searchFrom M_2_turn 2 4 25), (25, false, a_aload 0 26), (26, false, a_gr 0 5 29), (29, false, a_const 1 30), (30, false, a_const 0 31), (31, false, a_aload 1 32), (32, false, a_gr 1 3 35), (35, false, a_iload 2 36), (36, false, a_const 0 37), (37, false, a_cv X M_0_searchFrom M_4_before 4 3 40), (40, false, a_cn X M_0_searchFrom M_2_turn 2 4 43), (43, false, a_iload 2 44), (44, false, a_istore 3 45), (45, true, a_iload 3 46), (46, false, a_aload 1 47), (47, false, a_gi 1 0 0 50), (50, false, a_icmp 3 131 53), (53, false, a_iload 3 54), (54, false, a_iload 2 55), (55, false, a_icmp 5 71 58), (58, false, a_aload 1 59), (59, false, a_gr 1 1 62), (62, false, a_const 3 63), (63, false, a_aald 64), (64, false, a_iload 3 65), (65, false, a_ald false 66), (66, false, a_const 1 67), (67, false, a_icmp 1 71 70), (70, false, a_ret M_0_searchFrom), (71, false, a_aload 0 72), (72, false, a_gr 0 6 75), (75, false, a_aload 1 76), (76, false, a_iload 3 77), (77, false, a_cn X M_0_searchFrom M_5_takePair 5 3 80), (80, false, a_aload 0 81), (81, false, a_gr 0 5 84), (84, false, a_aload 1 85), (85, false, a_aload 0 86), (86, false, a_gr 0 6 89), (89, false, a_cn X M_0_searchFrom M_2_put 2 3 92), (92, false, a_aload 0 93), (93, false, a_gr 0 5 96), (96, false, a_aload 1 97), (97, false, a_gr 1 4 100), (100, false, a_const 0 101), (101, false, a_ald false 102), (102, false, a_aload 1 103), (103, false, a_gr 1 4 106), (106, false, a_const 2 107), (107, false, a_ald false 108), (108, false, a_const 0 109), (109, false, a_cv X M_0_searchFrom M_2_fits 2 4 112), (112, false, a_if 1 116 115), (115, false, a_ret M_0_searchFrom), (116, false, a_aload 0 117), (117, false, a_aload 1 118), (118, false, a_iload 2 119), (119, false, a_iload 3 120), (120, false, a_const 1 121), (121, false, a_add 122), (122, false, a_cn X M_0_searchFrom M_0_considerGroup 0 4 125), (125, false, a_iinc 3 1 128), (128, false, a_goto 45), (131, false, a_ret M_0_searchFrom)]
set_option maxRecDepth 20000 in
theorem t_0_searchFrom (X : XT) : tget (tab_0_searchFrom X) 0 = some (false, a_aload 0 1) ∧ tget (tab_0_searchFrom X) 1 = some (false, a_gr 0 3 4) ∧ tget (tab_0_searchFrom X) 4 = some (false, a_iload 2 5) ∧ tget (tab_0_searchFrom X) 5 = some (false, a_const (-1) 6) ∧ tget (tab_0_searchFrom X) 6 = some (false, a_ast false 7) ∧ tget (tab_0_searchFrom X) 7 = some (false, a_aload 0 8) ∧ tget (tab_0_searchFrom X) 8 = some (false, a_gr 0 5 11) ∧ tget (tab_0_searchFrom X) 11 = some (false, a_const 0 12) ∧ tget (tab_0_searchFrom X) 12 = some (false, a_const 0 13) ∧ tget (tab_0_searchFrom X) 13 = some (false, a_aload 1 14) ∧ tget (tab_0_searchFrom X) 14 = some (false, a_gr 1 2 17) ∧ tget (tab_0_searchFrom X) 17 = some (false, a_iload 2 18) ∧ tget (tab_0_searchFrom X) 18 = some (false, a_const 0 19) ∧ tget (tab_0_searchFrom X) 19 = some (false, a_cv X M_0_searchFrom M_4_before 4 3 22) ∧ tget (tab_0_searchFrom X) 22 = some (false, a_cn X M_0_searchFrom M_2_turn 2 4 25) ∧ tget (tab_0_searchFrom X) 25 = some (false, a_aload 0 26) ∧ tget (tab_0_searchFrom X) 26 = some (false, a_gr 0 5 29) ∧ tget (tab_0_searchFrom X) 29 = some (false, a_const 1 30) ∧ tget (tab_0_searchFrom X) 30 = some (false, a_const 0 31) ∧ tget (tab_0_searchFrom X) 31 = some (false, a_aload 1 32) ∧ tget (tab_0_searchFrom X) 32 = some (false, a_gr 1 3 35) ∧ tget (tab_0_searchFrom X) 35 = some (false, a_iload 2 36) ∧ tget (tab_0_searchFrom X) 36 = some (false, a_const 0 37) ∧ tget (tab_0_searchFrom X) 37 = some (false, a_cv X M_0_searchFrom M_4_before 4 3 40) ∧ tget (tab_0_searchFrom X) 40 = some (false, a_cn X M_0_searchFrom M_2_turn 2 4 43) ∧ tget (tab_0_searchFrom X) 43 = some (false, a_iload 2 44) ∧ tget (tab_0_searchFrom X) 44 = some (false, a_istore 3 45) ∧ tget (tab_0_searchFrom X) 45 = some (true, a_iload 3 46) ∧ tget (tab_0_searchFrom X) 46 = some (false, a_aload 1 47) ∧ tget (tab_0_searchFrom X) 47 = some (false, a_gi 1 0 0 50) ∧ tget (tab_0_searchFrom X) 50 = some (false, a_icmp 3 131 53) ∧ tget (tab_0_searchFrom X) 53 = some (false, a_iload 3 54) ∧ tget (tab_0_searchFrom X) 54 = some (false, a_iload 2 55) ∧ tget (tab_0_searchFrom X) 55 = some (false, a_icmp 5 71 58) ∧ tget (tab_0_searchFrom X) 58 = some (false, a_aload 1 59) ∧ tget (tab_0_searchFrom X) 59 = some (false, a_gr 1 1 62) ∧ tget (tab_0_searchFrom X) 62 = some (false, a_const 3 63) ∧ tget (tab_0_searchFrom X) 63 = some (false, a_aald 64) ∧ tget (tab_0_searchFrom X) 64 = some (false, a_iload 3 65) ∧ tget (tab_0_searchFrom X) 65 = some (false, a_ald false 66) ∧ tget (tab_0_searchFrom X) 66 = some (false, a_const 1 67) ∧ tget (tab_0_searchFrom X) 67 = some (false, a_icmp 1 71 70) ∧ tget (tab_0_searchFrom X) 70 = some (false, a_ret M_0_searchFrom) ∧ tget (tab_0_searchFrom X) 71 = some (false, a_aload 0 72) ∧ tget (tab_0_searchFrom X) 72 = some (false, a_gr 0 6 75) ∧ tget (tab_0_searchFrom X) 75 = some (false, a_aload 1 76) ∧ tget (tab_0_searchFrom X) 76 = some (false, a_iload 3 77) ∧ tget (tab_0_searchFrom X) 77 = some (false, a_cn X M_0_searchFrom M_5_takePair 5 3 80) ∧ tget (tab_0_searchFrom X) 80 = some (false, a_aload 0 81) ∧ tget (tab_0_searchFrom X) 81 = some (false, a_gr 0 5 84) ∧ tget (tab_0_searchFrom X) 84 = some (false, a_aload 1 85) ∧ tget (tab_0_searchFrom X) 85 = some (false, a_aload 0 86) ∧ tget (tab_0_searchFrom X) 86 = some (false, a_gr 0 6 89) ∧ tget (tab_0_searchFrom X) 89 = some (false, a_cn X M_0_searchFrom M_2_put 2 3 92) ∧ tget (tab_0_searchFrom X) 92 = some (false, a_aload 0 93) ∧ tget (tab_0_searchFrom X) 93 = some (false, a_gr 0 5 96) ∧ tget (tab_0_searchFrom X) 96 = some (false, a_aload 1 97) ∧ tget (tab_0_searchFrom X) 97 = some (false, a_gr 1 4 100) ∧ tget (tab_0_searchFrom X) 100 = some (false, a_const 0 101) ∧ tget (tab_0_searchFrom X) 101 = some (false, a_ald false 102) ∧ tget (tab_0_searchFrom X) 102 = some (false, a_aload 1 103) ∧ tget (tab_0_searchFrom X) 103 = some (false, a_gr 1 4 106) ∧ tget (tab_0_searchFrom X) 106 = some (false, a_const 2 107) ∧ tget (tab_0_searchFrom X) 107 = some (false, a_ald false 108) ∧ tget (tab_0_searchFrom X) 108 = some (false, a_const 0 109) ∧ tget (tab_0_searchFrom X) 109 = some (false, a_cv X M_0_searchFrom M_2_fits 2 4 112) ∧ tget (tab_0_searchFrom X) 112 = some (false, a_if 1 116 115) ∧ tget (tab_0_searchFrom X) 115 = some (false, a_ret M_0_searchFrom) ∧ tget (tab_0_searchFrom X) 116 = some (false, a_aload 0 117) ∧ tget (tab_0_searchFrom X) 117 = some (false, a_aload 1 118) ∧ tget (tab_0_searchFrom X) 118 = some (false, a_iload 2 119) ∧ tget (tab_0_searchFrom X) 119 = some (false, a_iload 3 120) ∧ tget (tab_0_searchFrom X) 120 = some (false, a_const 1 121) ∧ tget (tab_0_searchFrom X) 121 = some (false, a_add 122) ∧ tget (tab_0_searchFrom X) 122 = some (false, a_cn X M_0_searchFrom M_0_considerGroup 0 4 125) ∧ tget (tab_0_searchFrom X) 125 = some (false, a_iinc 3 1 128) ∧ tget (tab_0_searchFrom X) 128 = some (false, a_goto 45) ∧ tget (tab_0_searchFrom X) 131 = some (false, a_ret M_0_searchFrom) := ⟨rfl, rfl, rfl, rfl, rfl, rfl, rfl, rfl, rfl, rfl, rfl, rfl, rfl, rfl, rfl, rfl, rfl, rfl, rfl, rfl, rfl, rfl, rfl, rfl, rfl, rfl, rfl, rfl, rfl, rfl, rfl, rfl, rfl, rfl, rfl, rfl, rfl, rfl, rfl, rfl, rfl, rfl, rfl, rfl, rfl, rfl, rfl, rfl, rfl, rfl, rfl, rfl, rfl, rfl, rfl, rfl, rfl, rfl, rfl, rfl, rfl, rfl, rfl, rfl, rfl, rfl, rfl, rfl, rfl, rfl, rfl, rfl, rfl, rfl, rfl, rfl, rfl, rfl⟩
theorem tok_0_searchFrom (X : XT) : TabOK X M_0_searchFrom (tab_0_searchFrom X) := by
  unfold tab_0_searchFrom
  refine tok_cons (snd_aload_n dX0_searchFrom_0 rfl rfl) ?_
  refine tok_cons (snd_gr (C := RX0) (T := TX0) (N := 7) dX0_searchFrom_1 rfl (by decide) rfl wf0_15 inX0 rfl) ?_
  refine tok_cons (snd_iload_n dX0_searchFrom_4 rfl rfl) ?_
  refine tok_cons (snd_iconst dX0_searchFrom_5 rfl (inr_d rfl) rfl) ?_
  refine tok_cons (snd_iast dX0_searchFrom_6 rfl) ?_
  refine tok_cons (snd_aload_n dX0_searchFrom_7 rfl rfl) ?_
  refine tok_cons (snd_gr (C := RX0) (T := TX0) (N := 7) dX0_searchFrom_8 rfl (by decide) rfl wf0_24 inX0 rfl) ?_
  refine tok_cons (snd_iconst dX0_searchFrom_11 rfl (inr_d rfl) rfl) ?_
  refine tok_cons (snd_iconst dX0_searchFrom_12 rfl (inr_d rfl) rfl) ?_
  refine tok_cons (snd_aload_n dX0_searchFrom_13 rfl rfl) ?_
  refine tok_cons (snd_gr (C := RX1) (T := TX1) (N := 5) dX0_searchFrom_14 rfl (by decide) rfl wf0_56 inX1 rfl) ?_
  refine tok_cons (snd_iload_n dX0_searchFrom_17 rfl rfl) ?_
  refine tok_cons (snd_iconst dX0_searchFrom_18 rfl (inr_d rfl) rfl) ?_
  refine tok_cons (snd_cv dX0_searchFrom_19 mok_4_before ⟨wm0_60, wi_4_before, wl_4_before⟩ (rc := (RX4, TX4, 2)) rfl rfl pn_4_before (by decide) ⟨rfl, rfl⟩ rfl) ?_
  refine tok_cons (snd_cn dX0_searchFrom_22 mok_2_turn ⟨wm0_66, wi_2_turn, wl_2_turn⟩ (rc := (RX2, TX2, 7)) rfl rfl pn_2_turn (by decide) ⟨rfl, rfl⟩ rfl) ?_
  refine tok_cons (snd_aload_n dX0_searchFrom_25 rfl rfl) ?_
  refine tok_cons (snd_gr (C := RX0) (T := TX0) (N := 7) dX0_searchFrom_26 rfl (by decide) rfl wf0_24 inX0 rfl) ?_
  refine tok_cons (snd_iconst dX0_searchFrom_29 rfl (inr_d rfl) rfl) ?_
  refine tok_cons (snd_iconst dX0_searchFrom_30 rfl (inr_d rfl) rfl) ?_
  refine tok_cons (snd_aload_n dX0_searchFrom_31 rfl rfl) ?_
  refine tok_cons (snd_gr (C := RX1) (T := TX1) (N := 5) dX0_searchFrom_32 rfl (by decide) rfl wf0_70 inX1 rfl) ?_
  refine tok_cons (snd_iload_n dX0_searchFrom_35 rfl rfl) ?_
  refine tok_cons (snd_iconst dX0_searchFrom_36 rfl (inr_d rfl) rfl) ?_
  refine tok_cons (snd_cv dX0_searchFrom_37 mok_4_before ⟨wm0_60, wi_4_before, wl_4_before⟩ (rc := (RX4, TX4, 2)) rfl rfl pn_4_before (by decide) ⟨rfl, rfl⟩ rfl) ?_
  refine tok_cons (snd_cn dX0_searchFrom_40 mok_2_turn ⟨wm0_66, wi_2_turn, wl_2_turn⟩ (rc := (RX2, TX2, 7)) rfl rfl pn_2_turn (by decide) ⟨rfl, rfl⟩ rfl) ?_
  refine tok_cons (snd_iload_n dX0_searchFrom_43 rfl rfl) ?_
  refine tok_cons (snd_istore_n dX0_searchFrom_44 rfl rfl (by decide)) ?_
  refine tok_cons (snd_iload_n dX0_searchFrom_45 rfl rfl) ?_
  refine tok_cons (snd_aload_n dX0_searchFrom_46 rfl rfl) ?_
  refine tok_cons (snd_gi (C := RX1) (T := TX1) (N := 5) dX0_searchFrom_47 rfl (by decide) rfl wf0_39 inX1 rfl rfl) ?_
  refine tok_cons (snd_icmp_ge dX0_searchFrom_50 (by decide) rfl) ?_
  refine tok_cons (snd_iload_n dX0_searchFrom_53 rfl rfl) ?_
  refine tok_cons (snd_iload_n dX0_searchFrom_54 rfl rfl) ?_
  refine tok_cons (snd_icmp_le dX0_searchFrom_55 (by decide) rfl) ?_
  refine tok_cons (snd_aload_n dX0_searchFrom_58 rfl rfl) ?_
  refine tok_cons (snd_gr (C := RX1) (T := TX1) (N := 5) dX0_searchFrom_59 rfl (by decide) rfl wf0_73 inX1 rfl) ?_
  refine tok_cons (snd_iconst dX0_searchFrom_62 rfl (inr_d rfl) rfl) ?_
  refine tok_cons (snd_aald dX0_searchFrom_63 rfl) ?_
  refine tok_cons (snd_iload_n dX0_searchFrom_64 rfl rfl) ?_
  refine tok_cons (snd_iald dX0_searchFrom_65 rfl) ?_
  refine tok_cons (snd_iconst dX0_searchFrom_66 rfl (inr_d rfl) rfl) ?_
  refine tok_cons (snd_icmp_ne dX0_searchFrom_67 (by decide) rfl) ?_
  refine tok_cons (snd_ret dX0_searchFrom_70 rfl) ?_
  refine tok_cons (snd_aload_n dX0_searchFrom_71 rfl rfl) ?_
  refine tok_cons (snd_gr (C := RX0) (T := TX0) (N := 7) dX0_searchFrom_72 rfl (by decide) rfl wf0_31 inX0 rfl) ?_
  refine tok_cons (snd_aload_n dX0_searchFrom_75 rfl rfl) ?_
  refine tok_cons (snd_iload_n dX0_searchFrom_76 rfl rfl) ?_
  refine tok_cons (snd_cn dX0_searchFrom_77 mok_5_takePair ⟨wm0_77, wi_5_takePair, wl_5_takePair⟩ (rc := (RX5, TX5, 3)) rfl rfl pn_5_takePair (by decide) ⟨rfl, rfl⟩ rfl) ?_
  refine tok_cons (snd_aload_n dX0_searchFrom_80 rfl rfl) ?_
  refine tok_cons (snd_gr (C := RX0) (T := TX0) (N := 7) dX0_searchFrom_81 rfl (by decide) rfl wf0_24 inX0 rfl) ?_
  refine tok_cons (snd_aload_n dX0_searchFrom_84 rfl rfl) ?_
  refine tok_cons (snd_aload_n dX0_searchFrom_85 rfl rfl) ?_
  refine tok_cons (snd_gr (C := RX0) (T := TX0) (N := 7) dX0_searchFrom_86 rfl (by decide) rfl wf0_31 inX0 rfl) ?_
  refine tok_cons (snd_cn dX0_searchFrom_89 mok_2_put ⟨wm0_80, wi_2_put, wl_2_put⟩ (rc := (RX2, TX2, 7)) rfl rfl pn_2_put (by decide) ⟨rfl, rfl⟩ rfl) ?_
  refine tok_cons (snd_aload_n dX0_searchFrom_92 rfl rfl) ?_
  refine tok_cons (snd_gr (C := RX0) (T := TX0) (N := 7) dX0_searchFrom_93 rfl (by decide) rfl wf0_24 inX0 rfl) ?_
  refine tok_cons (snd_aload_n dX0_searchFrom_96 rfl rfl) ?_
  refine tok_cons (snd_gr (C := RX1) (T := TX1) (N := 5) dX0_searchFrom_97 rfl (by decide) rfl wf0_84 inX1 rfl) ?_
  refine tok_cons (snd_iconst dX0_searchFrom_100 rfl (inr_d rfl) rfl) ?_
  refine tok_cons (snd_iald dX0_searchFrom_101 rfl) ?_
  refine tok_cons (snd_aload_n dX0_searchFrom_102 rfl rfl) ?_
  refine tok_cons (snd_gr (C := RX1) (T := TX1) (N := 5) dX0_searchFrom_103 rfl (by decide) rfl wf0_84 inX1 rfl) ?_
  refine tok_cons (snd_iconst dX0_searchFrom_106 rfl (inr_d rfl) rfl) ?_
  refine tok_cons (snd_iald dX0_searchFrom_107 rfl) ?_
  refine tok_cons (snd_iconst dX0_searchFrom_108 rfl (inr_d rfl) rfl) ?_
  refine tok_cons (snd_cv dX0_searchFrom_109 mok_2_fits ⟨wm0_87, wi_2_fits, wl_2_fits⟩ (rc := (RX2, TX2, 7)) rfl rfl pn_2_fits (by decide) ⟨rfl, rfl⟩ rfl) ?_
  refine tok_cons (snd_if_ne dX0_searchFrom_112 (by decide) rfl) ?_
  refine tok_cons (snd_ret dX0_searchFrom_115 rfl) ?_
  refine tok_cons (snd_aload_n dX0_searchFrom_116 rfl rfl) ?_
  refine tok_cons (snd_aload_n dX0_searchFrom_117 rfl rfl) ?_
  refine tok_cons (snd_iload_n dX0_searchFrom_118 rfl rfl) ?_
  refine tok_cons (snd_iload_n dX0_searchFrom_119 rfl rfl) ?_
  refine tok_cons (snd_iconst dX0_searchFrom_120 rfl (inr_d rfl) rfl) ?_
  refine tok_cons (snd_add dX0_searchFrom_121 rfl) ?_
  refine tok_cons (snd_cn dX0_searchFrom_122 mok_0_considerGroup ⟨wm0_91, wi_0_considerGroup, wl_0_considerGroup⟩ (rc := (RX0, TX0, 7)) rfl rfl pn_0_considerGroup (by decide) ⟨rfl, rfl⟩ rfl) ?_
  refine tok_cons (snd_iinc dX0_searchFrom_125 rfl rfl (by decide)) ?_
  refine tok_cons (snd_goto dX0_searchFrom_128 (by decide)) ?_
  refine tok_cons (snd_ret dX0_searchFrom_131 rfl) ?_
  exact tok_nil
def tab_1_placePair (X : XT) : Tab := [(0, false, a_const 0 1), (1, false, a_istore 4 3), (3, false, a_iload 4 5), (5, false, a_const 4 6), (6, false, a_icmp 3 30 9), (9, false, a_aload 0 10), (10, false, a_gr 1 1 13), (13, false, a_iload 4 15), (15, false, a_aald 16), (16, false, a_iload 1 17), (17, false, a_aload 0 18), (18, false, a_gi 1 0 0 21), (21, false, a_sn X M_1_placePair M_7_openPlace 3 24), (24, false, a_iinc 4 1 27), (27, false, a_goto 3), (30, false, a_aload 0 31), (31, false, a_gr 1 1 34), (34, false, a_const 0 35), (35, false, a_aald 36), (36, false, a_iload 1 37), (37, false, a_iload 2 38), (38, false, a_ast false 39), (39, false, a_aload 0 40), (40, false, a_gr 1 1 43), (43, false, a_const 1 44), (44, false, a_aald 45), (45, false, a_iload 1 46), (46, false, a_iload 3 47), (47, false, a_ast false 48), (48, false, a_aload 0 49), (49, false, a_gr 1 1 52), (52, false, a_const 2 53), (53, false, a_aald 54), (54, false, a_iload 1 55), (55, false, a_const 0 56), (56, false, a_ast false 57), (57, false, a_aload 0 58), (58, false, a_gr 1 1 61), (61, false, a_const 3 62), (62, false, a_aald 63), (63, false, a_iload 1 64), (64, false, a_const 0 65), (65, false, a_ast false 66), (66, false, a_aload 0 67), (67, false, a_dup 68), (68, false, a_gi 1 0 0 71), (71, false, a_const 1 72), (72, false, a_add 73), (73, false, a_pi 1 0 0 false 76), (76, false, a_aload 0 77), (77, false, a_gr 1 2 80), (80, false, a_iload 1 81), (81, false, a_const 1 82), (82, false, a_cn X M_1_placePair M_4_movePairs 4 3 85), (85, false, a_aload 0 86), (86, false, a_gr 1 3 89), (89, false, a_iload 1 90), (90, false, a_const 1 91), (91, false, a_cn X M_1_placePair M_4_movePairs 4 3 94), (94, false, a_ret M_1_placePair)]
set_option maxRecDepth 20000 in
theorem t_1_placePair (X : XT) : tget (tab_1_placePair X) 0 = some (false, a_const 0 1) ∧ tget (tab_1_placePair X) 1 = some (false, a_istore 4 3) ∧ tget (tab_1_placePair X) 3 = some (false, a_iload 4 5) ∧ tget (tab_1_placePair X) 5 = some (false, a_const 4 6) ∧ tget (tab_1_placePair X) 6 = some (false, a_icmp 3 30 9) ∧ tget (tab_1_placePair X) 9 = some (false, a_aload 0 10) ∧ tget (tab_1_placePair X) 10 = some (false, a_gr 1 1 13) ∧ tget (tab_1_placePair X) 13 = some (false, a_iload 4 15) ∧ tget (tab_1_placePair X) 15 = some (false, a_aald 16) ∧ tget (tab_1_placePair X) 16 = some (false, a_iload 1 17) ∧ tget (tab_1_placePair X) 17 = some (false, a_aload 0 18) ∧ tget (tab_1_placePair X) 18 = some (false, a_gi 1 0 0 21) ∧ tget (tab_1_placePair X) 21 = some (false, a_sn X M_1_placePair M_7_openPlace 3 24) ∧ tget (tab_1_placePair X) 24 = some (false, a_iinc 4 1 27) ∧ tget (tab_1_placePair X) 27 = some (false, a_goto 3) ∧ tget (tab_1_placePair X) 30 = some (false, a_aload 0 31) ∧ tget (tab_1_placePair X) 31 = some (false, a_gr 1 1 34) ∧ tget (tab_1_placePair X) 34 = some (false, a_const 0 35) ∧ tget (tab_1_placePair X) 35 = some (false, a_aald 36) ∧ tget (tab_1_placePair X) 36 = some (false, a_iload 1 37) ∧ tget (tab_1_placePair X) 37 = some (false, a_iload 2 38) ∧ tget (tab_1_placePair X) 38 = some (false, a_ast false 39) ∧ tget (tab_1_placePair X) 39 = some (false, a_aload 0 40) ∧ tget (tab_1_placePair X) 40 = some (false, a_gr 1 1 43) ∧ tget (tab_1_placePair X) 43 = some (false, a_const 1 44) ∧ tget (tab_1_placePair X) 44 = some (false, a_aald 45) ∧ tget (tab_1_placePair X) 45 = some (false, a_iload 1 46) ∧ tget (tab_1_placePair X) 46 = some (false, a_iload 3 47) ∧ tget (tab_1_placePair X) 47 = some (false, a_ast false 48) ∧ tget (tab_1_placePair X) 48 = some (false, a_aload 0 49) ∧ tget (tab_1_placePair X) 49 = some (false, a_gr 1 1 52) ∧ tget (tab_1_placePair X) 52 = some (false, a_const 2 53) ∧ tget (tab_1_placePair X) 53 = some (false, a_aald 54) ∧ tget (tab_1_placePair X) 54 = some (false, a_iload 1 55) ∧ tget (tab_1_placePair X) 55 = some (false, a_const 0 56) ∧ tget (tab_1_placePair X) 56 = some (false, a_ast false 57) ∧ tget (tab_1_placePair X) 57 = some (false, a_aload 0 58) ∧ tget (tab_1_placePair X) 58 = some (false, a_gr 1 1 61) ∧ tget (tab_1_placePair X) 61 = some (false, a_const 3 62) ∧ tget (tab_1_placePair X) 62 = some (false, a_aald 63) ∧ tget (tab_1_placePair X) 63 = some (false, a_iload 1 64) ∧ tget (tab_1_placePair X) 64 = some (false, a_const 0 65) ∧ tget (tab_1_placePair X) 65 = some (false, a_ast false 66) ∧ tget (tab_1_placePair X) 66 = some (false, a_aload 0 67) ∧ tget (tab_1_placePair X) 67 = some (false, a_dup 68) ∧ tget (tab_1_placePair X) 68 = some (false, a_gi 1 0 0 71) ∧ tget (tab_1_placePair X) 71 = some (false, a_const 1 72) ∧ tget (tab_1_placePair X) 72 = some (false, a_add 73) ∧ tget (tab_1_placePair X) 73 = some (false, a_pi 1 0 0 false 76) ∧ tget (tab_1_placePair X) 76 = some (false, a_aload 0 77) ∧ tget (tab_1_placePair X) 77 = some (false, a_gr 1 2 80) ∧ tget (tab_1_placePair X) 80 = some (false, a_iload 1 81) ∧ tget (tab_1_placePair X) 81 = some (false, a_const 1 82) ∧ tget (tab_1_placePair X) 82 = some (false, a_cn X M_1_placePair M_4_movePairs 4 3 85) ∧ tget (tab_1_placePair X) 85 = some (false, a_aload 0 86) ∧ tget (tab_1_placePair X) 86 = some (false, a_gr 1 3 89) ∧ tget (tab_1_placePair X) 89 = some (false, a_iload 1 90) ∧ tget (tab_1_placePair X) 90 = some (false, a_const 1 91) ∧ tget (tab_1_placePair X) 91 = some (false, a_cn X M_1_placePair M_4_movePairs 4 3 94) ∧ tget (tab_1_placePair X) 94 = some (false, a_ret M_1_placePair) := ⟨rfl, rfl, rfl, rfl, rfl, rfl, rfl, rfl, rfl, rfl, rfl, rfl, rfl, rfl, rfl, rfl, rfl, rfl, rfl, rfl, rfl, rfl, rfl, rfl, rfl, rfl, rfl, rfl, rfl, rfl, rfl, rfl, rfl, rfl, rfl, rfl, rfl, rfl, rfl, rfl, rfl, rfl, rfl, rfl, rfl, rfl, rfl, rfl, rfl, rfl, rfl, rfl, rfl, rfl, rfl, rfl, rfl, rfl, rfl, rfl⟩
theorem tok_1_placePair (X : XT) : TabOK X M_1_placePair (tab_1_placePair X) := by
  unfold tab_1_placePair
  refine tok_cons (snd_iconst dX1_placePair_0 rfl (inr_d rfl) rfl) ?_
  refine tok_cons (snd_istore dX1_placePair_1 rfl (by decide)) ?_
  refine tok_cons (snd_iload dX1_placePair_3 rfl) ?_
  refine tok_cons (snd_iconst dX1_placePair_5 rfl (inr_d rfl) rfl) ?_
  refine tok_cons (snd_icmp_ge dX1_placePair_6 (by decide) rfl) ?_
  refine tok_cons (snd_aload_n dX1_placePair_9 rfl rfl) ?_
  refine tok_cons (snd_gr (C := RX1) (T := TX1) (N := 5) dX1_placePair_10 rfl (by decide) rfl wf1_11 inX1 rfl) ?_
  refine tok_cons (snd_iload dX1_placePair_13 rfl) ?_
  refine tok_cons (snd_aald dX1_placePair_15 rfl) ?_
  refine tok_cons (snd_iload_n dX1_placePair_16 rfl rfl) ?_
  refine tok_cons (snd_aload_n dX1_placePair_17 rfl rfl) ?_
  refine tok_cons (snd_gi (C := RX1) (T := TX1) (N := 5) dX1_placePair_18 rfl (by decide) rfl wf1_38 inX1 rfl rfl) ?_
  refine tok_cons (snd_sn dX1_placePair_21 mok_7_openPlace ⟨ws_7_openPlace, Or.inr (List.mem_of_getElem? (i := 12) rfl)⟩ pn_7_openPlace (by decide) ⟨rfl, rfl⟩ rfl) ?_
  refine tok_cons (snd_iinc dX1_placePair_24 rfl rfl (by decide)) ?_
  refine tok_cons (snd_goto dX1_placePair_27 (by decide)) ?_
  refine tok_cons (snd_aload_n dX1_placePair_30 rfl rfl) ?_
  refine tok_cons (snd_gr (C := RX1) (T := TX1) (N := 5) dX1_placePair_31 rfl (by decide) rfl wf1_11 inX1 rfl) ?_
  refine tok_cons (snd_iconst dX1_placePair_34 rfl (inr_d rfl) rfl) ?_
  refine tok_cons (snd_aald dX1_placePair_35 rfl) ?_
  refine tok_cons (snd_iload_n dX1_placePair_36 rfl rfl) ?_
  refine tok_cons (snd_iload_n dX1_placePair_37 rfl rfl) ?_
  refine tok_cons (snd_iast dX1_placePair_38 rfl) ?_
  refine tok_cons (snd_aload_n dX1_placePair_39 rfl rfl) ?_
  refine tok_cons (snd_gr (C := RX1) (T := TX1) (N := 5) dX1_placePair_40 rfl (by decide) rfl wf1_11 inX1 rfl) ?_
  refine tok_cons (snd_iconst dX1_placePair_43 rfl (inr_d rfl) rfl) ?_
  refine tok_cons (snd_aald dX1_placePair_44 rfl) ?_
  refine tok_cons (snd_iload_n dX1_placePair_45 rfl rfl) ?_
  refine tok_cons (snd_iload_n dX1_placePair_46 rfl rfl) ?_
  refine tok_cons (snd_iast dX1_placePair_47 rfl) ?_
  refine tok_cons (snd_aload_n dX1_placePair_48 rfl rfl) ?_
  refine tok_cons (snd_gr (C := RX1) (T := TX1) (N := 5) dX1_placePair_49 rfl (by decide) rfl wf1_11 inX1 rfl) ?_
  refine tok_cons (snd_iconst dX1_placePair_52 rfl (inr_d rfl) rfl) ?_
  refine tok_cons (snd_aald dX1_placePair_53 rfl) ?_
  refine tok_cons (snd_iload_n dX1_placePair_54 rfl rfl) ?_
  refine tok_cons (snd_iconst dX1_placePair_55 rfl (inr_d rfl) rfl) ?_
  refine tok_cons (snd_iast dX1_placePair_56 rfl) ?_
  refine tok_cons (snd_aload_n dX1_placePair_57 rfl rfl) ?_
  refine tok_cons (snd_gr (C := RX1) (T := TX1) (N := 5) dX1_placePair_58 rfl (by decide) rfl wf1_11 inX1 rfl) ?_
  refine tok_cons (snd_iconst dX1_placePair_61 rfl (inr_d rfl) rfl) ?_
  refine tok_cons (snd_aald dX1_placePair_62 rfl) ?_
  refine tok_cons (snd_iload_n dX1_placePair_63 rfl rfl) ?_
  refine tok_cons (snd_iconst dX1_placePair_64 rfl (inr_d rfl) rfl) ?_
  refine tok_cons (snd_iast dX1_placePair_65 rfl) ?_
  refine tok_cons (snd_aload_n dX1_placePair_66 rfl rfl) ?_
  refine tok_cons (snd_dup dX1_placePair_67 rfl) ?_
  refine tok_cons (snd_gi (C := RX1) (T := TX1) (N := 5) dX1_placePair_68 rfl (by decide) rfl wf1_38 inX1 rfl rfl) ?_
  refine tok_cons (snd_iconst dX1_placePair_71 rfl (inr_d rfl) rfl) ?_
  refine tok_cons (snd_add dX1_placePair_72 rfl) ?_
  refine tok_cons (snd_pi (C := RX1) (T := TX1) (N := 5) (ty0 := tyX1) dX1_placePair_73 rfl (by decide) rfl wf1_38 inX1 tyX1_ok nmX1 (by decide +kernel) rfl rfl) ?_
  refine tok_cons (snd_aload_n dX1_placePair_76 rfl rfl) ?_
  refine tok_cons (snd_gr (C := RX1) (T := TX1) (N := 5) dX1_placePair_77 rfl (by decide) rfl wf1_19 inX1 rfl) ?_
  refine tok_cons (snd_iload_n dX1_placePair_80 rfl rfl) ?_
  refine tok_cons (snd_iconst dX1_placePair_81 rfl (inr_d rfl) rfl) ?_
  refine tok_cons (snd_cn dX1_placePair_82 mok_4_movePairs ⟨wm1_57, wi_4_movePairs, wl_4_movePairs⟩ (rc := (RX4, TX4, 2)) rfl rfl pn_4_movePairs (by decide) ⟨rfl, rfl⟩ rfl) ?_
  refine tok_cons (snd_aload_n dX1_placePair_85 rfl rfl) ?_
  refine tok_cons (snd_gr (C := RX1) (T := TX1) (N := 5) dX1_placePair_86 rfl (by decide) rfl wf1_23 inX1 rfl) ?_
  refine tok_cons (snd_iload_n dX1_placePair_89 rfl rfl) ?_
  refine tok_cons (snd_iconst dX1_placePair_90 rfl (inr_d rfl) rfl) ?_
  refine tok_cons (snd_cn dX1_placePair_91 mok_4_movePairs ⟨wm1_57, wi_4_movePairs, wl_4_movePairs⟩ (rc := (RX4, TX4, 2)) rfl rfl pn_4_movePairs (by decide) ⟨rfl, rfl⟩ rfl) ?_
  refine tok_cons (snd_ret dX1_placePair_94 rfl) ?_
  exact tok_nil
def tab_3_record (X : XT) : Tab := [(0, false, a_aload 0 1), (1, false, a_gr 3 2 4), (4, false, a_aload 0 5), (5, false, a_gi 3 1 1 8), (8, false, a_aald 9), (9, false, a_astore 2 10), (10, false, a_aload 2 11), (11, false, a_ifnull 14), (14, false, a_aload 2 15), (15, false, a_aload 1 16), (16, false, a_cn X M_3_record M_1_copyFrom 1 2 19), (19, false, a_aload 0 20), (20, false, a_aload 0 21), (21, false, a_gi 3 1 1 24), (24, false, a_const 1 25), (25, false, a_add 26), (26, false, a_const 6 28), (28, false, a_icmp 3 40 31), (31, false, a_aload 0 32), (32, false, a_gi 3 1 1 35), (35, false, a_const 1 36), (36, false, a_add 37), (37, false, a_goto 41), (40, false, a_const 0 41), (41, false, a_pi 3 1 1 false 44), (44, false, a_aload 0 45), (45, false, a_aload 0 46), (46, false, a_gi 3 0 0 49), (49, false, a_const 1 50), (50, false, a_add 51), (51, false, a_const 6 53), (53, false, a_min M_3_record 56), (56, false, a_pi 3 0 0 false 59), (59, false, a_ret M_3_record)]
set_option maxRecDepth 20000 in
theorem t_3_record (X : XT) : tget (tab_3_record X) 0 = some (false, a_aload 0 1) ∧ tget (tab_3_record X) 1 = some (false, a_gr 3 2 4) ∧ tget (tab_3_record X) 4 = some (false, a_aload 0 5) ∧ tget (tab_3_record X) 5 = some (false, a_gi 3 1 1 8) ∧ tget (tab_3_record X) 8 = some (false, a_aald 9) ∧ tget (tab_3_record X) 9 = some (false, a_astore 2 10) ∧ tget (tab_3_record X) 10 = some (false, a_aload 2 11) ∧ tget (tab_3_record X) 11 = some (false, a_ifnull 14) ∧ tget (tab_3_record X) 14 = some (false, a_aload 2 15) ∧ tget (tab_3_record X) 15 = some (false, a_aload 1 16) ∧ tget (tab_3_record X) 16 = some (false, a_cn X M_3_record M_1_copyFrom 1 2 19) ∧ tget (tab_3_record X) 19 = some (false, a_aload 0 20) ∧ tget (tab_3_record X) 20 = some (false, a_aload 0 21) ∧ tget (tab_3_record X) 21 = some (false, a_gi 3 1 1 24) ∧ tget (tab_3_record X) 24 = some (false, a_const 1 25) ∧ tget (tab_3_record X) 25 = some (false, a_add 26) ∧ tget (tab_3_record X) 26 = some (false, a_const 6 28) ∧ tget (tab_3_record X) 28 = some (false, a_icmp 3 40 31) ∧ tget (tab_3_record X) 31 = some (false, a_aload 0 32) ∧ tget (tab_3_record X) 32 = some (false, a_gi 3 1 1 35) ∧ tget (tab_3_record X) 35 = some (false, a_const 1 36) ∧ tget (tab_3_record X) 36 = some (false, a_add 37) ∧ tget (tab_3_record X) 37 = some (false, a_goto 41) ∧ tget (tab_3_record X) 40 = some (false, a_const 0 41) ∧ tget (tab_3_record X) 41 = some (false, a_pi 3 1 1 false 44) ∧ tget (tab_3_record X) 44 = some (false, a_aload 0 45) ∧ tget (tab_3_record X) 45 = some (false, a_aload 0 46) ∧ tget (tab_3_record X) 46 = some (false, a_gi 3 0 0 49) ∧ tget (tab_3_record X) 49 = some (false, a_const 1 50) ∧ tget (tab_3_record X) 50 = some (false, a_add 51) ∧ tget (tab_3_record X) 51 = some (false, a_const 6 53) ∧ tget (tab_3_record X) 53 = some (false, a_min M_3_record 56) ∧ tget (tab_3_record X) 56 = some (false, a_pi 3 0 0 false 59) ∧ tget (tab_3_record X) 59 = some (false, a_ret M_3_record) := ⟨rfl, rfl, rfl, rfl, rfl, rfl, rfl, rfl, rfl, rfl, rfl, rfl, rfl, rfl, rfl, rfl, rfl, rfl, rfl, rfl, rfl, rfl, rfl, rfl, rfl, rfl, rfl, rfl, rfl, rfl, rfl, rfl, rfl, rfl⟩
theorem tok_3_record (X : XT) : TabOK X M_3_record (tab_3_record X) := by
  unfold tab_3_record
  refine tok_cons (snd_aload_n dX3_record_0 rfl rfl) ?_
  refine tok_cons (snd_gr (C := RX3) (T := TX3) (N := 3) dX3_record_1 rfl (by decide) rfl wf3_11 inX3 rfl) ?_
  refine tok_cons (snd_aload_n dX3_record_4 rfl rfl) ?_
  refine tok_cons (snd_gi (C := RX3) (T := TX3) (N := 3) dX3_record_5 rfl (by decide) rfl wf3_18 inX3 rfl rfl) ?_
  refine tok_cons (snd_aald dX3_record_8 rfl) ?_
  refine tok_cons (snd_astore_n dX3_record_9 rfl rfl (by decide)) ?_
  refine tok_cons (snd_aload_n dX3_record_10 rfl rfl) ?_
  refine tok_cons (snd_ifnull dX3_record_11 rfl) ?_
  refine tok_cons (snd_aload_n dX3_record_14 rfl rfl) ?_
  refine tok_cons (snd_aload_n dX3_record_15 rfl rfl) ?_
  refine tok_cons (snd_cn dX3_record_16 mok_1_copyFrom ⟨wm3_22, wi_1_copyFrom, wl_1_copyFrom⟩ (rc := (RX1, TX1, 5)) rfl rfl pn_1_copyFrom (by decide) ⟨rfl, rfl⟩ rfl) ?_
  refine tok_cons (snd_aload_n dX3_record_19 rfl rfl) ?_
  refine tok_cons (snd_aload_n dX3_record_20 rfl rfl) ?_
  refine tok_cons (snd_gi (C := RX3) (T := TX3) (N := 3) dX3_record_21 rfl (by decide) rfl wf3_18 inX3 rfl rfl) ?_
  refine tok_cons (snd_iconst dX3_record_24 rfl (inr_d rfl) rfl) ?_
  refine tok_cons (snd_add dX3_record_25 rfl) ?_
  refine tok_cons (snd_bipush dX3_record_26 (by decide) (inr_d rfl) rfl) ?_
  refine tok_cons (snd_icmp_ge dX3_record_28 (by decide) rfl) ?_
  refine tok_cons (snd_aload_n dX3_record_31 rfl rfl) ?_
  refine tok_cons (snd_gi (C := RX3) (T := TX3) (N := 3) dX3_record_32 rfl (by decide) rfl wf3_18 inX3 rfl rfl) ?_
  refine tok_cons (snd_iconst dX3_record_35 rfl (inr_d rfl) rfl) ?_
  refine tok_cons (snd_add dX3_record_36 rfl) ?_
  refine tok_cons (snd_goto dX3_record_37 (by decide)) ?_
  refine tok_cons (snd_iconst dX3_record_40 rfl (inr_d rfl) rfl) ?_
  refine tok_cons (snd_pi (C := RX3) (T := TX3) (N := 3) (ty0 := tyX3) dX3_record_41 rfl (by decide) rfl wf3_18 inX3 tyX3_ok nmX3 (by decide +kernel) rfl rfl) ?_
  refine tok_cons (snd_aload_n dX3_record_44 rfl rfl) ?_
  refine tok_cons (snd_aload_n dX3_record_45 rfl rfl) ?_
  refine tok_cons (snd_gi (C := RX3) (T := TX3) (N := 3) dX3_record_46 rfl (by decide) rfl wf3_26 inX3 rfl rfl) ?_
  refine tok_cons (snd_iconst dX3_record_49 rfl (inr_d rfl) rfl) ?_
  refine tok_cons (snd_add dX3_record_50 rfl) ?_
  refine tok_cons (snd_bipush dX3_record_51 (by decide) (inr_d rfl) rfl) ?_
  refine tok_cons (snd_min dX3_record_53 wm3_29 ws_min wn_Math wc_min (by decide) rfl) ?_
  refine tok_cons (snd_pi (C := RX3) (T := TX3) (N := 3) (ty0 := tyX3) dX3_record_56 rfl (by decide) rfl wf3_26 inX3 tyX3_ok nmX3 (by decide +kernel) rfl rfl) ?_
  refine tok_cons (snd_ret dX3_record_59 rfl) ?_
  exact tok_nil
def tab_3_restore (X : XT) : Tab := [(0, false, a_aload 0 1), (1, false, a_aload 0 2), (2, false, a_gi 3 1 1 5), (5, false, a_if 5 17 8), (8, false, a_aload 0 9), (9, false, a_gi 3 1 1 12), (12, false, a_const 1 13), (13, false, a_sub 14), (14, false, a_goto 18), (17, false, a_const 5 18), (18, false, a_pi 3 1 1 false 21), (21, false, a_aload 0 22), (22, false, a_dup 23), (23, false, a_gi 3 0 0 26), (26, false, a_const 1 27), (27, false, a_sub 28), (28, false, a_pi 3 0 0 false 31), (31, false, a_aload 0 32), (32, false, a_gr 3 2 35), (35, false, a_aload 0 36), (36, false, a_gi 3 1 1 39), (39, false, a_aald 40), (40, false, a_astore 2 41), (41, false, a_aload 2 42), (42, false, a_ifnull 45), (45, false, a_aload 1 46), (46, false, a_aload 2 47), (47, false, a_cn X M_3_restore M_1_copyFrom 1 2 50), (50, false, a_ret M_3_restore)]
set_option maxRecDepth 20000 in
theorem t_3_restore (X : XT) : tget (tab_3_restore X) 0 = some (false, a_aload 0 1) ∧ tget (tab_3_restore X) 1 = some (false, a_aload 0 2) ∧ tget (tab_3_restore X) 2 = some (false, a_gi 3 1 1 5) ∧ tget (tab_3_restore X) 5 = some (false, a_if 5 17 8) ∧ tget (tab_3_restore X) 8 = some (false, a_aload 0 9) ∧ tget (tab_3_restore X) 9 = some (false, a_gi 3 1 1 12) ∧ tget (tab_3_restore X) 12 = some (false, a_const 1 13) ∧ tget (tab_3_restore X) 13 = some (false, a_sub 14) ∧ tget (tab_3_restore X) 14 = some (false, a_goto 18) ∧ tget (tab_3_restore X) 17 = some (false, a_const 5 18) ∧ tget (tab_3_restore X) 18 = some (false, a_pi 3 1 1 false 21) ∧ tget (tab_3_restore X) 21 = some (false, a_aload 0 22) ∧ tget (tab_3_restore X) 22 = some (false, a_dup 23) ∧ tget (tab_3_restore X) 23 = some (false, a_gi 3 0 0 26) ∧ tget (tab_3_restore X) 26 = some (false, a_const 1 27) ∧ tget (tab_3_restore X) 27 = some (false, a_sub 28) ∧ tget (tab_3_restore X) 28 = some (false, a_pi 3 0 0 false 31) ∧ tget (tab_3_restore X) 31 = some (false, a_aload 0 32) ∧ tget (tab_3_restore X) 32 = some (false, a_gr 3 2 35) ∧ tget (tab_3_restore X) 35 = some (false, a_aload 0 36) ∧ tget (tab_3_restore X) 36 = some (false, a_gi 3 1 1 39) ∧ tget (tab_3_restore X) 39 = some (false, a_aald 40) ∧ tget (tab_3_restore X) 40 = some (false, a_astore 2 41) ∧ tget (tab_3_restore X) 41 = some (false, a_aload 2 42) ∧ tget (tab_3_restore X) 42 = some (false, a_ifnull 45) ∧ tget (tab_3_restore X) 45 = some (false, a_aload 1 46) ∧ tget (tab_3_restore X) 46 = some (false, a_aload 2 47) ∧ tget (tab_3_restore X) 47 = some (false, a_cn X M_3_restore M_1_copyFrom 1 2 50) ∧ tget (tab_3_restore X) 50 = some (false, a_ret M_3_restore) := ⟨rfl, rfl, rfl, rfl, rfl, rfl, rfl, rfl, rfl, rfl, rfl, rfl, rfl, rfl, rfl, rfl, rfl, rfl, rfl, rfl, rfl, rfl, rfl, rfl, rfl, rfl, rfl, rfl, rfl⟩
theorem tok_3_restore (X : XT) : TabOK X M_3_restore (tab_3_restore X) := by
  unfold tab_3_restore
  refine tok_cons (snd_aload_n dX3_restore_0 rfl rfl) ?_
  refine tok_cons (snd_aload_n dX3_restore_1 rfl rfl) ?_
  refine tok_cons (snd_gi (C := RX3) (T := TX3) (N := 3) dX3_restore_2 rfl (by decide) rfl wf3_18 inX3 rfl rfl) ?_
  refine tok_cons (snd_if_le dX3_restore_5 (by decide) rfl) ?_
  refine tok_cons (snd_aload_n dX3_restore_8 rfl rfl) ?_
  refine tok_cons (snd_gi (C := RX3) (T := TX3) (N := 3) dX3_restore_9 rfl (by decide) rfl wf3_18 inX3 rfl rfl) ?_
  refine tok_cons (snd_iconst dX3_restore_12 rfl (inr_d rfl) rfl) ?_
  refine tok_cons (snd_sub dX3_restore_13 rfl) ?_
  refine tok_cons (snd_goto dX3_restore_14 (by decide)) ?_
  refine tok_cons (snd_iconst dX3_restore_17 rfl (inr_d rfl) rfl) ?_
  refine tok_cons (snd_pi (C := RX3) (T := TX3) (N := 3) (ty0 := tyX3) dX3_restore_18 rfl (by decide) rfl wf3_18 inX3 tyX3_ok nmX3 (by decide +kernel) rfl rfl) ?_
  refine tok_cons (snd_aload_n dX3_restore_21 rfl rfl) ?_
  refine tok_cons (snd_dup dX3_restore_22 rfl) ?_
  refine tok_cons (snd_gi (C := RX3) (T := TX3) (N := 3) dX3_restore_23 rfl (by decide) rfl wf3_26 inX3 rfl rfl) ?_
  refine tok_cons (snd_iconst dX3_restore_26 rfl (inr_d rfl) rfl) ?_
  refine tok_cons (snd_sub dX3_restore_27 rfl) ?_
  refine tok_cons (snd_pi (C := RX3) (T := TX3) (N := 3) (ty0 := tyX3) dX3_restore_28 rfl (by decide) rfl wf3_26 inX3 tyX3_ok nmX3 (by decide +kernel) rfl rfl) ?_
  refine tok_cons (snd_aload_n dX3_restore_31 rfl rfl) ?_
  refine tok_cons (snd_gr (C := RX3) (T := TX3) (N := 3) dX3_restore_32 rfl (by decide) rfl wf3_11 inX3 rfl) ?_
  refine tok_cons (snd_aload_n dX3_restore_35 rfl rfl) ?_
  refine tok_cons (snd_gi (C := RX3) (T := TX3) (N := 3) dX3_restore_36 rfl (by decide) rfl wf3_18 inX3 rfl rfl) ?_
  refine tok_cons (snd_aald dX3_restore_39 rfl) ?_
  refine tok_cons (snd_astore_n dX3_restore_40 rfl rfl (by decide)) ?_
  refine tok_cons (snd_aload_n dX3_restore_41 rfl rfl) ?_
  refine tok_cons (snd_ifnull dX3_restore_42 rfl) ?_
  refine tok_cons (snd_aload_n dX3_restore_45 rfl rfl) ?_
  refine tok_cons (snd_aload_n dX3_restore_46 rfl rfl) ?_
  refine tok_cons (snd_cn dX3_restore_47 mok_1_copyFrom ⟨wm3_22, wi_1_copyFrom, wl_1_copyFrom⟩ (rc := (RX1, TX1, 5)) rfl rfl pn_1_copyFrom (by decide) ⟨rfl, rfl⟩ rfl) ?_
  refine tok_cons (snd_ret dX3_restore_50 rfl) ?_
  exact tok_nil
def tab_6_putRest (X : XT) : Tab := [(0, false, a_aload 0 1), (1, false, a_aload 1 2), (2, false, a_aload 0 3), (3, false, a_gr 6 9 6), (6, false, a_const 0 7), (7, false, a_cn X M_6_putRest M_6_addSegment 6 4 10), (10, false, a_aload 0 11), (11, false, a_gr 6 9 14), (14, false, a_aload 1 15), (15, false, a_aload 0 16), (16, false, a_gr 6 9 19), (19, false, a_gi 5 0 0 22), (22, false, a_const 1 23), (23, false, a_add 24), (24, false, a_cn X M_6_putRest M_5_takePair 5 3 27), (27, false, a_ret M_6_putRest)]
set_option maxRecDepth 20000 in
theorem t_6_putRest (X : XT) : tget (tab_6_putRest X) 0 = some (false, a_aload 0 1) ∧ tget (tab_6_putRest X) 1 = some (false, a_aload 1 2) ∧ tget (tab_6_putRest X) 2 = some (false, a_aload 0 3) ∧ tget (tab_6_putRest X) 3 = some (false, a_gr 6 9 6) ∧ tget (tab_6_putRest X) 6 = some (false, a_const 0 7) ∧ tget (tab_6_putRest X) 7 = some (false, a_cn X M_6_putRest M_6_addSegment 6 4 10) ∧ tget (tab_6_putRest X) 10 = some (false, a_aload 0 11) ∧ tget (tab_6_putRest X) 11 = some (false, a_gr 6 9 14) ∧ tget (tab_6_putRest X) 14 = some (false, a_aload 1 15) ∧ tget (tab_6_putRest X) 15 = some (false, a_aload 0 16) ∧ tget (tab_6_putRest X) 16 = some (false, a_gr 6 9 19) ∧ tget (tab_6_putRest X) 19 = some (false, a_gi 5 0 0 22) ∧ tget (tab_6_putRest X) 22 = some (false, a_const 1 23) ∧ tget (tab_6_putRest X) 23 = some (false, a_add 24) ∧ tget (tab_6_putRest X) 24 = some (false, a_cn X M_6_putRest M_5_takePair 5 3 27) ∧ tget (tab_6_putRest X) 27 = some (false, a_ret M_6_putRest) := ⟨rfl, rfl, rfl, rfl, rfl, rfl, rfl, rfl, rfl, rfl, rfl, rfl, rfl, rfl, rfl, rfl⟩
theorem tok_6_putRest (X : XT) : TabOK X M_6_putRest (tab_6_putRest X) := by
  unfold tab_6_putRest
  refine tok_cons (snd_aload_n dX6_putRest_0 rfl rfl) ?_
  refine tok_cons (snd_aload_n dX6_putRest_1 rfl rfl) ?_
  refine tok_cons (snd_aload_n dX6_putRest_2 rfl rfl) ?_
  refine tok_cons (snd_gr (C := RX6) (T := TX6) (N := 11) dX6_putRest_3 rfl (by decide) rfl wf6_43 inX6 rfl) ?_
  refine tok_cons (snd_iconst dX6_putRest_6 rfl (inr_d rfl) rfl) ?_
  refine tok_cons (snd_cn dX6_putRest_7 mok_6_addSegment ⟨wm6_104, wi_6_addSegment, wl_6_addSegment⟩ (rc := (RX6, TX6, 11)) rfl rfl pn_6_addSegment (by decide) ⟨rfl, rfl⟩ rfl) ?_
  refine tok_cons (snd_aload_n dX6_putRest_10 rfl rfl) ?_
  refine tok_cons (snd_gr (C := RX6) (T := TX6) (N := 11) dX6_putRest_11 rfl (by decide) rfl wf6_43 inX6 rfl) ?_
  refine tok_cons (snd_aload_n dX6_putRest_14 rfl rfl) ?_
  refine tok_cons (snd_aload_n dX6_putRest_15 rfl rfl) ?_
  refine tok_cons (snd_gr (C := RX6) (T := TX6) (N := 11) dX6_putRest_16 rfl (by decide) rfl wf6_43 inX6 rfl) ?_
  refine tok_cons (snd_gi (C := RX5) (T := TX5) (N := 3) dX6_putRest_19 rfl (by decide) rfl wf6_64 inX5 rfl rfl) ?_
  refine tok_cons (snd_iconst dX6_putRest_22 rfl (inr_d rfl) rfl) ?_
  refine tok_cons (snd_add dX6_putRest_23 rfl) ?_
  refine tok_cons (snd_cn dX6_putRest_24 mok_5_takePair ⟨wm6_56, wi_5_takePair, wl_5_takePair⟩ (rc := (RX5, TX5, 3)) rfl rfl pn_5_takePair (by decide) ⟨rfl, rfl⟩ rfl) ?_
  refine tok_cons (snd_ret dX6_putRest_27 rfl) ?_
  exact tok_nil
def tab_6_findStart (X : XT) : Tab := [(0, false, a_aload 1 1), (1, false, a_gr 1 4 4), (4, false, a_const 3 5), (5, false, a_ald false 6), (6, false, a_istore 2 7), (7, false, a_aload 0 8), (8, false, a_gr 6 9 11), (11, false, a_gr 5 2 14), (14, false, a_const 0 15), (15, false, a_ald false 16), (16, false, a_istore 3 17), (17, false, a_aload 0 18), (18, false, a_gr 6 9 21), (21, false, a_gr 5 2 24), (24, false, a_const 1 25), (25, false, a_ald false 26), (26, false, a_istore 4 28), (28, false, a_iload 3 29), (29, false, a_if 4 34 32), (32, false, a_const 0 33), (33, false, a_zret M_6_findStart), (34, false, a_iload 3 35), (35, false, a_iload 2 36), (36, false, a_sub 37), (37, false, a_aload 0 38), (38, false, a_gi 6 0 0 41), (41, false, a_aload 0 42), (42, false, a_gr 6 7 45), (45, false, a_gr 2 1 48), (48, false, a_const 0 49), (49, false, a_ald false 50), (50, false, a_sub 51), (51, false, a_min M_6_findStart 54), (54, false, a_istore 5 56), (56, false, a_iload 5 58), (58, false, a_istore 6 60), (60, true, a_iload 6 62), (62, false, a_iload 2 63), (63, false, a_icmp 2 131 66), (66, false, a_const 2 67), (67, false, a_iload 6 69), (69, false, a_mul 70), (70, false, a_iload 4 72), (72, false, a_mul 73), (73, false, a_iload 3 74), (74, false, a_add 75), (75, false, a_const 2 76), (76, false, a_iload 3 77), (77, false, a_mul 78), (78, false, a_div 79), (79, false, a_istore 7 81), (81, false, a_iload 7 83), (83, false, a_iload 2 84), (84, false, a_icmp 2 125 87), (87, false, a_iload 4 89), (89, false, a_iload 7 91), (91, false, a_sub 92), (92, false, a_iload 2 93), (93, false, a_icmp 2 125 96), (96, false, a_aload 0 97), (97, false, a_gr 6 10 100), (100, false, a_aload 0 101), (101, false, a_gr 6 9 104), (104, false, a_iload 6 106), (106, false, a_iload 7 108), (108, false, a_cn X M_6_findStart M_5_takeStart 5 4 111), (111, false, a_aload 0 112), (112, false, a_aload 1 113), (113, false, a_aload 0 114), (114, false, a_gr 6 10 117), (117, false, a_cv X M_6_findStart M_6_fits 6 3 120), (120, false, a_if 0 125 123), (123, false, a_const 1 124), (124, false, a_zret M_6_findStart), (125, false, a_iinc 6 (-1) 128), (128, false, a_goto 60), (131, false, a_const 0 132), (132, false, a_zret M_6_findStart)]
set_option maxRecDepth 20000 in
theorem t_6_findStart (X : XT) : tget (tab_6_findStart X) 0 = some (false, a_aload 1 1) ∧ tget (tab_6_findStart X) 1 = some (false, a_gr 1 4 4) ∧ tget (tab_6_findStart X) 4 = some (false, a_const 3 5) ∧ tget (tab_6_findStart X) 5 = some (false, a_ald false 6) ∧ tget (tab_6_findStart X) 6 = some (false, a_istore 2 7) ∧ tget (tab_6_findStart X) 7 = some (false, a_aload 0 8) ∧ tget (tab_6_findStart X) 8 = some (false, a_gr 6 9 11) ∧ tget (tab_6_findStart X) 11 = some (false, a_gr 5 2 14) ∧ tget (tab_6_findStart X) 14 = some (false, a_const 0 15) ∧ tget (tab_6_findStart X) 15 = some (false, a_ald false 16) ∧ tget (tab_6_findStart X) 16 = some (false, a_istore 3 17) ∧ tget (tab_6_findStart X) 17 = some (false, a_aload 0 18) ∧ tget (tab_6_findStart X) 18 = some (false, a_gr 6 9 21) ∧ tget (tab_6_findStart X) 21 = some (false, a_gr 5 2 24) ∧ tget (tab_6_findStart X) 24 = some (false, a_const 1 25) ∧ tget (tab_6_findStart X) 25 = some (false, a_ald false 26) ∧ tget (tab_6_findStart X) 26 = some (false, a_istore 4 28) ∧ tget (tab_6_findStart X) 28 = some (false, a_iload 3 29) ∧ tget (tab_6_findStart X) 29 = some (false, a_if 4 34 32) ∧ tget (tab_6_findStart X) 32 = some (false, a_const 0 33) ∧ tget (tab_6_findStart X) 33 = some (false, a_zret M_6_findStart) ∧ tget (tab_6_findStart X) 34 = some (false, a_iload 3 35) ∧ tget (tab_6_findStart X) 35 = some (false, a_iload 2 36) ∧ tget (tab_6_findStart X) 36 = some (false, a_sub 37) ∧ tget (tab_6_findStart X) 37 = some (false, a_aload 0 38) ∧ tget (tab_6_findStart X) 38 = some (false, a_gi 6 0 0 41) ∧ tget (tab_6_findStart X) 41 = some (false, a_aload 0 42) ∧ tget (tab_6_findStart X) 42 = some (false, a_gr 6 7 45) ∧ tget (tab_6_findStart X) 45 = some (false, a_gr 2 1 48) ∧ tget (tab_6_findStart X) 48 = some (false, a_const 0 49) ∧ tget (tab_6_findStart X) 49 = some (false, a_ald false 50) ∧ tget (tab_6_findStart X) 50 = some (false, a_sub 51) ∧ tget (tab_6_findStart X) 51 = some (false, a_min M_6_findStart 54) ∧ tget (tab_6_findStart X) 54 = some (false, a_istore 5 56) ∧ tget (tab_6_findStart X) 56 = some (false, a_iload 5 58) ∧ tget (tab_6_findStart X) 58 = some (false, a_istore 6 60) ∧ tget (tab_6_findStart X) 60 = some (true, a_iload 6 62) ∧ tget (tab_6_findStart X) 62 = some (false, a_iload 2 63) ∧ tget (tab_6_findStart X) 63 = some (false, a_icmp 2 131 66) ∧ tget (tab_6_findStart X) 66 = some (false, a_const 2 67) ∧ tget (tab_6_findStart X) 67 = some (false, a_iload 6 69) ∧ tget (tab_6_findStart X) 69 = some (false, a_mul 70) ∧ tget (tab_6_findStart X) 70 = some (false, a_iload 4 72) ∧ tget (tab_6_findStart X) 72 = some (false, a_mul 73) ∧ tget (tab_6_findStart X) 73 = some (false, a_iload 3 74) ∧ tget (tab_6_findStart X) 74 = some (false, a_add 75) ∧ tget (tab_6_findStart X) 75 = some (false, a_const 2 76) ∧ tget (tab_6_findStart X) 76 = some (false, a_iload 3 77) ∧ tget (tab_6_findStart X) 77 = some (false, a_mul 78) ∧ tget (tab_6_findStart X) 78 = some (false, a_div 79) ∧ tget (tab_6_findStart X) 79 = some (false, a_istore 7 81) ∧ tget (tab_6_findStart X) 81 = some (false, a_iload 7 83) ∧ tget (tab_6_findStart X) 83 = some (false, a_iload 2 84) ∧ tget (tab_6_findStart X) 84 = some (false, a_icmp 2 125 87) ∧ tget (tab_6_findStart X) 87 = some (false, a_iload 4 89) ∧ tget (tab_6_findStart X) 89 = some (false, a_iload 7 91) ∧ tget (tab_6_findStart X) 91 = some (false, a_sub 92) ∧ tget (tab_6_findStart X) 92 = some (false, a_iload 2 93) ∧ tget (tab_6_findStart X) 93 = some (false, a_icmp 2 125 96) ∧ tget (tab_6_findStart X) 96 = some (false, a_aload 0 97) ∧ tget (tab_6_findStart X) 97 = some (false, a_gr 6 10 100) ∧ tget (tab_6_findStart X) 100 = some (false, a_aload 0 101) ∧ tget (tab_6_findStart X) 101 = some (false, a_gr 6 9 104) ∧ tget (tab_6_findStart X) 104 = some (false, a_iload 6 106) ∧ tget (tab_6_findStart X) 106 = some (false, a_iload 7 108) ∧ tget (tab_6_findStart X) 108 = some (false, a_cn X M_6_findStart M_5_takeStart 5 4 111) ∧ tget (tab_6_findStart X) 111 = some (false, a_aload 0 112) ∧ tget (tab_6_findStart X) 112 = some (false, a_aload 1 113) ∧ tget (tab_6_findStart X) 113 = some (false, a_aload 0 114) ∧ tget (tab_6_findStart X) 114 = some (false, a_gr 6 10 117) ∧ tget (tab_6_findStart X) 117 = some (false, a_cv X M_6_findStart M_6_fits 6 3 120) ∧ tget (tab_6_findStart X) 120 = some (false, a_if 0 125 123) ∧ tget (tab_6_findStart X) 123 = some (false, a_const 1 124) ∧ tget (tab_6_findStart X) 124 = some (false, a_zret M_6_findStart) ∧ tget (tab_6_findStart X) 125 = some (false, a_iinc 6 (-1) 128) ∧ tget (tab_6_findStart X) 128 = some (false, a_goto 60) ∧ tget (tab_6_findStart X) 131 = some (false, a_const 0 132) ∧ tget (tab_6_findStart X) 132 = some (false, a_zret M_6_findStart) := ⟨rfl, rfl, rfl, rfl, rfl, rfl, rfl, rfl, rfl, rfl, rfl, rfl, rfl, rfl, rfl, rfl, rfl, rfl, rfl, rfl, rfl, rfl, rfl, rfl, rfl, rfl, rfl, rfl, rfl, rfl, rfl, rfl, rfl, rfl, rfl, rfl, rfl, rfl, rfl, rfl, rfl, rfl, rfl, rfl, rfl, rfl, rfl, rfl, rfl, rfl, rfl, rfl, rfl, rfl, rfl, rfl, rfl, rfl, rfl, rfl, rfl, rfl, rfl, rfl, rfl, rfl, rfl, rfl, rfl, rfl, rfl, rfl, rfl, rfl, rfl, rfl, rfl, rfl⟩
theorem tok_6_findStart (X : XT) : TabOK X M_6_findStart (tab_6_findStart X) := by
  unfold tab_6_findStart
  refine tok_cons (snd_aload_n dX6_findStart_0 rfl rfl) ?_
  refine tok_cons (snd_gr (C := RX1) (T := TX1) (N := 5) dX6_findStart_1 rfl (by decide) rfl wf6_120 inX1 rfl) ?_
  refine tok_cons (snd_iconst dX6_findStart_4 rfl (inr_d rfl) rfl) ?_
  refine tok_cons (snd_iald dX6_findStart_5 rfl) ?_
  refine tok_cons (snd_istore_n dX6_findStart_6 rfl rfl (by decide)) ?_
  refine tok_cons (snd_aload_n dX6_findStart_7 rfl rfl) ?_
  refine tok_cons (snd_gr (C := RX6) (T := TX6) (N := 11) dX6_findStart_8 rfl (by decide) rfl wf6_43 inX6 rfl) ?_
  refine tok_cons (snd_gr (C := RX5) (T := TX5) (N := 3) dX6_findStart_11 rfl (by decide) rfl wf6_126 inX5 rfl) ?_
  refine tok_cons (snd_iconst dX6_findStart_14 rfl (inr_d rfl) rfl) ?_
  refine tok_cons (snd_iald dX6_findStart_15 rfl) ?_
  refine tok_cons (snd_istore_n dX6_findStart_16 rfl rfl (by decide)) ?_
  refine tok_cons (snd_aload_n dX6_findStart_17 rfl rfl) ?_
  refine tok_cons (snd_gr (C := RX6) (T := TX6) (N := 11) dX6_findStart_18 rfl (by decide) rfl wf6_43 inX6 rfl) ?_
  refine tok_cons (snd_gr (C := RX5) (T := TX5) (N := 3) dX6_findStart_21 rfl (by decide) rfl wf6_126 inX5 rfl) ?_
  refine tok_cons (snd_iconst dX6_findStart_24 rfl (inr_d rfl) rfl) ?_
  refine tok_cons (snd_iald dX6_findStart_25 rfl) ?_
  refine tok_cons (snd_istore dX6_findStart_26 rfl (by decide)) ?_
  refine tok_cons (snd_iload_n dX6_findStart_28 rfl rfl) ?_
  refine tok_cons (snd_if_gt dX6_findStart_29 (by decide) rfl) ?_
  refine tok_cons (snd_iconst dX6_findStart_32 rfl (inr_d rfl) rfl) ?_
  refine tok_cons (snd_zret dX6_findStart_33 rfl) ?_
  refine tok_cons (snd_iload_n dX6_findStart_34 rfl rfl) ?_
  refine tok_cons (snd_iload_n dX6_findStart_35 rfl rfl) ?_
  refine tok_cons (snd_sub dX6_findStart_36 rfl) ?_
  refine tok_cons (snd_aload_n dX6_findStart_37 rfl rfl) ?_
  refine tok_cons (snd_gi (C := RX6) (T := TX6) (N := 11) dX6_findStart_38 rfl (by decide) rfl wf6_11 inX6 rfl rfl) ?_
  refine tok_cons (snd_aload_n dX6_findStart_41 rfl rfl) ?_
  refine tok_cons (snd_gr (C := RX6) (T := TX6) (N := 11) dX6_findStart_42 rfl (by decide) rfl wf6_33 inX6 rfl) ?_
  refine tok_cons (snd_gr (C := RX2) (T := TX2) (N := 7) dX6_findStart_45 rfl (by decide) rfl wf6_129 inX2 rfl) ?_
  refine tok_cons (snd_iconst dX6_findStart_48 rfl (inr_d rfl) rfl) ?_
  refine tok_cons (snd_iald dX6_findStart_49 rfl) ?_
  refine tok_cons (snd_sub dX6_findStart_50 rfl) ?_
  refine tok_cons (snd_min dX6_findStart_51 wm6_132 ws_min wn_Math wc_min (by decide) rfl) ?_
  refine tok_cons (snd_istore dX6_findStart_54 rfl (by decide)) ?_
  refine tok_cons (snd_iload dX6_findStart_56 rfl) ?_
  refine tok_cons (snd_istore dX6_findStart_58 rfl (by decide)) ?_
  refine tok_cons (snd_iload dX6_findStart_60 rfl) ?_
  refine tok_cons (snd_iload_n dX6_findStart_62 rfl rfl) ?_
  refine tok_cons (snd_icmp_lt dX6_findStart_63 (by decide) rfl) ?_
  refine tok_cons (snd_iconst dX6_findStart_66 rfl (inr_d rfl) rfl) ?_
  refine tok_cons (snd_iload dX6_findStart_67 rfl) ?_
  refine tok_cons (snd_mul dX6_findStart_69 rfl) ?_
  refine tok_cons (snd_iload dX6_findStart_70 rfl) ?_
  refine tok_cons (snd_mul dX6_findStart_72 rfl) ?_
  refine tok_cons (snd_iload_n dX6_findStart_73 rfl rfl) ?_
  refine tok_cons (snd_add dX6_findStart_74 rfl) ?_
  refine tok_cons (snd_iconst dX6_findStart_75 rfl (inr_d rfl) rfl) ?_
  refine tok_cons (snd_iload_n dX6_findStart_76 rfl rfl) ?_
  refine tok_cons (snd_mul dX6_findStart_77 rfl) ?_
  refine tok_cons (snd_div dX6_findStart_78 rfl) ?_
  refine tok_cons (snd_istore dX6_findStart_79 rfl (by decide)) ?_
  refine tok_cons (snd_iload dX6_findStart_81 rfl) ?_
  refine tok_cons (snd_iload_n dX6_findStart_83 rfl rfl) ?_
  refine tok_cons (snd_icmp_lt dX6_findStart_84 (by decide) rfl) ?_
  refine tok_cons (snd_iload dX6_findStart_87 rfl) ?_
  refine tok_cons (snd_iload dX6_findStart_89 rfl) ?_
  refine tok_cons (snd_sub dX6_findStart_91 rfl) ?_
  refine tok_cons (snd_iload_n dX6_findStart_92 rfl rfl) ?_
  refine tok_cons (snd_icmp_lt dX6_findStart_93 (by decide) rfl) ?_
  refine tok_cons (snd_aload_n dX6_findStart_96 rfl rfl) ?_
  refine tok_cons (snd_gr (C := RX6) (T := TX6) (N := 11) dX6_findStart_97 rfl (by decide) rfl wf6_47 inX6 rfl) ?_
  refine tok_cons (snd_aload_n dX6_findStart_100 rfl rfl) ?_
  refine tok_cons (snd_gr (C := RX6) (T := TX6) (N := 11) dX6_findStart_101 rfl (by decide) rfl wf6_43 inX6 rfl) ?_
  refine tok_cons (snd_iload dX6_findStart_104 rfl) ?_
  refine tok_cons (snd_iload dX6_findStart_106 rfl) ?_
  refine tok_cons (snd_cn dX6_findStart_108 mok_5_takeStart ⟨wm6_138, wi_5_takeStart, wl_5_takeStart⟩ (rc := (RX5, TX5, 3)) rfl rfl pn_5_takeStart (by decide) ⟨rfl, rfl⟩ rfl) ?_
  refine tok_cons (snd_aload_n dX6_findStart_111 rfl rfl) ?_
  refine tok_cons (snd_aload_n dX6_findStart_112 rfl rfl) ?_
  refine tok_cons (snd_aload_n dX6_findStart_113 rfl rfl) ?_
  refine tok_cons (snd_gr (C := RX6) (T := TX6) (N := 11) dX6_findStart_114 rfl (by decide) rfl wf6_47 inX6 rfl) ?_
  refine tok_cons (snd_cv dX6_findStart_117 mok_6_fits ⟨wm6_94, wi_6_fits, wl_6_fits⟩ (rc := (RX6, TX6, 11)) rfl rfl pn_6_fits (by decide) ⟨rfl, rfl⟩ rfl) ?_
  refine tok_cons (snd_if_eq dX6_findStart_120 (by decide) rfl) ?_
  refine tok_cons (snd_iconst dX6_findStart_123 rfl (inr_d rfl) rfl) ?_
  refine tok_cons (snd_zret dX6_findStart_124 rfl) ?_
  refine tok_cons (snd_iinc dX6_findStart_125 rfl rfl (by decide)) ?_
  refine tok_cons (snd_goto dX6_findStart_128 (by decide)) ?_
  refine tok_cons (snd_iconst dX6_findStart_131 rfl (inr_d rfl) rfl) ?_
  refine tok_cons (snd_zret dX6_findStart_132 rfl) ?_
  exact tok_nil
def tab_0_search (X : XT) : Tab := [(0, false, a_aload 0 1), (1, false, a_gi 0 0 0 4), (4, false, a_if 0 8 7), (7, false, a_ret M_0_search), (8, false, a_aload 0 9), (9, false, a_const 1 10), (10, false, a_pi 0 0 0 true 13), (13, false, a_aload 0 14), (14, false, a_gr 0 3 17), (17, false, a_aload 1 18), (18, false, a_gi 1 0 0 21), (21, false, a_const 0 22), (22, false, a_ast false 23), (23, false, a_aload 1 24), (24, false, a_gi 1 0 0 27), (27, false, a_const 1 28), (28, false, a_sub 29), (29, false, a_istore 2 30), (30, true, a_iload 2 31), (31, false, a_if 2 46 34), (34, false, a_aload 0 35), (35, false, a_aload 1 36), (36, false, a_iload 2 37), (37, false, a_cn X M_0_search M_0_searchFrom 0 3 40), (40, false, a_iinc 2 (-1) 43), (43, false, a_goto 30), (46, false, a_aload 0 47), (47, false, a_const 0 48), (48, false, a_pi 0 1 1 false 51), (51, false, a_const 0 52), (52, false, a_istore 2 53), (53, true, a_aload 0 54), (54, false, a_cv X M_0_search M_0_isAllowed 0 1 57), (57, false, a_if 0 109 60), (60, false, a_iload 2 61), (61, false, a_aload 1 62), (62, false, a_gi 1 0 0 65), (65, false, a_icmp 3 109 68), (68, false, a_aload 0 69), (69, false, a_gi 0 1 1 72), (72, false, a_const 20 74), (74, false, a_icmp 3 109 77), (77, false, a_aload 0 78), (78, false, a_gr 0 2 81), (81, false, a_aload 0 82), (82, false, a_gi 0 1 1 85), (85, false, a_iload 2 86), (86, false, a_ast false 87), (87, false, a_aload 0 88), (88, false, a_dup 89), (89, false, a_gi 0 1 1 92), (92, false, a_const 1 93), (93, false, a_add 94), (94, false, a_pi 0 1 1 false 97), (97, false, a_iload 2 98), (98, false, a_aload 0 99), (99, false, a_gr 0 4 102), (102, false, a_iload 2 103), (103, false, a_ald false 104), (104, false, a_add 105), (105, false, a_istore 2 106), (106, false, a_goto 53), (109, false, a_ret M_0_search)]
set_option maxRecDepth 20000 in
theorem t_0_search (X : XT) : tget (tab_0_search X) 0 = some (false, a_aload 0 1) ∧ tget (tab_0_search X) 1 = some (false, a_gi 0 0 0 4) ∧ tget (tab_0_search X) 4 = some (false, a_if 0 8 7) ∧ tget (tab_0_search X) 7 = some (false, a_ret M_0_search) ∧ tget (tab_0_search X) 8 = some (false, a_aload 0 9) ∧ tget (tab_0_search X) 9 = some (false, a_const 1 10) ∧ tget (tab_0_search X) 10 = some (false, a_pi 0 0 0 true 13) ∧ tget (tab_0_search X) 13 = some (false, a_aload 0 14) ∧ tget (tab_0_search X) 14 = some (false, a_gr 0 3 17) ∧ tget (tab_0_search X) 17 = some (false, a_aload 1 18) ∧ tget (tab_0_search X) 18 = some (false, a_gi 1 0 0 21) ∧ tget (tab_0_search X) 21 = some (false, a_const 0 22) ∧ tget (tab_0_search X) 22 = some (false, a_ast false 23) ∧ tget (tab_0_search X) 23 = some (false, a_aload 1 24) ∧ tget (tab_0_search X) 24 = some (false, a_gi 1 0 0 27) ∧ tget (tab_0_search X) 27 = some (false, a_const 1 28) ∧ tget (tab_0_search X) 28 = some (false, a_sub 29) ∧ tget (tab_0_search X) 29 = some (false, a_istore 2 30) ∧ tget (tab_0_search X) 30 = some (true, a_iload 2 31) ∧ tget (tab_0_search X) 31 = some (false, a_if 2 46 34) ∧ tget (tab_0_search X) 34 = some (false, a_aload 0 35) ∧ tget (tab_0_search X) 35 = some (false, a_aload 1 36) ∧ tget (tab_0_search X) 36 = some (false, a_iload 2 37) ∧ tget (tab_0_search X) 37 = some (false, a_cn X M_0_search M_0_searchFrom 0 3 40) ∧ tget (tab_0_search X) 40 = some (false, a_iinc 2 (-1) 43) ∧ tget (tab_0_search X) 43 = some (false, a_goto 30) ∧ tget (tab_0_search X) 46 = some (false, a_aload 0 47) ∧ tget (tab_0_search X) 47 = some (false, a_const 0 48) ∧ tget (tab_0_search X) 48 = some (false, a_pi 0 1 1 false 51) ∧ tget (tab_0_search X) 51 = some (false, a_const 0 52) ∧ tget (tab_0_search X) 52 = some (false, a_istore 2 53) ∧ tget (tab_0_search X) 53 = some (true, a_aload 0 54) ∧ tget (tab_0_search X) 54 = some (false, a_cv X M_0_search M_0_isAllowed 0 1 57) ∧ tget (tab_0_search X) 57 = some (false, a_if 0 109 60) ∧ tget (tab_0_search X) 60 = some (false, a_iload 2 61) ∧ tget (tab_0_search X) 61 = some (false, a_aload 1 62) ∧ tget (tab_0_search X) 62 = some (false, a_gi 1 0 0 65) ∧ tget (tab_0_search X) 65 = some (false, a_icmp 3 109 68) ∧ tget (tab_0_search X) 68 = some (false, a_aload 0 69) ∧ tget (tab_0_search X) 69 = some (false, a_gi 0 1 1 72) ∧ tget (tab_0_search X) 72 = some (false, a_const 20 74) ∧ tget (tab_0_search X) 74 = some (false, a_icmp 3 109 77) ∧ tget (tab_0_search X) 77 = some (false, a_aload 0 78) ∧ tget (tab_0_search X) 78 = some (false, a_gr 0 2 81) ∧ tget (tab_0_search X) 81 = some (false, a_aload 0 82) ∧ tget (tab_0_search X) 82 = some (false, a_gi 0 1 1 85) ∧ tget (tab_0_search X) 85 = some (false, a_iload 2 86) ∧ tget (tab_0_search X) 86 = some (false, a_ast false 87) ∧ tget (tab_0_search X) 87 = some (false, a_aload 0 88) ∧ tget (tab_0_search X) 88 = some (false, a_dup 89) ∧ tget (tab_0_search X) 89 = some (false, a_gi 0 1 1 92) ∧ tget (tab_0_search X) 92 = some (false, a_const 1 93) ∧ tget (tab_0_search X) 93 = some (false, a_add 94) ∧ tget (tab_0_search X) 94 = some (false, a_pi 0 1 1 false 97) ∧ tget (tab_0_search X) 97 = some (false, a_iload 2 98) ∧ tget (tab_0_search X) 98 = some (false, a_aload 0 99) ∧ tget (tab_0_search X) 99 = some (false, a_gr 0 4 102) ∧ tget (tab_0_search X) 102 = some (false, a_iload 2 103) ∧ tget (tab_0_search X) 103 = some (false, a_ald false 104) ∧ tget (tab_0_search X) 104 = some (false, a_add 105) ∧ tget (tab_0_search X) 105 = some (false, a_istore 2 106) ∧ tget (tab_0_search X) 106 = some (false, a_goto 53) ∧ tget (tab_0_search X) 109 = some (false, a_ret M_0_search) := ⟨rfl, rfl, rfl, rfl, rfl, rfl, rfl, rfl, rfl, rfl, rfl, rfl, rfl, rfl, rfl, rfl, rfl, rfl, rfl, rfl, rfl, rfl, rfl, rfl, rfl, rfl, rfl, rfl, rfl, rfl, rfl, rfl, rfl, rfl, rfl, rfl, rfl, rfl, rfl, rfl, rfl, rfl, rfl, rfl, rfl, rfl, rfl, rfl, rfl, rfl, rfl, rfl, rfl, rfl, rfl, rfl, rfl, rfl, rfl, rfl, rfl, rfl, rfl⟩
theorem tok_0_search (X : XT) : TabOK X M_0_search (tab_0_search X) := by
  unfold tab_0_search
  refine tok_cons (snd_aload_n dX0_search_0 rfl rfl) ?_
  refine tok_cons (snd_gi (C := RX0) (T := TX0) (N := 7) dX0_search_1 rfl (by decide) rfl wf0_35 inX0 rfl rfl) ?_
  refine tok_cons (snd_if_eq dX0_search_4 (by decide) rfl) ?_
  refine tok_cons (snd_ret dX0_search_7 rfl) ?_
  refine tok_cons (snd_aload_n dX0_search_8 rfl rfl) ?_
  refine tok_cons (snd_iconst dX0_search_9 rfl (inr_d rfl) rfl) ?_
  refine tok_cons (snd_pi (C := RX0) (T := TX0) (N := 7) (ty0 := tyX0) dX0_search_10 rfl (by decide) rfl wf0_35 inX0 tyX0_ok nmX0 (by decide +kernel) rfl rfl) ?_
  refine tok_cons (snd_aload_n dX0_search_13 rfl rfl) ?_
  refine tok_cons (snd_gr (C := RX0) (T := TX0) (N := 7) dX0_search_14 rfl (by decide) rfl wf0_15 inX0 rfl) ?_
  refine tok_cons (snd_aload_n dX0_search_17 rfl rfl) ?_
  refine tok_cons (snd_gi (C := RX1) (T := TX1) (N := 5) dX0_search_18 rfl (by decide) rfl wf0_39 inX1 rfl rfl) ?_
  refine tok_cons (snd_iconst dX0_search_21 rfl (inr_d rfl) rfl) ?_
  refine tok_cons (snd_iast dX0_search_22 rfl) ?_
  refine tok_cons (snd_aload_n dX0_search_23 rfl rfl) ?_
  refine tok_cons (snd_gi (C := RX1) (T := TX1) (N := 5) dX0_search_24 rfl (by decide) rfl wf0_39 inX1 rfl rfl) ?_
  refine tok_cons (snd_iconst dX0_search_27 rfl (inr_d rfl) rfl) ?_
  refine tok_cons (snd_sub dX0_search_28 rfl) ?_
  refine tok_cons (snd_istore_n dX0_search_29 rfl rfl (by decide)) ?_
  refine tok_cons (snd_iload_n dX0_search_30 rfl rfl) ?_
  refine tok_cons (snd_if_lt dX0_search_31 (by decide) rfl) ?_
  refine tok_cons (snd_aload_n dX0_search_34 rfl rfl) ?_
  refine tok_cons (snd_aload_n dX0_search_35 rfl rfl) ?_
  refine tok_cons (snd_iload_n dX0_search_36 rfl rfl) ?_
  refine tok_cons (snd_cn dX0_search_37 mok_0_searchFrom ⟨wm0_45, wi_0_searchFrom, wl_0_searchFrom⟩ (rc := (RX0, TX0, 7)) rfl rfl pn_0_searchFrom (by decide) ⟨rfl, rfl⟩ rfl) ?_
  refine tok_cons (snd_iinc dX0_search_40 rfl rfl (by decide)) ?_
  refine tok_cons (snd_goto dX0_search_43 (by decide)) ?_
  refine tok_cons (snd_aload_n dX0_search_46 rfl rfl) ?_
  refine tok_cons (snd_iconst dX0_search_47 rfl (inr_d rfl) rfl) ?_
  refine tok_cons (snd_pi (C := RX0) (T := TX0) (N := 7) (ty0 := tyX0) dX0_search_48 rfl (by decide) rfl wf0_49 inX0 tyX0_ok nmX0 (by decide +kernel) rfl rfl) ?_
  refine tok_cons (snd_iconst dX0_search_51 rfl (inr_d rfl) rfl) ?_
  refine tok_cons (snd_istore_n dX0_search_52 rfl rfl (by decide)) ?_
  refine tok_cons (snd_aload_n dX0_search_53 rfl rfl) ?_
  refine tok_cons (snd_cv dX0_search_54 mok_0_isAllowed ⟨wm0_52, wi_0_isAllowed, wl_0_isAllowed⟩ (rc := (RX0, TX0, 7)) rfl rfl pn_0_isAllowed (by decide) ⟨rfl, rfl⟩ rfl) ?_
  refine tok_cons (snd_if_eq dX0_search_57 (by decide) rfl) ?_
  refine tok_cons (snd_iload_n dX0_search_60 rfl rfl) ?_
  refine tok_cons (snd_aload_n dX0_search_61 rfl rfl) ?_
  refine tok_cons (snd_gi (C := RX1) (T := TX1) (N := 5) dX0_search_62 rfl (by decide) rfl wf0_39 inX1 rfl rfl) ?_
  refine tok_cons (snd_icmp_ge dX0_search_65 (by decide) rfl) ?_
  refine tok_cons (snd_aload_n dX0_search_68 rfl rfl) ?_
  refine tok_cons (snd_gi (C := RX0) (T := TX0) (N := 7) dX0_search_69 rfl (by decide) rfl wf0_49 inX0 rfl rfl) ?_
  refine tok_cons (snd_bipush dX0_search_72 (by decide) (inr_d rfl) rfl) ?_
  refine tok_cons (snd_icmp_ge dX0_search_74 (by decide) rfl) ?_
  refine tok_cons (snd_aload_n dX0_search_77 rfl rfl) ?_
  refine tok_cons (snd_gr (C := RX0) (T := TX0) (N := 7) dX0_search_78 rfl (by decide) rfl wf0_9 inX0 rfl) ?_
  refine tok_cons (snd_aload_n dX0_search_81 rfl rfl) ?_
  refine tok_cons (snd_gi (C := RX0) (T := TX0) (N := 7) dX0_search_82 rfl (by decide) rfl wf0_49 inX0 rfl rfl) ?_
  refine tok_cons (snd_iload_n dX0_search_85 rfl rfl) ?_
  refine tok_cons (snd_iast dX0_search_86 rfl) ?_
  refine tok_cons (snd_aload_n dX0_search_87 rfl rfl) ?_
  refine tok_cons (snd_dup dX0_search_88 rfl) ?_
  refine tok_cons (snd_gi (C := RX0) (T := TX0) (N := 7) dX0_search_89 rfl (by decide) rfl wf0_49 inX0 rfl rfl) ?_
  refine tok_cons (snd_iconst dX0_search_92 rfl (inr_d rfl) rfl) ?_
  refine tok_cons (snd_add dX0_search_93 rfl) ?_
  refine tok_cons (snd_pi (C := RX0) (T := TX0) (N := 7) (ty0 := tyX0) dX0_search_94 rfl (by decide) rfl wf0_49 inX0 tyX0_ok nmX0 (by decide +kernel) rfl rfl) ?_
  refine tok_cons (snd_iload_n dX0_search_97 rfl rfl) ?_
  refine tok_cons (snd_aload_n dX0_search_98 rfl rfl) ?_
  refine tok_cons (snd_gr (C := RX0) (T := TX0) (N := 7) dX0_search_99 rfl (by decide) rfl wf0_18 inX0 rfl) ?_
  refine tok_cons (snd_iload_n dX0_search_102 rfl rfl) ?_
  refine tok_cons (snd_iald dX0_search_103 rfl) ?_
  refine tok_cons (snd_add dX0_search_104 rfl) ?_
  refine tok_cons (snd_istore_n dX0_search_105 rfl rfl (by decide)) ?_
  refine tok_cons (snd_goto dX0_search_106 (by decide)) ?_
  refine tok_cons (snd_ret dX0_search_109 rfl) ?_
  exact tok_nil
def tab_6_putNext (X : XT) : Tab := [(0, false, a_aload 1 1), (1, false, a_aload 0 2), (2, false, a_gr 6 9 5), (5, false, a_gi 5 0 0 8), (8, false, a_cv X M_6_putNext M_1_hasPair 1 2 11), (11, false, a_if 1 16 14), (14, false, a_const 0 15), (15, false, a_zret M_6_putNext), (16, false, a_aload 0 17), (17, false, a_gi 6 6 6 20), (20, false, a_aload 0 21), (21, false, a_gr 6 2 24), (24, false, a_aload 0 25), (25, false, a_gi 6 1 1 28), (28, false, a_ald false 29), (29, false, a_icmp 1 36 32), (32, false, a_const 1 33), (33, false, a_goto 37), (36, false, a_const 0 37), (37, false, a_istore 2 38), (38, false, a_iload 2 39), (39, false, a_if 1 72 42), (42, false, a_aload 0 43), (43, false, a_gr 6 9 46), (46, false, a_cv X M_6_putNext M_5_isBegun 5 1 49), (49, false, a_if 1 72 52), (52, false, a_aload 1 53), (53, false, a_gr 1 1 56), (56, false, a_const 3 57), (57, false, a_aald 58), (58, false, a_aload 0 59), (59, false, a_gr 6 9 62), (62, false, a_gi 5 0 0 65), (65, false, a_ald false 66), (66, false, a_const 1 67), (67, false, a_icmp 1 72 70), (70, false, a_const 0 71), (71, false, a_zret M_6_putNext), (72, false, a_aload 0 73), (73, false, a_aload 1 74), (74, false, a_aload 0 75), (75, false, a_gr 6 9 78), (78, false, a_cv X M_6_putNext M_6_fits 6 3 81), (81, false, a_if 0 91 84), (84, false, a_aload 0 85), (85, false, a_aload 1 86), (86, false, a_cn X M_6_putNext M_6_putRest 6 2 89), (89, false, a_const 1 90), (90, false, a_zret M_6_putNext), (91, false, a_aload 1 92), (92, false, a_gr 1 1 95), (95, false, a_const 2 96), (96, false, a_aald 97), (97, false, a_aload 0 98), (98, false, a_gr 6 9 101), (101, false, a_gi 5 0 0 104), (104, false, a_ald false 105), (105, false, a_if 1 140 108), (108, false, a_aload 0 109), (109, false, a_aload 1 110), (110, false, a_cv X M_6_putNext M_6_findStart 6 2 113), (113, false, a_if 0 140 116), (116, false, a_aload 0 117), (117, false, a_aload 1 118), (118, false, a_aload 0 119), (119, false, a_gr 6 10 122), (122, false, a_const 1 123), (123, false, a_cn X M_6_putNext M_6_addSegment 6 4 126), (126, false, a_aload 0 127), (127, false, a_gr 6 9 130), (130, false, a_aload 0 131), (131, false, a_gr 6 10 134), (134, false, a_cn X M_6_putNext M_5_dropStart 5 2 137), (137, false, a_goto 159), (140, false, a_iload 2 141), (141, false, a_if 0 159 144), (144, false, a_aload 0 145), (145, false, a_gr 6 3 148), (148, false, a_aload 0 149), (149, false, a_gi 6 1 1 152), (152, false, a_const 1 153), (153, false, a_ast false 154), (154, false, a_aload 0 155), (155, false, a_aload 1 156), (156, false, a_cn X M_6_putNext M_6_putRest 6 2 159), (159, false, a_const 0 160), (160, false, a_zret M_6_putNext)]
set_option maxRecDepth 20000 in
theorem t_6_putNext (X : XT) : tget (tab_6_putNext X) 0 = some (false, a_aload 1 1) ∧ tget (tab_6_putNext X) 1 = some (false, a_aload 0 2) ∧ tget (tab_6_putNext X) 2 = some (false, a_gr 6 9 5) ∧ tget (tab_6_putNext X) 5 = some (false, a_gi 5 0 0 8) ∧ tget (tab_6_putNext X) 8 = some (false, a_cv X M_6_putNext M_1_hasPair 1 2 11) ∧ tget (tab_6_putNext X) 11 = some (false, a_if 1 16 14) ∧ tget (tab_6_putNext X) 14 = some (false, a_const 0 15) ∧ tget (tab_6_putNext X) 15 = some (false, a_zret M_6_putNext) ∧ tget (tab_6_putNext X) 16 = some (false, a_aload 0 17) ∧ tget (tab_6_putNext X) 17 = some (false, a_gi 6 6 6 20) ∧ tget (tab_6_putNext X) 20 = some (false, a_aload 0 21) ∧ tget (tab_6_putNext X) 21 = some (false, a_gr 6 2 24) ∧ tget (tab_6_putNext X) 24 = some (false, a_aload 0 25) ∧ tget (tab_6_putNext X) 25 = some (false, a_gi 6 1 1 28) ∧ tget (tab_6_putNext X) 28 = some (false, a_ald false 29) ∧ tget (tab_6_putNext X) 29 = some (false, a_icmp 1 36 32) ∧ tget (tab_6_putNext X) 32 = some (false, a_const 1 33) ∧ tget (tab_6_putNext X) 33 = some (false, a_goto 37) ∧ tget (tab_6_putNext X) 36 = some (false, a_const 0 37) ∧ tget (tab_6_putNext X) 37 = some (false, a_istore 2 38) ∧ tget (tab_6_putNext X) 38 = some (false, a_iload 2 39) ∧ tget (tab_6_putNext X) 39 = some (false, a_if 1 72 42) ∧ tget (tab_6_putNext X) 42 = some (false, a_aload 0 43) ∧ tget (tab_6_putNext X) 43 = some (false, a_gr 6 9 46) ∧ tget (tab_6_putNext X) 46 = some (false, a_cv X M_6_putNext M_5_isBegun 5 1 49) ∧ tget (tab_6_putNext X) 49 = some (false, a_if 1 72 52) ∧ tget (tab_6_putNext X) 52 = some (false, a_aload 1 53) ∧ tget (tab_6_putNext X) 53 = some (false, a_gr 1 1 56) ∧ tget (tab_6_putNext X) 56 = some (false, a_const 3 57) ∧ tget (tab_6_putNext X) 57 = some (false, a_aald 58) ∧ tget (tab_6_putNext X) 58 = some (false, a_aload 0 59) ∧ tget (tab_6_putNext X) 59 = some (false, a_gr 6 9 62) ∧ tget (tab_6_putNext X) 62 = some (false, a_gi 5 0 0 65) ∧ tget (tab_6_putNext X) 65 = some (false, a_ald false 66) ∧ tget (tab_6_putNext X) 66 = some (false, a_const 1 67) ∧ tget (tab_6_putNext X) 67 = some (false, a_icmp 1 72 70) ∧ tget (tab_6_putNext X) 70 = some (false, a_const 0 71) ∧ tget (tab_6_putNext X) 71 = some (false, a_zret M_6_putNext) ∧ tget (tab_6_putNext X) 72 = some (false, a_aload 0 73) ∧ tget (tab_6_putNext X) 73 = some (false, a_aload 1 74) ∧ tget (tab_6_putNext X) 74 = some (false, a_aload 0 75) ∧ tget (tab_6_putNext X) 75 = some (false, a_gr 6 9 78) ∧ tget (tab_6_putNext X) 78 = some (false, a_cv X M_6_putNext M_6_fits 6 3 81) ∧ tget (tab_6_putNext X) 81 = some (false, a_if 0 91 84) ∧ tget (tab_6_putNext X) 84 = some (false, a_aload 0 85) ∧ tget (tab_6_putNext X) 85 = some (false, a_aload 1 86) ∧ tget (tab_6_putNext X) 86 = some (false, a_cn X M_6_putNext M_6_putRest 6 2 89) ∧ tget (tab_6_putNext X) 89 = some (false, a_const 1 90) ∧ tget (tab_6_putNext X) 90 = some (false, a_zret M_6_putNext) ∧ tget (tab_6_putNext X) 91 = some (false, a_aload 1 92) ∧ tget (tab_6_putNext X) 92 = some (false, a_gr 1 1 95) ∧ tget (tab_6_putNext X) 95 = some (false, a_const 2 96) ∧ tget (tab_6_putNext X) 96 = some (false, a_aald 97) ∧ tget (tab_6_putNext X) 97 = some (false, a_aload 0 98) ∧ tget (tab_6_putNext X) 98 = some (false, a_gr 6 9 101) ∧ tget (tab_6_putNext X) 101 = some (false, a_gi 5 0 0 104) ∧ tget (tab_6_putNext X) 104 = some (false, a_ald false 105) ∧ tget (tab_6_putNext X) 105 = some (false, a_if 1 140 108) ∧ tget (tab_6_putNext X) 108 = some (false, a_aload 0 109) ∧ tget (tab_6_putNext X) 109 = some (false, a_aload 1 110) ∧ tget (tab_6_putNext X) 110 = some (false, a_cv X M_6_putNext M_6_findStart 6 2 113) ∧ tget (tab_6_putNext X) 113 = some (false, a_if 0 140 116) ∧ tget (tab_6_putNext X) 116 = some (false, a_aload 0 117) ∧ tget (tab_6_putNext X) 117 = some (false, a_aload 1 118) ∧ tget (tab_6_putNext X) 118 = some (false, a_aload 0 119) ∧ tget (tab_6_putNext X) 119 = some (false, a_gr 6 10 122) ∧ tget (tab_6_putNext X) 122 = some (false, a_const 1 123) ∧ tget (tab_6_putNext X) 123 = some (false, a_cn X M_6_putNext M_6_addSegment 6 4 126) ∧ tget (tab_6_putNext X) 126 = some (false, a_aload 0 127) ∧ tget (tab_6_putNext X) 127 = some (false, a_gr 6 9 130) ∧ tget (tab_6_putNext X) 130 = some (false, a_aload 0 131) ∧ tget (tab_6_putNext X) 131 = some (false, a_gr 6 10 134) ∧ tget (tab_6_putNext X) 134 = some (false, a_cn X M_6_putNext M_5_dropStart 5 2 137) ∧ tget (tab_6_putNext X) 137 = some (false, a_goto 159) ∧ tget (tab_6_putNext X) 140 = some (false, a_iload 2 141) ∧ tget (tab_6_putNext X) 141 = some (false, a_if 0 159 144) ∧ tget (tab_6_putNext X) 144 = some (false, a_aload 0 145) ∧ tget (tab_6_putNext X) 145 = some (false, a_gr 6 3 148) ∧ tget (tab_6_putNext X) 148 = some (false, a_aload 0 149) ∧ tget (tab_6_putNext X) 149 = some (false, a_gi 6 1 1 152) ∧ tget (tab_6_putNext X) 152 = some (false, a_const 1 153) ∧ tget (tab_6_putNext X) 153 = some (false, a_ast false 154) ∧ tget (tab_6_putNext X) 154 = some (false, a_aload 0 155) ∧ tget (tab_6_putNext X) 155 = some (false, a_aload 1 156) ∧ tget (tab_6_putNext X) 156 = some (false, a_cn X M_6_putNext M_6_putRest 6 2 159) ∧ tget (tab_6_putNext X) 159 = some (false, a_const 0 160) ∧ tget (tab_6_putNext X) 160 = some (false, a_zret M_6_putNext) := ⟨rfl, rfl, rfl, rfl, rfl, rfl, rfl, rfl, rfl, rfl, rfl, rfl, rfl, rfl, rfl, rfl, rfl, rfl, rfl, rfl, rfl, rfl, rfl, rfl, rfl, rfl, rfl, rfl, rfl, rfl, rfl, rfl, rfl, rfl, rfl, rfl, rfl, rfl, rfl, rfl, rfl, rfl, rfl, rfl, rfl, rfl, rfl, rfl, rfl, rfl, rfl, rfl, rfl, rfl, rfl, rfl, rfl, rfl, rfl, rfl, rfl, rfl, rfl, rfl, rfl, rfl, rfl, rfl, rfl, rfl, rfl, rfl, rfl, rfl, rfl, rfl, rfl, rfl, rfl, rfl, rfl, rfl, rfl, rfl, rfl, rfl, rfl⟩
theorem tok_6_putNext (X : XT) : TabOK X M_6_putNext (tab_6_putNext X) := by
  unfold tab_6_putNext
  refine tok_cons (snd_aload_n dX6_putNext_0 rfl rfl) ?_
  refine tok_cons (snd_aload_n dX6_putNext_1 rfl rfl) ?_
  refine tok_cons (snd_gr (C := RX6) (T := TX6) (N := 11) dX6_putNext_2 rfl (by decide) rfl wf6_43 inX6 rfl) ?_
  refine tok_cons (snd_gi (C := RX5) (T := TX5) (N := 3) dX6_putNext_5 rfl (by decide) rfl wf6_64 inX5 rfl rfl) ?_
  refine tok_cons (snd_cv dX6_putNext_8 mok_1_hasPair ⟨wm6_67, wi_1_hasPair, wl_1_hasPair⟩ (rc := (RX1, TX1, 5)) rfl rfl pn_1_hasPair (by decide) ⟨rfl, rfl⟩ rfl) ?_
  refine tok_cons (snd_if_ne dX6_putNext_11 (by decide) rfl) ?_
  refine tok_cons (snd_iconst dX6_putNext_14 rfl (inr_d rfl) rfl) ?_
  refine tok_cons (snd_zret dX6_putNext_15 rfl) ?_
  refine tok_cons (snd_aload_n dX6_putNext_16 rfl rfl) ?_
  refine tok_cons (snd_gi (C := RX6) (T := TX6) (N := 11) dX6_putNext_17 rfl (by decide) rfl wf6_53 inX6 rfl rfl) ?_
  refine tok_cons (snd_aload_n dX6_putNext_20 rfl rfl) ?_
  refine tok_cons (snd_gr (C := RX6) (T := TX6) (N := 11) dX6_putNext_21 rfl (by decide) rfl wf6_15 inX6 rfl) ?_
  refine tok_cons (snd_aload_n dX6_putNext_24 rfl rfl) ?_
  refine tok_cons (snd_gi (C := RX6) (T := TX6) (N := 11) dX6_putNext_25 rfl (by decide) rfl wf6_50 inX6 rfl rfl) ?_
  refine tok_cons (snd_iald dX6_putNext_28 rfl) ?_
  refine tok_cons (snd_icmp_ne dX6_putNext_29 (by decide) rfl) ?_
  refine tok_cons (snd_iconst dX6_putNext_32 rfl (inr_d rfl) rfl) ?_
  refine tok_cons (snd_goto dX6_putNext_33 (by decide)) ?_
  refine tok_cons (snd_iconst dX6_putNext_36 rfl (inr_d rfl) rfl) ?_
  refine tok_cons (snd_istore_n dX6_putNext_37 rfl rfl (by decide)) ?_
  refine tok_cons (snd_iload_n dX6_putNext_38 rfl rfl) ?_
  refine tok_cons (snd_if_ne dX6_putNext_39 (by decide) rfl) ?_
  refine tok_cons (snd_aload_n dX6_putNext_42 rfl rfl) ?_
  refine tok_cons (snd_gr (C := RX6) (T := TX6) (N := 11) dX6_putNext_43 rfl (by decide) rfl wf6_43 inX6 rfl) ?_
  refine tok_cons (snd_cv dX6_putNext_46 mok_5_isBegun ⟨wm6_88, wi_5_isBegun, wl_5_isBegun⟩ (rc := (RX5, TX5, 3)) rfl rfl pn_5_isBegun (by decide) ⟨rfl, rfl⟩ rfl) ?_
  refine tok_cons (snd_if_ne dX6_putNext_49 (by decide) rfl) ?_
  refine tok_cons (snd_aload_n dX6_putNext_52 rfl rfl) ?_
  refine tok_cons (snd_gr (C := RX1) (T := TX1) (N := 5) dX6_putNext_53 rfl (by decide) rfl wf6_91 inX1 rfl) ?_
  refine tok_cons (snd_iconst dX6_putNext_56 rfl (inr_d rfl) rfl) ?_
  refine tok_cons (snd_aald dX6_putNext_57 rfl) ?_
  refine tok_cons (snd_aload_n dX6_putNext_58 rfl rfl) ?_
  refine tok_cons (snd_gr (C := RX6) (T := TX6) (N := 11) dX6_putNext_59 rfl (by decide) rfl wf6_43 inX6 rfl) ?_
  refine tok_cons (snd_gi (C := RX5) (T := TX5) (N := 3) dX6_putNext_62 rfl (by decide) rfl wf6_64 inX5 rfl rfl) ?_
  refine tok_cons (snd_iald dX6_putNext_65 rfl) ?_
  refine tok_cons (snd_iconst dX6_putNext_66 rfl (inr_d rfl) rfl) ?_
  refine tok_cons (snd_icmp_ne dX6_putNext_67 (by decide) rfl) ?_
  refine tok_cons (snd_iconst dX6_putNext_70 rfl (inr_d rfl) rfl) ?_
  refine tok_cons (snd_zret dX6_putNext_71 rfl) ?_
  refine tok_cons (snd_aload_n dX6_putNext_72 rfl rfl) ?_
  refine tok_cons (snd_aload_n dX6_putNext_73 rfl rfl) ?_
  refine tok_cons (snd_aload_n dX6_putNext_74 rfl rfl) ?_
  refine tok_cons (snd_gr (C := RX6) (T := TX6) (N := 11) dX6_putNext_75 rfl (by decide) rfl wf6_43 inX6 rfl) ?_
  refine tok_cons (snd_cv dX6_putNext_78 mok_6_fits ⟨wm6_94, wi_6_fits, wl_6_fits⟩ (rc := (RX6, TX6, 11)) rfl rfl pn_6_fits (by decide) ⟨rfl, rfl⟩ rfl) ?_
  refine tok_cons (snd_if_eq dX6_putNext_81 (by decide) rfl) ?_
  refine tok_cons (snd_aload_n dX6_putNext_84 rfl rfl) ?_
  refine tok_cons (snd_aload_n dX6_putNext_85 rfl rfl) ?_
  refine tok_cons (snd_cn dX6_putNext_86 mok_6_putRest ⟨wm6_98, wi_6_putRest, wl_6_putRest⟩ (rc := (RX6, TX6, 11)) rfl rfl pn_6_putRest (by decide) ⟨rfl, rfl⟩ rfl) ?_
  refine tok_cons (snd_iconst dX6_putNext_89 rfl (inr_d rfl) rfl) ?_
  refine tok_cons (snd_zret dX6_putNext_90 rfl) ?_
  refine tok_cons (snd_aload_n dX6_putNext_91 rfl rfl) ?_
  refine tok_cons (snd_gr (C := RX1) (T := TX1) (N := 5) dX6_putNext_92 rfl (by decide) rfl wf6_91 inX1 rfl) ?_
  refine tok_cons (snd_iconst dX6_putNext_95 rfl (inr_d rfl) rfl) ?_
  refine tok_cons (snd_aald dX6_putNext_96 rfl) ?_
  refine tok_cons (snd_aload_n dX6_putNext_97 rfl rfl) ?_
  refine tok_cons (snd_gr (C := RX6) (T := TX6) (N := 11) dX6_putNext_98 rfl (by decide) rfl wf6_43 inX6 rfl) ?_
  refine tok_cons (snd_gi (C := RX5) (T := TX5) (N := 3) dX6_putNext_101 rfl (by decide) rfl wf6_64 inX5 rfl rfl) ?_
  refine tok_cons (snd_iald dX6_putNext_104 rfl) ?_
  refine tok_cons (snd_if_ne dX6_putNext_105 (by decide) rfl) ?_
  refine tok_cons (snd_aload_n dX6_putNext_108 rfl rfl) ?_
  refine tok_cons (snd_aload_n dX6_putNext_109 rfl rfl) ?_
  refine tok_cons (snd_cv dX6_putNext_110 mok_6_findStart ⟨wm6_101, wi_6_findStart, wl_6_findStart⟩ (rc := (RX6, TX6, 11)) rfl rfl pn_6_findStart (by decide) ⟨rfl, rfl⟩ rfl) ?_
  refine tok_cons (snd_if_eq dX6_putNext_113 (by decide) rfl) ?_
  refine tok_cons (snd_aload_n dX6_putNext_116 rfl rfl) ?_
  refine tok_cons (snd_aload_n dX6_putNext_117 rfl rfl) ?_
  refine tok_cons (snd_aload_n dX6_putNext_118 rfl rfl) ?_
  refine tok_cons (snd_gr (C := RX6) (T := TX6) (N := 11) dX6_putNext_119 rfl (by decide) rfl wf6_47 inX6 rfl) ?_
  refine tok_cons (snd_iconst dX6_putNext_122 rfl (inr_d rfl) rfl) ?_
  refine tok_cons (snd_cn dX6_putNext_123 mok_6_addSegment ⟨wm6_104, wi_6_addSegment, wl_6_addSegment⟩ (rc := (RX6, TX6, 11)) rfl rfl pn_6_addSegment (by decide) ⟨rfl, rfl⟩ rfl) ?_
  refine tok_cons (snd_aload_n dX6_putNext_126 rfl rfl) ?_
  refine tok_cons (snd_gr (C := RX6) (T := TX6) (N := 11) dX6_putNext_127 rfl (by decide) rfl wf6_43 inX6 rfl) ?_
  refine tok_cons (snd_aload_n dX6_putNext_130 rfl rfl) ?_
  refine tok_cons (snd_gr (C := RX6) (T := TX6) (N := 11) dX6_putNext_131 rfl (by decide) rfl wf6_47 inX6 rfl) ?_
  refine tok_cons (snd_cn dX6_putNext_134 mok_5_dropStart ⟨wm6_108, wi_5_dropStart, wl_5_dropStart⟩ (rc := (RX5, TX5, 3)) rfl rfl pn_5_dropStart (by decide) ⟨rfl, rfl⟩ rfl) ?_
  refine tok_cons (snd_goto dX6_putNext_137 (by decide)) ?_
  refine tok_cons (snd_iload_n dX6_putNext_140 rfl rfl) ?_
  refine tok_cons (snd_if_eq dX6_putNext_141 (by decide) rfl) ?_
  refine tok_cons (snd_aload_n dX6_putNext_144 rfl rfl) ?_
  refine tok_cons (snd_gr (C := RX6) (T := TX6) (N := 11) dX6_putNext_145 rfl (by decide) rfl wf6_19 inX6 rfl) ?_
  refine tok_cons (snd_aload_n dX6_putNext_148 rfl rfl) ?_
  refine tok_cons (snd_gi (C := RX6) (T := TX6) (N := 11) dX6_putNext_149 rfl (by decide) rfl wf6_50 inX6 rfl rfl) ?_
  refine tok_cons (snd_iconst dX6_putNext_152 rfl (inr_d rfl) rfl) ?_
  refine tok_cons (snd_iast dX6_putNext_153 rfl) ?_
  refine tok_cons (snd_aload_n dX6_putNext_154 rfl rfl) ?_
  refine tok_cons (snd_aload_n dX6_putNext_155 rfl rfl) ?_
  refine tok_cons (snd_cn dX6_putNext_156 mok_6_putRest ⟨wm6_98, wi_6_putRest, wl_6_putRest⟩ (rc := (RX6, TX6, 11)) rfl rfl pn_6_putRest (by decide) ⟨rfl, rfl⟩ rfl) ?_
  refine tok_cons (snd_iconst dX6_putNext_159 rfl (inr_d rfl) rfl) ?_
  refine tok_cons (snd_zret dX6_putNext_160 rfl) ?_
  exact tok_nil
def tab_7_undo (X : XT) : Tab := [(0, false, a_aload 0 1), (1, false, a_gr 7 1 4), (4, false, a_gi 3 0 0 7), (7, false, a_if 4 13 10), (10, false, a_const (-2) 12), (12, false, a_iret M_7_undo), (13, false, a_aload 0 14), (14, false, a_gr 7 1 17), (17, false, a_aload 0 18), (18, false, a_gr 7 0 21), (21, false, a_cn X M_7_undo M_3_restore 3 2 24), (24, false, a_aload 0 25), (25, false, a_cn X M_7_undo M_7_forgetResults 7 1 28), (28, false, a_aload 0 29), (29, false, a_gr 7 1 32), (32, false, a_gi 3 0 0 35), (35, false, a_iret M_7_undo)]
set_option maxRecDepth 20000 in
theorem t_7_undo (X : XT) : tget (tab_7_undo X) 0 = some (false, a_aload 0 1) ∧ tget (tab_7_undo X) 1 = some (false, a_gr 7 1 4) ∧ tget (tab_7_undo X) 4 = some (false, a_gi 3 0 0 7) ∧ tget (tab_7_undo X) 7 = some (false, a_if 4 13 10) ∧ tget (tab_7_undo X) 10 = some (false, a_const (-2) 12) ∧ tget (tab_7_undo X) 12 = some (false, a_iret M_7_undo) ∧ tget (tab_7_undo X) 13 = some (false, a_aload 0 14) ∧ tget (tab_7_undo X) 14 = some (false, a_gr 7 1 17) ∧ tget (tab_7_undo X) 17 = some (false, a_aload 0 18) ∧ tget (tab_7_undo X) 18 = some (false, a_gr 7 0 21) ∧ tget (tab_7_undo X) 21 = some (false, a_cn X M_7_undo M_3_restore 3 2 24) ∧ tget (tab_7_undo X) 24 = some (false, a_aload 0 25) ∧ tget (tab_7_undo X) 25 = some (false, a_cn X M_7_undo M_7_forgetResults 7 1 28) ∧ tget (tab_7_undo X) 28 = some (false, a_aload 0 29) ∧ tget (tab_7_undo X) 29 = some (false, a_gr 7 1 32) ∧ tget (tab_7_undo X) 32 = some (false, a_gi 3 0 0 35) ∧ tget (tab_7_undo X) 35 = some (false, a_iret M_7_undo) := ⟨rfl, rfl, rfl, rfl, rfl, rfl, rfl, rfl, rfl, rfl, rfl, rfl, rfl, rfl, rfl, rfl, rfl⟩
theorem tok_7_undo (X : XT) : TabOK X M_7_undo (tab_7_undo X) := by
  unfold tab_7_undo
  refine tok_cons (snd_aload_n dX7_undo_0 rfl rfl) ?_
  refine tok_cons (snd_gr (C := RX7) (T := TX7) (N := 4) dX7_undo_1 rfl (by decide) rfl wf7_19 inX7 rfl) ?_
  refine tok_cons (snd_gi (C := RX3) (T := TX3) (N := 3) dX7_undo_4 rfl (by decide) rfl wf7_104 inX3 rfl rfl) ?_
  refine tok_cons (snd_if_gt dX7_undo_7 (by decide) rfl) ?_
  refine tok_cons (snd_bipush dX7_undo_10 (by decide) (inr_d rfl) rfl) ?_
  refine tok_cons (snd_iret dX7_undo_12 rfl) ?_
  refine tok_cons (snd_aload_n dX7_undo_13 rfl rfl) ?_
  refine tok_cons (snd_gr (C := RX7) (T := TX7) (N := 4) dX7_undo_14 rfl (by decide) rfl wf7_19 inX7 rfl) ?_
  refine tok_cons (snd_aload_n dX7_undo_17 rfl rfl) ?_
  refine tok_cons (snd_gr (C := RX7) (T := TX7) (N := 4) dX7_undo_18 rfl (by decide) rfl wf7_10 inX7 rfl) ?_
  refine tok_cons (snd_cn dX7_undo_21 mok_3_restore ⟨wm7_105, wi_3_restore, wl_3_restore⟩ (rc := (RX3, TX3, 3)) rfl rfl pn_3_restore (by decide) ⟨rfl, rfl⟩ rfl) ?_
  refine tok_cons (snd_aload_n dX7_undo_24 rfl rfl) ?_
  refine tok_cons (snd_cn dX7_undo_25 mok_7_forgetResults ⟨wm7_109, wi_7_forgetResults, wl_7_forgetResults⟩ (rc := (RX7, TX7, 4)) rfl rfl pn_7_forgetResults (by decide) ⟨rfl, rfl⟩ rfl) ?_
  refine tok_cons (snd_aload_n dX7_undo_28 rfl rfl) ?_
  refine tok_cons (snd_gr (C := RX7) (T := TX7) (N := 4) dX7_undo_29 rfl (by decide) rfl wf7_19 inX7 rfl) ?_
  refine tok_cons (snd_gi (C := RX3) (T := TX3) (N := 3) dX7_undo_32 rfl (by decide) rfl wf7_104 inX3 rfl rfl) ?_
  refine tok_cons (snd_iret dX7_undo_35 rfl) ?_
  exact tok_nil
def tab_7_beginChange (X : XT) : Tab := [(0, false, a_aload 0 1), (1, false, a_gr 7 1 4), (4, false, a_aload 0 5), (5, false, a_gr 7 0 8), (8, false, a_cn X M_7_beginChange M_3_record 3 2 11), (11, false, a_aload 0 12), (12, false, a_cn X M_7_beginChange M_7_forgetResults 7 1 15), (15, false, a_ret M_7_beginChange)]
set_option maxRecDepth 20000 in
theorem t_7_beginChange (X : XT) : tget (tab_7_beginChange X) 0 = some (false, a_aload 0 1) ∧ tget (tab_7_beginChange X) 1 = some (false, a_gr 7 1 4) ∧ tget (tab_7_beginChange X) 4 = some (false, a_aload 0 5) ∧ tget (tab_7_beginChange X) 5 = some (false, a_gr 7 0 8) ∧ tget (tab_7_beginChange X) 8 = some (false, a_cn X M_7_beginChange M_3_record 3 2 11) ∧ tget (tab_7_beginChange X) 11 = some (false, a_aload 0 12) ∧ tget (tab_7_beginChange X) 12 = some (false, a_cn X M_7_beginChange M_7_forgetResults 7 1 15) ∧ tget (tab_7_beginChange X) 15 = some (false, a_ret M_7_beginChange) := ⟨rfl, rfl, rfl, rfl, rfl, rfl, rfl, rfl⟩
theorem tok_7_beginChange (X : XT) : TabOK X M_7_beginChange (tab_7_beginChange X) := by
  unfold tab_7_beginChange
  refine tok_cons (snd_aload_n dX7_beginChange_0 rfl rfl) ?_
  refine tok_cons (snd_gr (C := RX7) (T := TX7) (N := 4) dX7_beginChange_1 rfl (by decide) rfl wf7_19 inX7 rfl) ?_
  refine tok_cons (snd_aload_n dX7_beginChange_4 rfl rfl) ?_
  refine tok_cons (snd_gr (C := RX7) (T := TX7) (N := 4) dX7_beginChange_5 rfl (by decide) rfl wf7_10 inX7 rfl) ?_
  refine tok_cons (snd_cn dX7_beginChange_8 mok_3_record ⟨wm7_185, wi_3_record, wl_3_record⟩ (rc := (RX3, TX3, 3)) rfl rfl pn_3_record (by decide) ⟨rfl, rfl⟩ rfl) ?_
  refine tok_cons (snd_aload_n dX7_beginChange_11 rfl rfl) ?_
  refine tok_cons (snd_cn dX7_beginChange_12 mok_7_forgetResults ⟨wm7_109, wi_7_forgetResults, wl_7_forgetResults⟩ (rc := (RX7, TX7, 4)) rfl rfl pn_7_forgetResults (by decide) ⟨rfl, rfl⟩ rfl) ?_
  refine tok_cons (snd_ret dX7_beginChange_15 rfl) ?_
  exact tok_nil
def tab_6_arrange (X : XT) : Tab := [(0, false, a_aload 0 1), (1, false, a_gi 6 0 0 4), (4, false, a_iload 2 5), (5, false, a_icmp 1 9 8), (8, false, a_ret M_6_arrange), (9, false, a_aload 0 10), (10, false, a_iload 2 11), (11, false, a_pi 6 0 0 false 14), (14, false, a_aload 0 15), (15, false, a_const 0 16), (16, false, a_pi 6 1 1 false 19), (19, false, a_aload 0 20), (20, false, a_const 0 21), (21, false, a_pi 6 6 6 false 24), (24, false, a_aload 0 25), (25, false, a_gr 6 9 28), (28, false, a_aload 1 29), (29, false, a_const 0 30), (30, false, a_cn X M_6_arrange M_5_takePair 5 3 33), (33, false, a_aload 0 34), (34, false, a_gr 6 7 37), (37, false, a_const 0 38), (38, false, a_const 0 39), (39, false, a_const 0 40), (40, false, a_cn X M_6_arrange M_2_turn 2 4 43), (43, false, a_aload 0 44), (44, false, a_gr 6 7 47), (47, false, a_const 1 48), (48, false, a_const 0 49), (49, false, a_const 0 50), (50, false, a_cn X M_6_arrange M_2_turn 2 4 53), (53, false, a_const 0 54), (54, false, a_istore 3 55), (55, true, a_iload 3 56), (56, false, a_const 601 59), (59, false, a_icmp 3 135 62), (62, false, a_aload 1 63), (63, false, a_aload 0 64), (64, false, a_gr 6 9 67), (67, false, a_gi 5 0 0 70), (70, false, a_cv X M_6_arrange M_1_hasPair 1 2 73), (73, false, a_if 1 83 76), (76, false, a_aload 0 77), (77, false, a_cv X M_6_arrange M_6_isCarried 6 1 80), (80, false, a_if 0 135 83), (83, false, a_aload 0 84), (84, false, a_gr 6 3 87), (87, false, a_aload 0 88), (88, false, a_gi 6 1 1 91), (91, false, a_const 0 92), (92, false, a_ast false 93), (93, false, a_const 1 94), (94, false, a_istore 4 96), (96, false, a_const 0 97), (97, false, a_istore 5 99), (99, true, a_iload 4 101), (101, false, a_if 0 124 104), (104, false, a_iload 5 106), (106, false, a_const 20 108), (108, false, a_icmp 3 124 111), (111, false, a_aload 0 112), (112, false, a_aload 1 113), (113, false, a_cv X M_6_arrange M_6_putNext 6 2 116), (116, false, a_istore 4 118), (118, false, a_iinc 5 1 121), (121, false, a_goto 99), (124, false, a_aload 0 125), (125, false, a_aload 1 126), (126, false, a_cn X M_6_arrange M_6_endSpread 6 2 129), (129, false, a_iinc 3 1 132), (132, false, a_goto 55), (135, false, a_ret M_6_arrange)]
set_option maxRecDepth 20000 in
theorem t_6_arrange (X : XT) : tget (tab_6_arrange X) 0 = some (false, a_aload 0 1) ∧ tget (tab_6_arrange X) 1 = some (false, a_gi 6 0 0 4) ∧ tget (tab_6_arrange X) 4 = some (false, a_iload 2 5) ∧ tget (tab_6_arrange X) 5 = some (false, a_icmp 1 9 8) ∧ tget (tab_6_arrange X) 8 = some (false, a_ret M_6_arrange) ∧ tget (tab_6_arrange X) 9 = some (false, a_aload 0 10) ∧ tget (tab_6_arrange X) 10 = some (false, a_iload 2 11) ∧ tget (tab_6_arrange X) 11 = some (false, a_pi 6 0 0 false 14) ∧ tget (tab_6_arrange X) 14 = some (false, a_aload 0 15) ∧ tget (tab_6_arrange X) 15 = some (false, a_const 0 16) ∧ tget (tab_6_arrange X) 16 = some (false, a_pi 6 1 1 false 19) ∧ tget (tab_6_arrange X) 19 = some (false, a_aload 0 20) ∧ tget (tab_6_arrange X) 20 = some (false, a_const 0 21) ∧ tget (tab_6_arrange X) 21 = some (false, a_pi 6 6 6 false 24) ∧ tget (tab_6_arrange X) 24 = some (false, a_aload 0 25) ∧ tget (tab_6_arrange X) 25 = some (false, a_gr 6 9 28) ∧ tget (tab_6_arrange X) 28 = some (false, a_aload 1 29) ∧ tget (tab_6_arrange X) 29 = some (false, a_const 0 30) ∧ tget (tab_6_arrange X) 30 = some (false, a_cn X M_6_arrange M_5_takePair 5 3 33) ∧ tget (tab_6_arrange X) 33 = some (false, a_aload 0 34) ∧ tget (tab_6_arrange X) 34 = some (false, a_gr 6 7 37) ∧ tget (tab_6_arrange X) 37 = some (false, a_const 0 38) ∧ tget (tab_6_arrange X) 38 = some (false, a_const 0 39) ∧ tget (tab_6_arrange X) 39 = some (false, a_const 0 40) ∧ tget (tab_6_arrange X) 40 = some (false, a_cn X M_6_arrange M_2_turn 2 4 43) ∧ tget (tab_6_arrange X) 43 = some (false, a_aload 0 44) ∧ tget (tab_6_arrange X) 44 = some (false, a_gr 6 7 47) ∧ tget (tab_6_arrange X) 47 = some (false, a_const 1 48) ∧ tget (tab_6_arrange X) 48 = some (false, a_const 0 49) ∧ tget (tab_6_arrange X) 49 = some (false, a_const 0 50) ∧ tget (tab_6_arrange X) 50 = some (false, a_cn X M_6_arrange M_2_turn 2 4 53) ∧ tget (tab_6_arrange X) 53 = some (false, a_const 0 54) ∧ tget (tab_6_arrange X) 54 = some (false, a_istore 3 55) ∧ tget (tab_6_arrange X) 55 = some (true, a_iload 3 56) ∧ tget (tab_6_arrange X) 56 = some (false, a_const 601 59) ∧ tget (tab_6_arrange X) 59 = some (false, a_icmp 3 135 62) ∧ tget (tab_6_arrange X) 62 = some (false, a_aload 1 63) ∧ tget (tab_6_arrange X) 63 = some (false, a_aload 0 64) ∧ tget (tab_6_arrange X) 64 = some (false, a_gr 6 9 67) ∧ tget (tab_6_arrange X) 67 = some (false, a_gi 5 0 0 70) ∧ tget (tab_6_arrange X) 70 = some (false, a_cv X M_6_arrange M_1_hasPair 1 2 73) ∧ tget (tab_6_arrange X) 73 = some (false, a_if 1 83 76) ∧ tget (tab_6_arrange X) 76 = some (false, a_aload 0 77) ∧ tget (tab_6_arrange X) 77 = some (false, a_cv X M_6_arrange M_6_isCarried 6 1 80) ∧ tget (tab_6_arrange X) 80 = some (false, a_if 0 135 83) ∧ tget (tab_6_arrange X) 83 = some (false, a_aload 0 84) ∧ tget (tab_6_arrange X) 84 = some (false, a_gr 6 3 87) ∧ tget (tab_6_arrange X) 87 = some (false, a_aload 0 88) ∧ tget (tab_6_arrange X) 88 = some (false, a_gi 6 1 1 91) ∧ tget (tab_6_arrange X) 91 = some (false, a_const 0 92) ∧ tget (tab_6_arrange X) 92 = some (false, a_ast false 93) ∧ tget (tab_6_arrange X) 93 = some (false, a_const 1 94) ∧ tget (tab_6_arrange X) 94 = some (false, a_istore 4 96) ∧ tget (tab_6_arrange X) 96 = some (false, a_const 0 97) ∧ tget (tab_6_arrange X) 97 = some (false, a_istore 5 99) ∧ tget (tab_6_arrange X) 99 = some (true, a_iload 4 101) ∧ tget (tab_6_arrange X) 101 = some (false, a_if 0 124 104) ∧ tget (tab_6_arrange X) 104 = some (false, a_iload 5 106) ∧ tget (tab_6_arrange X) 106 = some (false, a_const 20 108) ∧ tget (tab_6_arrange X) 108 = some (false, a_icmp 3 124 111) ∧ tget (tab_6_arrange X) 111 = some (false, a_aload 0 112) ∧ tget (tab_6_arrange X) 112 = some (false, a_aload 1 113) ∧ tget (tab_6_arrange X) 113 = some (false, a_cv X M_6_arrange M_6_putNext 6 2 116) ∧ tget (tab_6_arrange X) 116 = some (false, a_istore 4 118) ∧ tget (tab_6_arrange X) 118 = some (false, a_iinc 5 1 121) ∧ tget (tab_6_arrange X) 121 = some (false, a_goto 99) ∧ tget (tab_6_arrange X) 124 = some (false, a_aload 0 125) ∧ tget (tab_6_arrange X) 125 = some (false, a_aload 1 126) ∧ tget (tab_6_arrange X) 126 = some (false, a_cn X M_6_arrange M_6_endSpread 6 2 129) ∧ tget (tab_6_arrange X) 129 = some (false, a_iinc 3 1 132) ∧ tget (tab_6_arrange X) 132 = some (false, a_goto 55) ∧ tget (tab_6_arrange X) 135 = some (false, a_ret M_6_arrange) := ⟨rfl, rfl, rfl, rfl, rfl, rfl, rfl, rfl, rfl, rfl, rfl, rfl, rfl, rfl, rfl, rfl, rfl, rfl, rfl, rfl, rfl, rfl, rfl, rfl, rfl, rfl, rfl, rfl, rfl, rfl, rfl, rfl, rfl, rfl, rfl, rfl, rfl, rfl, rfl, rfl, rfl, rfl, rfl, rfl, rfl, rfl, rfl, rfl, rfl, rfl, rfl, rfl, rfl, rfl, rfl, rfl, rfl, rfl, rfl, rfl, rfl, rfl, rfl, rfl, rfl, rfl, rfl, rfl, rfl, rfl, rfl, rfl⟩
theorem tok_6_arrange (X : XT) : TabOK X M_6_arrange (tab_6_arrange X) := by
  unfold tab_6_arrange
  refine tok_cons (snd_aload_n dX6_arrange_0 rfl rfl) ?_
  refine tok_cons (snd_gi (C := RX6) (T := TX6) (N := 11) dX6_arrange_1 rfl (by decide) rfl wf6_11 inX6 rfl rfl) ?_
  refine tok_cons (snd_iload_n dX6_arrange_4 rfl rfl) ?_
  refine tok_cons (snd_icmp_ne dX6_arrange_5 (by decide) rfl) ?_
  refine tok_cons (snd_ret dX6_arrange_8 rfl) ?_
  refine tok_cons (snd_aload_n dX6_arrange_9 rfl rfl) ?_
  refine tok_cons (snd_iload_n dX6_arrange_10 rfl rfl) ?_
  refine tok_cons (snd_pi (C := RX6) (T := TX6) (N := 11) (ty0 := tyX6) dX6_arrange_11 rfl (by decide) rfl wf6_11 inX6 tyX6_ok nmX6 (by decide +kernel) rfl rfl) ?_
  refine tok_cons (snd_aload_n dX6_arrange_14 rfl rfl) ?_
  refine tok_cons (snd_iconst dX6_arrange_15 rfl (inr_d rfl) rfl) ?_
  refine tok_cons (snd_pi (C := RX6) (T := TX6) (N := 11) (ty0 := tyX6) dX6_arrange_16 rfl (by decide) rfl wf6_50 inX6 tyX6_ok nmX6 (by decide +kernel) rfl rfl) ?_
  refine tok_cons (snd_aload_n dX6_arrange_19 rfl rfl) ?_
  refine tok_cons (snd_iconst dX6_arrange_20 rfl (inr_d rfl) rfl) ?_
  refine tok_cons (snd_pi (C := RX6) (T := TX6) (N := 11) (ty0 := tyX6) dX6_arrange_21 rfl (by decide) rfl wf6_53 inX6 tyX6_ok nmX6 (by decide +kernel) rfl rfl) ?_
  refine tok_cons (snd_aload_n dX6_arrange_24 rfl rfl) ?_
  refine tok_cons (snd_gr (C := RX6) (T := TX6) (N := 11) dX6_arrange_25 rfl (by decide) rfl wf6_43 inX6 rfl) ?_
  refine tok_cons (snd_aload_n dX6_arrange_28 rfl rfl) ?_
  refine tok_cons (snd_iconst dX6_arrange_29 rfl (inr_d rfl) rfl) ?_
  refine tok_cons (snd_cn dX6_arrange_30 mok_5_takePair ⟨wm6_56, wi_5_takePair, wl_5_takePair⟩ (rc := (RX5, TX5, 3)) rfl rfl pn_5_takePair (by decide) ⟨rfl, rfl⟩ rfl) ?_
  refine tok_cons (snd_aload_n dX6_arrange_33 rfl rfl) ?_
  refine tok_cons (snd_gr (C := RX6) (T := TX6) (N := 11) dX6_arrange_34 rfl (by decide) rfl wf6_33 inX6 rfl) ?_
  refine tok_cons (snd_iconst dX6_arrange_37 rfl (inr_d rfl) rfl) ?_
  refine tok_cons (snd_iconst dX6_arrange_38 rfl (inr_d rfl) rfl) ?_
  refine tok_cons (snd_iconst dX6_arrange_39 rfl (inr_d rfl) rfl) ?_
  refine tok_cons (snd_cn dX6_arrange_40 mok_2_turn ⟨wm6_60, wi_2_turn, wl_2_turn⟩ (rc := (RX2, TX2, 7)) rfl rfl pn_2_turn (by decide) ⟨rfl, rfl⟩ rfl) ?_
  refine tok_cons (snd_aload_n dX6_arrange_43 rfl rfl) ?_
  refine tok_cons (snd_gr (C := RX6) (T := TX6) (N := 11) dX6_arrange_44 rfl (by decide) rfl wf6_33 inX6 rfl) ?_
  refine tok_cons (snd_iconst dX6_arrange_47 rfl (inr_d rfl) rfl) ?_
  refine tok_cons (snd_iconst dX6_arrange_48 rfl (inr_d rfl) rfl) ?_
  refine tok_cons (snd_iconst dX6_arrange_49 rfl (inr_d rfl) rfl) ?_
  refine tok_cons (snd_cn dX6_arrange_50 mok_2_turn ⟨wm6_60, wi_2_turn, wl_2_turn⟩ (rc := (RX2, TX2, 7)) rfl rfl pn_2_turn (by decide) ⟨rfl, rfl⟩ rfl) ?_
  refine tok_cons (snd_iconst dX6_arrange_53 rfl (inr_d rfl) rfl) ?_
  refine tok_cons (snd_istore_n dX6_arrange_54 rfl rfl (by decide)) ?_
  refine tok_cons (snd_iload_n dX6_arrange_55 rfl rfl) ?_
  refine tok_cons (snd_sipush dX6_arrange_56 (by decide) (inr_d rfl) rfl) ?_
  refine tok_cons (snd_icmp_ge dX6_arrange_59 (by decide) rfl) ?_
  refine tok_cons (snd_aload_n dX6_arrange_62 rfl rfl) ?_
  refine tok_cons (snd_aload_n dX6_arrange_63 rfl rfl) ?_
  refine tok_cons (snd_gr (C := RX6) (T := TX6) (N := 11) dX6_arrange_64 rfl (by decide) rfl wf6_43 inX6 rfl) ?_
  refine tok_cons (snd_gi (C := RX5) (T := TX5) (N := 3) dX6_arrange_67 rfl (by decide) rfl wf6_64 inX5 rfl rfl) ?_
  refine tok_cons (snd_cv dX6_arrange_70 mok_1_hasPair ⟨wm6_67, wi_1_hasPair, wl_1_hasPair⟩ (rc := (RX1, TX1, 5)) rfl rfl pn_1_hasPair (by decide) ⟨rfl, rfl⟩ rfl) ?_
  refine tok_cons (snd_if_ne dX6_arrange_73 (by decide) rfl) ?_
  refine tok_cons (snd_aload_n dX6_arrange_76 rfl rfl) ?_
  refine tok_cons (snd_cv dX6_arrange_77 mok_6_isCarried ⟨wm6_73, wi_6_isCarried, wl_6_isCarried⟩ (rc := (RX6, TX6, 11)) rfl rfl pn_6_isCarried (by decide) ⟨rfl, rfl⟩ rfl) ?_
  refine tok_cons (snd_if_eq dX6_arrange_80 (by decide) rfl) ?_
  refine tok_cons (snd_aload_n dX6_arrange_83 rfl rfl) ?_
  refine tok_cons (snd_gr (C := RX6) (T := TX6) (N := 11) dX6_arrange_84 rfl (by decide) rfl wf6_19 inX6 rfl) ?_
  refine tok_cons (snd_aload_n dX6_arrange_87 rfl rfl) ?_
  refine tok_cons (snd_gi (C := RX6) (T := TX6) (N := 11) dX6_arrange_88 rfl (by decide) rfl wf6_50 inX6 rfl rfl) ?_
  refine tok_cons (snd_iconst dX6_arrange_91 rfl (inr_d rfl) rfl) ?_
  refine tok_cons (snd_iast dX6_arrange_92 rfl) ?_
  refine tok_cons (snd_iconst dX6_arrange_93 rfl (inr_d rfl) rfl) ?_
  refine tok_cons (snd_istore dX6_arrange_94 rfl (by decide)) ?_
  refine tok_cons (snd_iconst dX6_arrange_96 rfl (inr_d rfl) rfl) ?_
  refine tok_cons (snd_istore dX6_arrange_97 rfl (by decide)) ?_
  refine tok_cons (snd_iload dX6_arrange_99 rfl) ?_
  refine tok_cons (snd_if_eq dX6_arrange_101 (by decide) rfl) ?_
  refine tok_cons (snd_iload dX6_arrange_104 rfl) ?_
  refine tok_cons (snd_bipush dX6_arrange_106 (by decide) (inr_d rfl) rfl) ?_
  refine tok_cons (snd_icmp_ge dX6_arrange_108 (by decide) rfl) ?_
  refine tok_cons (snd_aload_n dX6_arrange_111 rfl rfl) ?_
  refine tok_cons (snd_aload_n dX6_arrange_112 rfl rfl) ?_
  refine tok_cons (snd_cv dX6_arrange_113 mok_6_putNext ⟨wm6_77, wi_6_putNext, wl_6_putNext⟩ (rc := (RX6, TX6, 11)) rfl rfl pn_6_putNext (by decide) ⟨rfl, rfl⟩ rfl) ?_
  refine tok_cons (snd_istore dX6_arrange_116 rfl (by decide)) ?_
  refine tok_cons (snd_iinc dX6_arrange_118 rfl rfl (by decide)) ?_
  refine tok_cons (snd_goto dX6_arrange_121 (by decide)) ?_
  refine tok_cons (snd_aload_n dX6_arrange_124 rfl rfl) ?_
  refine tok_cons (snd_aload_n dX6_arrange_125 rfl rfl) ?_
  refine tok_cons (snd_cn dX6_arrange_126 mok_6_endSpread ⟨wm6_81, wi_6_endSpread, wl_6_endSpread⟩ (rc := (RX6, TX6, 11)) rfl rfl pn_6_endSpread (by decide) ⟨rfl, rfl⟩ rfl) ?_
  refine tok_cons (snd_iinc dX6_arrange_129 rfl rfl (by decide)) ?_
  refine tok_cons (snd_goto dX6_arrange_132 (by decide)) ?_
  refine tok_cons (snd_ret dX6_arrange_135 rfl) ?_
  exact tok_nil
def tab_7_insert (X : XT) : Tab := [(0, false, a_iload 1 1), (1, false, a_const 0 2), (2, false, a_aload 0 3), (3, false, a_gr 7 0 6), (6, false, a_gi 1 0 0 9), (9, false, a_sv X M_7_insert M_7_isIn 3 12), (12, false, a_if 0 35 15), (15, false, a_iload 2 16), (16, false, a_const 1 17), (17, false, a_const 30 19), (19, false, a_sv X M_7_insert M_7_isIn 3 22), (22, false, a_if 0 35 25), (25, false, a_iload 3 26), (26, false, a_const 1 27), (27, false, a_const 30 29), (29, false, a_sv X M_7_insert M_7_isIn 3 32), (32, false, a_if 1 37 35), (35, false, a_const (-1) 36), (36, false, a_iret M_7_insert), (37, false, a_aload 0 38), (38, false, a_gr 7 0 41), (41, false, a_gi 1 0 0 44), (44, false, a_const 20 46), (46, false, a_icmp 2 52 49), (49, false, a_const (-3) 51), (51, false, a_iret M_7_insert), (52, false, a_aload 0 53), (53, false, a_cn X M_7_insert M_7_beginChange 7 1 56), (56, false, a_aload 0 57), (57, false, a_gr 7 0 60), (60, false, a_iload 1 61), (61, false, a_iload 2 62), (62, false, a_iload 3 63), (63, false, a_cn X M_7_insert M_1_placePair 1 4 66), (66, false, a_aload 0 67), (67, false, a_gr 7 0 70), (70, false, a_gi 1 0 0 73), (73, false, a_iret M_7_insert)]
set_option maxRecDepth 20000 in
theorem t_7_insert (X : XT) : tget (tab_7_insert X) 0 = some (false, a_iload 1 1) ∧ tget (tab_7_insert X) 1 = some (false, a_const 0 2) ∧ tget (tab_7_insert X) 2 = some (false, a_aload 0 3) ∧ tget (tab_7_insert X) 3 = some (false, a_gr 7 0 6) ∧ tget (tab_7_insert X) 6 = some (false, a_gi 1 0 0 9) ∧ tget (tab_7_insert X) 9 = some (false, a_sv X M_7_insert M_7_isIn 3 12) ∧ tget (tab_7_insert X) 12 = some (false, a_if 0 35 15) ∧ tget (tab_7_insert X) 15 = some (false, a_iload 2 16) ∧ tget (tab_7_insert X) 16 = some (false, a_const 1 17) ∧ tget (tab_7_insert X) 17 = some (false, a_const 30 19) ∧ tget (tab_7_insert X) 19 = some (false, a_sv X M_7_insert M_7_isIn 3 22) ∧ tget (tab_7_insert X) 22 = some (false, a_if 0 35 25) ∧ tget (tab_7_insert X) 25 = some (false, a_iload 3 26) ∧ tget (tab_7_insert X) 26 = some (false, a_const 1 27) ∧ tget (tab_7_insert X) 27 = some (false, a_const 30 29) ∧ tget (tab_7_insert X) 29 = some (false, a_sv X M_7_insert M_7_isIn 3 32) ∧ tget (tab_7_insert X) 32 = some (false, a_if 1 37 35) ∧ tget (tab_7_insert X) 35 = some (false, a_const (-1) 36) ∧ tget (tab_7_insert X) 36 = some (false, a_iret M_7_insert) ∧ tget (tab_7_insert X) 37 = some (false, a_aload 0 38) ∧ tget (tab_7_insert X) 38 = some (false, a_gr 7 0 41) ∧ tget (tab_7_insert X) 41 = some (false, a_gi 1 0 0 44) ∧ tget (tab_7_insert X) 44 = some (false, a_const 20 46) ∧ tget (tab_7_insert X) 46 = some (false, a_icmp 2 52 49) ∧ tget (tab_7_insert X) 49 = some (false, a_const (-3) 51) ∧ tget (tab_7_insert X) 51 = some (false, a_iret M_7_insert) ∧ tget (tab_7_insert X) 52 = some (false, a_aload 0 53) ∧ tget (tab_7_insert X) 53 = some (false, a_cn X M_7_insert M_7_beginChange 7 1 56) ∧ tget (tab_7_insert X) 56 = some (false, a_aload 0 57) ∧ tget (tab_7_insert X) 57 = some (false, a_gr 7 0 60) ∧ tget (tab_7_insert X) 60 = some (false, a_iload 1 61) ∧ tget (tab_7_insert X) 61 = some (false, a_iload 2 62) ∧ tget (tab_7_insert X) 62 = some (false, a_iload 3 63) ∧ tget (tab_7_insert X) 63 = some (false, a_cn X M_7_insert M_1_placePair 1 4 66) ∧ tget (tab_7_insert X) 66 = some (false, a_aload 0 67) ∧ tget (tab_7_insert X) 67 = some (false, a_gr 7 0 70) ∧ tget (tab_7_insert X) 70 = some (false, a_gi 1 0 0 73) ∧ tget (tab_7_insert X) 73 = some (false, a_iret M_7_insert) := ⟨rfl, rfl, rfl, rfl, rfl, rfl, rfl, rfl, rfl, rfl, rfl, rfl, rfl, rfl, rfl, rfl, rfl, rfl, rfl, rfl, rfl, rfl, rfl, rfl, rfl, rfl, rfl, rfl, rfl, rfl, rfl, rfl, rfl, rfl, rfl, rfl, rfl, rfl⟩
theorem tok_7_insert (X : XT) : TabOK X M_7_insert (tab_7_insert X) := by
  unfold tab_7_insert
  refine tok_cons (snd_iload_n dX7_insert_0 rfl rfl) ?_
  refine tok_cons (snd_iconst dX7_insert_1 rfl (inr_d rfl) rfl) ?_
  refine tok_cons (snd_aload_n dX7_insert_2 rfl rfl) ?_
  refine tok_cons (snd_gr (C := RX7) (T := TX7) (N := 4) dX7_insert_3 rfl (by decide) rfl wf7_10 inX7 rfl) ?_
  refine tok_cons (snd_gi (C := RX1) (T := TX1) (N := 5) dX7_insert_6 rfl (by decide) rfl wf7_37 inX1 rfl rfl) ?_
  refine tok_cons (snd_sv dX7_insert_9 mok_7_isIn ⟨ws_7_isIn, Or.inl ⟨wm7_41, rfl⟩⟩ pn_7_isIn (by decide) ⟨rfl, rfl⟩ rfl) ?_
  refine tok_cons (snd_if_eq dX7_insert_12 (by decide) rfl) ?_
  refine tok_cons (snd_iload_n dX7_insert_15 rfl rfl) ?_
  refine tok_cons (snd_iconst dX7_insert_16 rfl (inr_d rfl) rfl) ?_
  refine tok_cons (snd_bipush dX7_insert_17 (by decide) (inr_d rfl) rfl) ?_
  refine tok_cons (snd_sv dX7_insert_19 mok_7_isIn ⟨ws_7_isIn, Or.inl ⟨wm7_41, rfl⟩⟩ pn_7_isIn (by decide) ⟨rfl, rfl⟩ rfl) ?_
  refine tok_cons (snd_if_eq dX7_insert_22 (by decide) rfl) ?_
  refine tok_cons (snd_iload_n dX7_insert_25 rfl rfl) ?_
  refine tok_cons (snd_iconst dX7_insert_26 rfl (inr_d rfl) rfl) ?_
  refine tok_cons (snd_bipush dX7_insert_27 (by decide) (inr_d rfl) rfl) ?_
  refine tok_cons (snd_sv dX7_insert_29 mok_7_isIn ⟨ws_7_isIn, Or.inl ⟨wm7_41, rfl⟩⟩ pn_7_isIn (by decide) ⟨rfl, rfl⟩ rfl) ?_
  refine tok_cons (snd_if_ne dX7_insert_32 (by decide) rfl) ?_
  refine tok_cons (snd_iconst dX7_insert_35 rfl (inr_d rfl) rfl) ?_
  refine tok_cons (snd_iret dX7_insert_36 rfl) ?_
  refine tok_cons (snd_aload_n dX7_insert_37 rfl rfl) ?_
  refine tok_cons (snd_gr (C := RX7) (T := TX7) (N := 4) dX7_insert_38 rfl (by decide) rfl wf7_10 inX7 rfl) ?_
  refine tok_cons (snd_gi (C := RX1) (T := TX1) (N := 5) dX7_insert_41 rfl (by decide) rfl wf7_37 inX1 rfl rfl) ?_
  refine tok_cons (snd_bipush dX7_insert_44 (by decide) (inr_d rfl) rfl) ?_
  refine tok_cons (snd_icmp_lt dX7_insert_46 (by decide) rfl) ?_
  refine tok_cons (snd_bipush dX7_insert_49 (by decide) (inr_d rfl) rfl) ?_
  refine tok_cons (snd_iret dX7_insert_51 rfl) ?_
  refine tok_cons (snd_aload_n dX7_insert_52 rfl rfl) ?_
  refine tok_cons (snd_cn dX7_insert_53 mok_7_beginChange ⟨wm7_45, wi_7_beginChange, wl_7_beginChange⟩ (rc := (RX7, TX7, 4)) rfl rfl pn_7_beginChange (by decide) ⟨rfl, rfl⟩ rfl) ?_
  refine tok_cons (snd_aload_n dX7_insert_56 rfl rfl) ?_
  refine tok_cons (snd_gr (C := RX7) (T := TX7) (N := 4) dX7_insert_57 rfl (by decide) rfl wf7_10 inX7 rfl) ?_
  refine tok_cons (snd_iload_n dX7_insert_60 rfl rfl) ?_
  refine tok_cons (snd_iload_n dX7_insert_61 rfl rfl) ?_
  refine tok_cons (snd_iload_n dX7_insert_62 rfl rfl) ?_
  refine tok_cons (snd_cn dX7_insert_63 mok_1_placePair ⟨wm7_48, wi_1_placePair, wl_1_placePair⟩ (rc := (RX1, TX1, 5)) rfl rfl pn_1_placePair (by decide) ⟨rfl, rfl⟩ rfl) ?_
  refine tok_cons (snd_aload_n dX7_insert_66 rfl rfl) ?_
  refine tok_cons (snd_gr (C := RX7) (T := TX7) (N := 4) dX7_insert_67 rfl (by decide) rfl wf7_10 inX7 rfl) ?_
  refine tok_cons (snd_gi (C := RX1) (T := TX1) (N := 5) dX7_insert_70 rfl (by decide) rfl wf7_37 inX1 rfl rfl) ?_
  refine tok_cons (snd_iret dX7_insert_73 rfl) ?_
  exact tok_nil
def tab_7_addNote (X : XT) : Tab := [(0, false, a_aload 0 1), (1, false, a_gr 7 0 4), (4, false, a_iload 1 5), (5, false, a_iload 2 6), (6, false, a_iload 3 7), (7, false, a_cv X M_7_addNote M_1_hasLine 1 4 10), (10, false, a_if 0 24 13), (13, false, a_iload 4 15), (15, false, a_const 1 16), (16, false, a_const 10 18), (18, false, a_sv X M_7_addNote M_7_isIn 3 21), (21, false, a_if 1 26 24), (24, false, a_const (-1) 25), (25, false, a_iret M_7_addNote), (26, false, a_aload 0 27), (27, false, a_gr 7 0 30), (30, false, a_gr 1 2 33), (33, false, a_gi 4 0 0 36), (36, false, a_aload 0 37), (37, false, a_gr 7 0 40), (40, false, a_gr 1 3 43), (43, false, a_gi 4 0 0 46), (46, false, a_add 47), (47, false, a_const 40 49), (49, false, a_icmp 2 55 52), (52, false, a_const (-3) 54), (54, false, a_iret M_7_addNote), (55, false, a_aload 0 56), (56, false, a_cn X M_7_addNote M_7_beginChange 7 1 59), (59, false, a_aload 0 60), (60, false, a_gr 7 0 63), (63, false, a_iload 2 64), (64, false, a_cv X M_7_addNote M_1_notes 1 2 67), (67, false, a_iload 1 68), (68, false, a_iload 3 69), (69, false, a_iload 4 71), (71, false, a_cv X M_7_addNote M_4_place 4 4 74), (74, false, a_iret M_7_addNote)]
set_option maxRecDepth 20000 in
theorem t_7_addNote (X : XT) : tget (tab_7_addNote X) 0 = some (false, a_aload 0 1) ∧ tget (tab_7_addNote X) 1 = some (false, a_gr 7 0 4) ∧ tget (tab_7_addNote X) 4 = some (false, a_iload 1 5) ∧ tget (tab_7_addNote X) 5 = some (false, a_iload 2 6) ∧ tget (tab_7_addNote X) 6 = some (false, a_iload 3 7) ∧ tget (tab_7_addNote X) 7 = some (false, a_cv X M_7_addNote M_1_hasLine 1 4 10) ∧ tget (tab_7_addNote X) 10 = some (false, a_if 0 24 13) ∧ tget (tab_7_addNote X) 13 = some (false, a_iload 4 15) ∧ tget (tab_7_addNote X) 15 = some (false, a_const 1 16) ∧ tget (tab_7_addNote X) 16 = some (false, a_const 10 18) ∧ tget (tab_7_addNote X) 18 = some (false, a_sv X M_7_addNote M_7_isIn 3 21) ∧ tget (tab_7_addNote X) 21 = some (false, a_if 1 26 24) ∧ tget (tab_7_addNote X) 24 = some (false, a_const (-1) 25) ∧ tget (tab_7_addNote X) 25 = some (false, a_iret M_7_addNote) ∧ tget (tab_7_addNote X) 26 = some (false, a_aload 0 27) ∧ tget (tab_7_addNote X) 27 = some (false, a_gr 7 0 30) ∧ tget (tab_7_addNote X) 30 = some (false, a_gr 1 2 33) ∧ tget (tab_7_addNote X) 33 = some (false, a_gi 4 0 0 36) ∧ tget (tab_7_addNote X) 36 = some (false, a_aload 0 37) ∧ tget (tab_7_addNote X) 37 = some (false, a_gr 7 0 40) ∧ tget (tab_7_addNote X) 40 = some (false, a_gr 1 3 43) ∧ tget (tab_7_addNote X) 43 = some (false, a_gi 4 0 0 46) ∧ tget (tab_7_addNote X) 46 = some (false, a_add 47) ∧ tget (tab_7_addNote X) 47 = some (false, a_const 40 49) ∧ tget (tab_7_addNote X) 49 = some (false, a_icmp 2 55 52) ∧ tget (tab_7_addNote X) 52 = some (false, a_const (-3) 54) ∧ tget (tab_7_addNote X) 54 = some (false, a_iret M_7_addNote) ∧ tget (tab_7_addNote X) 55 = some (false, a_aload 0 56) ∧ tget (tab_7_addNote X) 56 = some (false, a_cn X M_7_addNote M_7_beginChange 7 1 59) ∧ tget (tab_7_addNote X) 59 = some (false, a_aload 0 60) ∧ tget (tab_7_addNote X) 60 = some (false, a_gr 7 0 63) ∧ tget (tab_7_addNote X) 63 = some (false, a_iload 2 64) ∧ tget (tab_7_addNote X) 64 = some (false, a_cv X M_7_addNote M_1_notes 1 2 67) ∧ tget (tab_7_addNote X) 67 = some (false, a_iload 1 68) ∧ tget (tab_7_addNote X) 68 = some (false, a_iload 3 69) ∧ tget (tab_7_addNote X) 69 = some (false, a_iload 4 71) ∧ tget (tab_7_addNote X) 71 = some (false, a_cv X M_7_addNote M_4_place 4 4 74) ∧ tget (tab_7_addNote X) 74 = some (false, a_iret M_7_addNote) := ⟨rfl, rfl, rfl, rfl, rfl, rfl, rfl, rfl, rfl, rfl, rfl, rfl, rfl, rfl, rfl, rfl, rfl, rfl, rfl, rfl, rfl, rfl, rfl, rfl, rfl, rfl, rfl, rfl, rfl, rfl, rfl, rfl, rfl, rfl, rfl, rfl, rfl, rfl⟩
theorem tok_7_addNote (X : XT) : TabOK X M_7_addNote (tab_7_addNote X) := by
  unfold tab_7_addNote
  refine tok_cons (snd_aload_n dX7_addNote_0 rfl rfl) ?_
  refine tok_cons (snd_gr (C := RX7) (T := TX7) (N := 4) dX7_addNote_1 rfl (by decide) rfl wf7_10 inX7 rfl) ?_
  refine tok_cons (snd_iload_n dX7_addNote_4 rfl rfl) ?_
  refine tok_cons (snd_iload_n dX7_addNote_5 rfl rfl) ?_
  refine tok_cons (snd_iload_n dX7_addNote_6 rfl rfl) ?_
  refine tok_cons (snd_cv dX7_addNote_7 mok_1_hasLine ⟨wm7_77, wi_1_hasLine, wl_1_hasLine⟩ (rc := (RX1, TX1, 5)) rfl rfl pn_1_hasLine (by decide) ⟨rfl, rfl⟩ rfl) ?_
  refine tok_cons (snd_if_eq dX7_addNote_10 (by decide) rfl) ?_
  refine tok_cons (snd_iload dX7_addNote_13 rfl) ?_
  refine tok_cons (snd_iconst dX7_addNote_15 rfl (inr_d rfl) rfl) ?_
  refine tok_cons (snd_bipush dX7_addNote_16 (by decide) (inr_d rfl) rfl) ?_
  refine tok_cons (snd_sv dX7_addNote_18 mok_7_isIn ⟨ws_7_isIn, Or.inl ⟨wm7_41, rfl⟩⟩ pn_7_isIn (by decide) ⟨rfl, rfl⟩ rfl) ?_
  refine tok_cons (snd_if_ne dX7_addNote_21 (by decide) rfl) ?_
  refine tok_cons (snd_iconst dX7_addNote_24 rfl (inr_d rfl) rfl) ?_
  refine tok_cons (snd_iret dX7_addNote_25 rfl) ?_
  refine tok_cons (snd_aload_n dX7_addNote_26 rfl rfl) ?_
  refine tok_cons (snd_gr (C := RX7) (T := TX7) (N := 4) dX7_addNote_27 rfl (by decide) rfl wf7_10 inX7 rfl) ?_
  refine tok_cons (snd_gr (C := RX1) (T := TX1) (N := 5) dX7_addNote_30 rfl (by decide) rfl wf7_80 inX1 rfl) ?_
  refine tok_cons (snd_gi (C := RX4) (T := TX4) (N := 2) dX7_addNote_33 rfl (by decide) rfl wf7_84 inX4 rfl rfl) ?_
  refine tok_cons (snd_aload_n dX7_addNote_36 rfl rfl) ?_
  refine tok_cons (snd_gr (C := RX7) (T := TX7) (N := 4) dX7_addNote_37 rfl (by decide) rfl wf7_10 inX7 rfl) ?_
  refine tok_cons (snd_gr (C := RX1) (T := TX1) (N := 5) dX7_addNote_40 rfl (by decide) rfl wf7_85 inX1 rfl) ?_
  refine tok_cons (snd_gi (C := RX4) (T := TX4) (N := 2) dX7_addNote_43 rfl (by decide) rfl wf7_84 inX4 rfl rfl) ?_
  refine tok_cons (snd_add dX7_addNote_46 rfl) ?_
  refine tok_cons (snd_bipush dX7_addNote_47 (by decide) (inr_d rfl) rfl) ?_
  refine tok_cons (snd_icmp_lt dX7_addNote_49 (by decide) rfl) ?_
  refine tok_cons (snd_bipush dX7_addNote_52 (by decide) (inr_d rfl) rfl) ?_
  refine tok_cons (snd_iret dX7_addNote_54 rfl) ?_
  refine tok_cons (snd_aload_n dX7_addNote_55 rfl rfl) ?_
  refine tok_cons (snd_cn dX7_addNote_56 mok_7_beginChange ⟨wm7_45, wi_7_beginChange, wl_7_beginChange⟩ (rc := (RX7, TX7, 4)) rfl rfl pn_7_beginChange (by decide) ⟨rfl, rfl⟩ rfl) ?_
  refine tok_cons (snd_aload_n dX7_addNote_59 rfl rfl) ?_
  refine tok_cons (snd_gr (C := RX7) (T := TX7) (N := 4) dX7_addNote_60 rfl (by decide) rfl wf7_10 inX7 rfl) ?_
  refine tok_cons (snd_iload_n dX7_addNote_63 rfl rfl) ?_
  refine tok_cons (snd_cv dX7_addNote_64 mok_1_notes ⟨wm7_63, wi_1_notes, wl_1_notes⟩ (rc := (RX1, TX1, 5)) rfl rfl pn_1_notes (by decide) ⟨rfl, rfl⟩ rfl) ?_
  refine tok_cons (snd_iload_n dX7_addNote_67 rfl rfl) ?_
  refine tok_cons (snd_iload_n dX7_addNote_68 rfl rfl) ?_
  refine tok_cons (snd_iload dX7_addNote_69 rfl) ?_
  refine tok_cons (snd_cv dX7_addNote_71 mok_4_place ⟨wm7_88, wi_4_place, wl_4_place⟩ (rc := (RX4, TX4, 2)) rfl rfl pn_4_place (by decide) ⟨rfl, rfl⟩ rfl) ?_
  refine tok_cons (snd_iret dX7_addNote_74 rfl) ?_
  exact tok_nil
def tab_7_removeNote (X : XT) : Tab := [(0, false, a_iload 1 1), (1, false, a_sv X M_7_removeNote M_7_isSide 1 4), (4, false, a_if 0 11 7), (7, false, a_iload 2 8), (8, false, a_if 3 13 11), (11, false, a_const (-1) 12), (12, false, a_iret M_7_removeNote), (13, false, a_aload 0 14), (14, false, a_gr 7 0 17), (17, false, a_iload 1 18), (18, false, a_cv X M_7_removeNote M_1_notes 1 2 21), (21, false, a_astore 3 22), (22, false, a_iload 2 23), (23, false, a_aload 3 24), (24, false, a_gi 4 0 0 27), (27, false, a_icmp 2 33 30), (30, false, a_const (-4) 32), (32, false, a_iret M_7_removeNote), (33, false, a_aload 0 34), (34, false, a_cn X M_7_removeNote M_7_beginChange 7 1 37), (37, false, a_aload 3 38), (38, false, a_iload 2 39), (39, false, a_cn X M_7_removeNote M_4_drop 4 2 42), (42, false, a_aload 3 43), (43, false, a_gi 4 0 0 46), (46, false, a_iret M_7_removeNote)]
set_option maxRecDepth 20000 in
theorem t_7_removeNote (X : XT) : tget (tab_7_removeNote X) 0 = some (false, a_iload 1 1) ∧ tget (tab_7_removeNote X) 1 = some (false, a_sv X M_7_removeNote M_7_isSide 1 4) ∧ tget (tab_7_removeNote X) 4 = some (false, a_if 0 11 7) ∧ tget (tab_7_removeNote X) 7 = some (false, a_iload 2 8) ∧ tget (tab_7_removeNote X) 8 = some (false, a_if 3 13 11) ∧ tget (tab_7_removeNote X) 11 = some (false, a_const (-1) 12) ∧ tget (tab_7_removeNote X) 12 = some (false, a_iret M_7_removeNote) ∧ tget (tab_7_removeNote X) 13 = some (false, a_aload 0 14) ∧ tget (tab_7_removeNote X) 14 = some (false, a_gr 7 0 17) ∧ tget (tab_7_removeNote X) 17 = some (false, a_iload 1 18) ∧ tget (tab_7_removeNote X) 18 = some (false, a_cv X M_7_removeNote M_1_notes 1 2 21) ∧ tget (tab_7_removeNote X) 21 = some (false, a_astore 3 22) ∧ tget (tab_7_removeNote X) 22 = some (false, a_iload 2 23) ∧ tget (tab_7_removeNote X) 23 = some (false, a_aload 3 24) ∧ tget (tab_7_removeNote X) 24 = some (false, a_gi 4 0 0 27) ∧ tget (tab_7_removeNote X) 27 = some (false, a_icmp 2 33 30) ∧ tget (tab_7_removeNote X) 30 = some (false, a_const (-4) 32) ∧ tget (tab_7_removeNote X) 32 = some (false, a_iret M_7_removeNote) ∧ tget (tab_7_removeNote X) 33 = some (false, a_aload 0 34) ∧ tget (tab_7_removeNote X) 34 = some (false, a_cn X M_7_removeNote M_7_beginChange 7 1 37) ∧ tget (tab_7_removeNote X) 37 = some (false, a_aload 3 38) ∧ tget (tab_7_removeNote X) 38 = some (false, a_iload 2 39) ∧ tget (tab_7_removeNote X) 39 = some (false, a_cn X M_7_removeNote M_4_drop 4 2 42) ∧ tget (tab_7_removeNote X) 42 = some (false, a_aload 3 43) ∧ tget (tab_7_removeNote X) 43 = some (false, a_gi 4 0 0 46) ∧ tget (tab_7_removeNote X) 46 = some (false, a_iret M_7_removeNote) := ⟨rfl, rfl, rfl, rfl, rfl, rfl, rfl, rfl, rfl, rfl, rfl, rfl, rfl, rfl, rfl, rfl, rfl, rfl, rfl, rfl, rfl, rfl, rfl, rfl, rfl, rfl⟩
theorem tok_7_removeNote (X : XT) : TabOK X M_7_removeNote (tab_7_removeNote X) := by
  unfold tab_7_removeNote
  refine tok_cons (snd_iload_n dX7_removeNote_0 rfl rfl) ?_
  refine tok_cons (snd_sv dX7_removeNote_1 mok_7_isSide ⟨ws_7_isSide, Or.inl ⟨wm7_60, rfl⟩⟩ pn_7_isSide (by decide) ⟨rfl, rfl⟩ rfl) ?_
  refine tok_cons (snd_if_eq dX7_removeNote_4 (by decide) rfl) ?_
  refine tok_cons (snd_iload_n dX7_removeNote_7 rfl rfl) ?_
  refine tok_cons (snd_if_ge dX7_removeNote_8 (by decide) rfl) ?_
  refine tok_cons (snd_iconst dX7_removeNote_11 rfl (inr_d rfl) rfl) ?_
  refine tok_cons (snd_iret dX7_removeNote_12 rfl) ?_
  refine tok_cons (snd_aload_n dX7_removeNote_13 rfl rfl) ?_
  refine tok_cons (snd_gr (C := RX7) (T := TX7) (N := 4) dX7_removeNote_14 rfl (by decide) rfl wf7_10 inX7 rfl) ?_
  refine tok_cons (snd_iload_n dX7_removeNote_17 rfl rfl) ?_
  refine tok_cons (snd_cv dX7_removeNote_18 mok_1_notes ⟨wm7_63, wi_1_notes, wl_1_notes⟩ (rc := (RX1, TX1, 5)) rfl rfl pn_1_notes (by decide) ⟨rfl, rfl⟩ rfl) ?_
  refine tok_cons (snd_astore_n dX7_removeNote_21 rfl rfl (by decide)) ?_
  refine tok_cons (snd_iload_n dX7_removeNote_22 rfl rfl) ?_
  refine tok_cons (snd_aload_n dX7_removeNote_23 rfl rfl) ?_
  refine tok_cons (snd_gi (C := RX4) (T := TX4) (N := 2) dX7_removeNote_24 rfl (by decide) rfl wf7_84 inX4 rfl rfl) ?_
  refine tok_cons (snd_icmp_lt dX7_removeNote_27 (by decide) rfl) ?_
  refine tok_cons (snd_bipush dX7_removeNote_30 (by decide) (inr_d rfl) rfl) ?_
  refine tok_cons (snd_iret dX7_removeNote_32 rfl) ?_
  refine tok_cons (snd_aload_n dX7_removeNote_33 rfl rfl) ?_
  refine tok_cons (snd_cn dX7_removeNote_34 mok_7_beginChange ⟨wm7_45, wi_7_beginChange, wl_7_beginChange⟩ (rc := (RX7, TX7, 4)) rfl rfl pn_7_beginChange (by decide) ⟨rfl, rfl⟩ rfl) ?_
  refine tok_cons (snd_aload_n dX7_removeNote_37 rfl rfl) ?_
  refine tok_cons (snd_iload_n dX7_removeNote_38 rfl rfl) ?_
  refine tok_cons (snd_cn dX7_removeNote_39 mok_4_drop ⟨wm7_91, wi_4_drop, wl_4_drop⟩ (rc := (RX4, TX4, 2)) rfl rfl pn_4_drop (by decide) ⟨rfl, rfl⟩ rfl) ?_
  refine tok_cons (snd_aload_n dX7_removeNote_42 rfl rfl) ?_
  refine tok_cons (snd_gi (C := RX4) (T := TX4) (N := 2) dX7_removeNote_43 rfl (by decide) rfl wf7_84 inX4 rfl rfl) ?_
  refine tok_cons (snd_iret dX7_removeNote_46 rfl) ?_
  exact tok_nil
def tab_7_set (X : XT) : Tab := [(0, false, a_iload 1 1), (1, false, a_const 0 2), (2, false, a_const 5 3), (3, false, a_sv X M_7_set M_7_isIn 3 6), (6, false, a_if 0 26 9), (9, false, a_iload 2 10), (10, false, a_gst 1 13), (13, false, a_iload 1 14), (14, false, a_sld 15), (15, false, a_gst 2 18), (18, false, a_iload 1 19), (19, false, a_sld 20), (20, false, a_sv X M_7_set M_7_isIn 3 23), (23, false, a_if 1 28 26), (26, false, a_const (-1) 27), (27, false, a_iret M_7_set), (28, false, a_aload 0 29), (29, false, a_cn X M_7_set M_7_beginChange 7 1 32), (32, false, a_aload 0 33), (33, false, a_gr 7 0 36), (36, false, a_gr 1 4 39), (39, false, a_iload 1 40), (40, false, a_ald false 41), (41, false, a_istore 3 42), (42, false, a_aload 0 43), (43, false, a_gr 7 0 46), (46, false, a_gr 1 4 49), (49, false, a_iload 1 50), (50, false, a_iload 2 51), (51, false, a_ast false 52), (52, false, a_iload 3 53), (53, false, a_iret M_7_set)]
set_option maxRecDepth 20000 in
theorem t_7_set (X : XT) : tget (tab_7_set X) 0 = some (false, a_iload 1 1) ∧ tget (tab_7_set X) 1 = some (false, a_const 0 2) ∧ tget (tab_7_set X) 2 = some (false, a_const 5 3) ∧ tget (tab_7_set X) 3 = some (false, a_sv X M_7_set M_7_isIn 3 6) ∧ tget (tab_7_set X) 6 = some (false, a_if 0 26 9) ∧ tget (tab_7_set X) 9 = some (false, a_iload 2 10) ∧ tget (tab_7_set X) 10 = some (false, a_gst 1 13) ∧ tget (tab_7_set X) 13 = some (false, a_iload 1 14) ∧ tget (tab_7_set X) 14 = some (false, a_sld 15) ∧ tget (tab_7_set X) 15 = some (false, a_gst 2 18) ∧ tget (tab_7_set X) 18 = some (false, a_iload 1 19) ∧ tget (tab_7_set X) 19 = some (false, a_sld 20) ∧ tget (tab_7_set X) 20 = some (false, a_sv X M_7_set M_7_isIn 3 23) ∧ tget (tab_7_set X) 23 = some (false, a_if 1 28 26) ∧ tget (tab_7_set X) 26 = some (false, a_const (-1) 27) ∧ tget (tab_7_set X) 27 = some (false, a_iret M_7_set) ∧ tget (tab_7_set X) 28 = some (false, a_aload 0 29) ∧ tget (tab_7_set X) 29 = some (false, a_cn X M_7_set M_7_beginChange 7 1 32) ∧ tget (tab_7_set X) 32 = some (false, a_aload 0 33) ∧ tget (tab_7_set X) 33 = some (false, a_gr 7 0 36) ∧ tget (tab_7_set X) 36 = some (false, a_gr 1 4 39) ∧ tget (tab_7_set X) 39 = some (false, a_iload 1 40) ∧ tget (tab_7_set X) 40 = some (false, a_ald false 41) ∧ tget (tab_7_set X) 41 = some (false, a_istore 3 42) ∧ tget (tab_7_set X) 42 = some (false, a_aload 0 43) ∧ tget (tab_7_set X) 43 = some (false, a_gr 7 0 46) ∧ tget (tab_7_set X) 46 = some (false, a_gr 1 4 49) ∧ tget (tab_7_set X) 49 = some (false, a_iload 1 50) ∧ tget (tab_7_set X) 50 = some (false, a_iload 2 51) ∧ tget (tab_7_set X) 51 = some (false, a_ast false 52) ∧ tget (tab_7_set X) 52 = some (false, a_iload 3 53) ∧ tget (tab_7_set X) 53 = some (false, a_iret M_7_set) := ⟨rfl, rfl, rfl, rfl, rfl, rfl, rfl, rfl, rfl, rfl, rfl, rfl, rfl, rfl, rfl, rfl, rfl, rfl, rfl, rfl, rfl, rfl, rfl, rfl, rfl, rfl, rfl, rfl, rfl, rfl, rfl, rfl⟩
theorem tok_7_set (X : XT) : TabOK X M_7_set (tab_7_set X) := by
  unfold tab_7_set
  refine tok_cons (snd_iload_n dX7_set_0 rfl rfl) ?_
  refine tok_cons (snd_iconst dX7_set_1 rfl (inr_d rfl) rfl) ?_
  refine tok_cons (snd_iconst dX7_set_2 rfl (inr_d rfl) rfl) ?_
  refine tok_cons (snd_sv dX7_set_3 mok_7_isIn ⟨ws_7_isIn, Or.inl ⟨wm7_41, rfl⟩⟩ pn_7_isIn (by decide) ⟨rfl, rfl⟩ rfl) ?_
  refine tok_cons (snd_if_eq dX7_set_6 (by decide) rfl) ?_
  refine tok_cons (snd_iload_n dX7_set_9 rfl rfl) ?_
  refine tok_cons (snd_gst dX7_set_10 (by decide) rfl wf7_94 rfl) ?_
  refine tok_cons (snd_iload_n dX7_set_13 rfl rfl) ?_
  refine tok_cons (snd_sld dX7_set_14 rfl) ?_
  refine tok_cons (snd_gst dX7_set_15 (by decide) rfl wf7_98 rfl) ?_
  refine tok_cons (snd_iload_n dX7_set_18 rfl rfl) ?_
  refine tok_cons (snd_sld dX7_set_19 rfl) ?_
  refine tok_cons (snd_sv dX7_set_20 mok_7_isIn ⟨ws_7_isIn, Or.inl ⟨wm7_41, rfl⟩⟩ pn_7_isIn (by decide) ⟨rfl, rfl⟩ rfl) ?_
  refine tok_cons (snd_if_ne dX7_set_23 (by decide) rfl) ?_
  refine tok_cons (snd_iconst dX7_set_26 rfl (inr_d rfl) rfl) ?_
  refine tok_cons (snd_iret dX7_set_27 rfl) ?_
  refine tok_cons (snd_aload_n dX7_set_28 rfl rfl) ?_
  refine tok_cons (snd_cn dX7_set_29 mok_7_beginChange ⟨wm7_45, wi_7_beginChange, wl_7_beginChange⟩ (rc := (RX7, TX7, 4)) rfl rfl pn_7_beginChange (by decide) ⟨rfl, rfl⟩ rfl) ?_
  refine tok_cons (snd_aload_n dX7_set_32 rfl rfl) ?_
  refine tok_cons (snd_gr (C := RX7) (T := TX7) (N := 4) dX7_set_33 rfl (by decide) rfl wf7_10 inX7 rfl) ?_
  refine tok_cons (snd_gr (C := RX1) (T := TX1) (N := 5) dX7_set_36 rfl (by decide) rfl wf7_101 inX1 rfl) ?_
  refine tok_cons (snd_iload_n dX7_set_39 rfl rfl) ?_
  refine tok_cons (snd_iald dX7_set_40 rfl) ?_
  refine tok_cons (snd_istore_n dX7_set_41 rfl rfl (by decide)) ?_
  refine tok_cons (snd_aload_n dX7_set_42 rfl rfl) ?_
  refine tok_cons (snd_gr (C := RX7) (T := TX7) (N := 4) dX7_set_43 rfl (by decide) rfl wf7_10 inX7 rfl) ?_
  refine tok_cons (snd_gr (C := RX1) (T := TX1) (N := 5) dX7_set_46 rfl (by decide) rfl wf7_101 inX1 rfl) ?_
  refine tok_cons (snd_iload_n dX7_set_49 rfl rfl) ?_
  refine tok_cons (snd_iload_n dX7_set_50 rfl rfl) ?_
  refine tok_cons (snd_iast dX7_set_51 rfl) ?_
  refine tok_cons (snd_iload_n dX7_set_52 rfl rfl) ?_
  refine tok_cons (snd_iret dX7_set_53 rfl) ?_
  exact tok_nil
def tab_7_bestCost (X : XT) : Tab := [(0, false, a_aload 0 1), (1, false, a_gr 7 3 4), (4, false, a_aload 0 5), (5, false, a_gr 7 0 8), (8, false, a_cn X M_7_bestCost M_0_search 0 2 11), (11, false, a_aload 0 12), (12, false, a_gr 7 3 15), (15, false, a_cv X M_7_bestCost M_0_isAllowed 0 1 18), (18, false, a_if 0 33 21), (21, false, a_aload 0 22), (22, false, a_gr 7 3 25), (25, false, a_gr 0 3 28), (28, false, a_const 0 29), (29, false, a_ald false 30), (30, false, a_goto 35), (33, false, a_const (-4) 35), (35, false, a_iret M_7_bestCost)]
set_option maxRecDepth 20000 in
theorem t_7_bestCost (X : XT) : tget (tab_7_bestCost X) 0 = some (false, a_aload 0 1) ∧ tget (tab_7_bestCost X) 1 = some (false, a_gr 7 3 4) ∧ tget (tab_7_bestCost X) 4 = some (false, a_aload 0 5) ∧ tget (tab_7_bestCost X) 5 = some (false, a_gr 7 0 8) ∧ tget (tab_7_bestCost X) 8 = some (false, a_cn X M_7_bestCost M_0_search 0 2 11) ∧ tget (tab_7_bestCost X) 11 = some (false, a_aload 0 12) ∧ tget (tab_7_bestCost X) 12 = some (false, a_gr 7 3 15) ∧ tget (tab_7_bestCost X) 15 = some (false, a_cv X M_7_bestCost M_0_isAllowed 0 1 18) ∧ tget (tab_7_bestCost X) 18 = some (false, a_if 0 33 21) ∧ tget (tab_7_bestCost X) 21 = some (false, a_aload 0 22) ∧ tget (tab_7_bestCost X) 22 = some (false, a_gr 7 3 25) ∧ tget (tab_7_bestCost X) 25 = some (false, a_gr 0 3 28) ∧ tget (tab_7_bestCost X) 28 = some (false, a_const 0 29) ∧ tget (tab_7_bestCost X) 29 = some (false, a_ald false 30) ∧ tget (tab_7_bestCost X) 30 = some (false, a_goto 35) ∧ tget (tab_7_bestCost X) 33 = some (false, a_const (-4) 35) ∧ tget (tab_7_bestCost X) 35 = some (false, a_iret M_7_bestCost) := ⟨rfl, rfl, rfl, rfl, rfl, rfl, rfl, rfl, rfl, rfl, rfl, rfl, rfl, rfl, rfl, rfl, rfl⟩
theorem tok_7_bestCost (X : XT) : TabOK X M_7_bestCost (tab_7_bestCost X) := by
  unfold tab_7_bestCost
  refine tok_cons (snd_aload_n dX7_bestCost_0 rfl rfl) ?_
  refine tok_cons (snd_gr (C := RX7) (T := TX7) (N := 4) dX7_bestCost_1 rfl (by decide) rfl wf7_33 inX7 rfl) ?_
  refine tok_cons (snd_aload_n dX7_bestCost_4 rfl rfl) ?_
  refine tok_cons (snd_gr (C := RX7) (T := TX7) (N := 4) dX7_bestCost_5 rfl (by decide) rfl wf7_10 inX7 rfl) ?_
  refine tok_cons (snd_cn dX7_bestCost_8 mok_0_search ⟨wm7_163, wi_0_search, wl_0_search⟩ (rc := (RX0, TX0, 7)) rfl rfl pn_0_search (by decide) ⟨rfl, rfl⟩ rfl) ?_
  refine tok_cons (snd_aload_n dX7_bestCost_11 rfl rfl) ?_
  refine tok_cons (snd_gr (C := RX7) (T := TX7) (N := 4) dX7_bestCost_12 rfl (by decide) rfl wf7_33 inX7 rfl) ?_
  refine tok_cons (snd_cv dX7_bestCost_15 mok_0_isAllowed ⟨wm7_166, wi_0_isAllowed, wl_0_isAllowed⟩ (rc := (RX0, TX0, 7)) rfl rfl pn_0_isAllowed (by decide) ⟨rfl, rfl⟩ rfl) ?_
  refine tok_cons (snd_if_eq dX7_bestCost_18 (by decide) rfl) ?_
  refine tok_cons (snd_aload_n dX7_bestCost_21 rfl rfl) ?_
  refine tok_cons (snd_gr (C := RX7) (T := TX7) (N := 4) dX7_bestCost_22 rfl (by decide) rfl wf7_33 inX7 rfl) ?_
  refine tok_cons (snd_gr (C := RX0) (T := TX0) (N := 7) dX7_bestCost_25 rfl (by decide) rfl wf7_170 inX0 rfl) ?_
  refine tok_cons (snd_iconst dX7_bestCost_28 rfl (inr_d rfl) rfl) ?_
  refine tok_cons (snd_iald dX7_bestCost_29 rfl) ?_
  refine tok_cons (snd_goto dX7_bestCost_30 (by decide)) ?_
  refine tok_cons (snd_bipush dX7_bestCost_33 (by decide) (inr_d rfl) rfl) ?_
  refine tok_cons (snd_iret dX7_bestCost_35 rfl) ?_
  exact tok_nil
def tab_7_bestBreak (X : XT) : Tab := [(0, false, a_iload 1 1), (1, false, a_if 3 6 4), (4, false, a_const (-1) 5), (5, false, a_iret M_7_bestBreak), (6, false, a_aload 0 7), (7, false, a_gr 7 3 10), (10, false, a_aload 0 11), (11, false, a_gr 7 0 14), (14, false, a_cn X M_7_bestBreak M_0_search 0 2 17), (17, false, a_iload 1 18), (18, false, a_aload 0 19), (19, false, a_gr 7 3 22), (22, false, a_gi 0 1 1 25), (25, false, a_icmp 3 40 28), (28, false, a_aload 0 29), (29, false, a_gr 7 3 32), (32, false, a_gr 0 2 35), (35, false, a_iload 1 36), (36, false, a_ald false 37), (37, false, a_goto 42), (40, false, a_const (-4) 42), (42, false, a_iret M_7_bestBreak)]
set_option maxRecDepth 20000 in
theorem t_7_bestBreak (X : XT) : tget (tab_7_bestBreak X) 0 = some (false, a_iload 1 1) ∧ tget (tab_7_bestBreak X) 1 = some (false, a_if 3 6 4) ∧ tget (tab_7_bestBreak X) 4 = some (false, a_const (-1) 5) ∧ tget (tab_7_bestBreak X) 5 = some (false, a_iret M_7_bestBreak) ∧ tget (tab_7_bestBreak X) 6 = some (false, a_aload 0 7) ∧ tget (tab_7_bestBreak X) 7 = some (false, a_gr 7 3 10) ∧ tget (tab_7_bestBreak X) 10 = some (false, a_aload 0 11) ∧ tget (tab_7_bestBreak X) 11 = some (false, a_gr 7 0 14) ∧ tget (tab_7_bestBreak X) 14 = some (false, a_cn X M_7_bestBreak M_0_search 0 2 17) ∧ tget (tab_7_bestBreak X) 17 = some (false, a_iload 1 18) ∧ tget (tab_7_bestBreak X) 18 = some (false, a_aload 0 19) ∧ tget (tab_7_bestBreak X) 19 = some (false, a_gr 7 3 22) ∧ tget (tab_7_bestBreak X) 22 = some (false, a_gi 0 1 1 25) ∧ tget (tab_7_bestBreak X) 25 = some (false, a_icmp 3 40 28) ∧ tget (tab_7_bestBreak X) 28 = some (false, a_aload 0 29) ∧ tget (tab_7_bestBreak X) 29 = some (false, a_gr 7 3 32) ∧ tget (tab_7_bestBreak X) 32 = some (false, a_gr 0 2 35) ∧ tget (tab_7_bestBreak X) 35 = some (false, a_iload 1 36) ∧ tget (tab_7_bestBreak X) 36 = some (false, a_ald false 37) ∧ tget (tab_7_bestBreak X) 37 = some (false, a_goto 42) ∧ tget (tab_7_bestBreak X) 40 = some (false, a_const (-4) 42) ∧ tget (tab_7_bestBreak X) 42 = some (false, a_iret M_7_bestBreak) := ⟨rfl, rfl, rfl, rfl, rfl, rfl, rfl, rfl, rfl, rfl, rfl, rfl, rfl, rfl, rfl, rfl, rfl, rfl, rfl, rfl, rfl, rfl⟩
theorem tok_7_bestBreak (X : XT) : TabOK X M_7_bestBreak (tab_7_bestBreak X) := by
  unfold tab_7_bestBreak
  refine tok_cons (snd_iload_n dX7_bestBreak_0 rfl rfl) ?_
  refine tok_cons (snd_if_ge dX7_bestBreak_1 (by decide) rfl) ?_
  refine tok_cons (snd_iconst dX7_bestBreak_4 rfl (inr_d rfl) rfl) ?_
  refine tok_cons (snd_iret dX7_bestBreak_5 rfl) ?_
  refine tok_cons (snd_aload_n dX7_bestBreak_6 rfl rfl) ?_
  refine tok_cons (snd_gr (C := RX7) (T := TX7) (N := 4) dX7_bestBreak_7 rfl (by decide) rfl wf7_33 inX7 rfl) ?_
  refine tok_cons (snd_aload_n dX7_bestBreak_10 rfl rfl) ?_
  refine tok_cons (snd_gr (C := RX7) (T := TX7) (N := 4) dX7_bestBreak_11 rfl (by decide) rfl wf7_10 inX7 rfl) ?_
  refine tok_cons (snd_cn dX7_bestBreak_14 mok_0_search ⟨wm7_163, wi_0_search, wl_0_search⟩ (rc := (RX0, TX0, 7)) rfl rfl pn_0_search (by decide) ⟨rfl, rfl⟩ rfl) ?_
  refine tok_cons (snd_iload_n dX7_bestBreak_17 rfl rfl) ?_
  refine tok_cons (snd_aload_n dX7_bestBreak_18 rfl rfl) ?_
  refine tok_cons (snd_gr (C := RX7) (T := TX7) (N := 4) dX7_bestBreak_19 rfl (by decide) rfl wf7_33 inX7 rfl) ?_
  refine tok_cons (snd_gi (C := RX0) (T := TX0) (N := 7) dX7_bestBreak_22 rfl (by decide) rfl wf7_173 inX0 rfl rfl) ?_
  refine tok_cons (snd_icmp_ge dX7_bestBreak_25 (by decide) rfl) ?_
  refine tok_cons (snd_aload_n dX7_bestBreak_28 rfl rfl) ?_
  refine tok_cons (snd_gr (C := RX7) (T := TX7) (N := 4) dX7_bestBreak_29 rfl (by decide) rfl wf7_33 inX7 rfl) ?_
  refine tok_cons (snd_gr (C := RX0) (T := TX0) (N := 7) dX7_bestBreak_32 rfl (by decide) rfl wf7_176 inX0 rfl) ?_
  refine tok_cons (snd_iload_n dX7_bestBreak_35 rfl rfl) ?_
  refine tok_cons (snd_iald dX7_bestBreak_36 rfl) ?_
  refine tok_cons (snd_goto dX7_bestBreak_37 (by decide)) ?_
  refine tok_cons (snd_bipush dX7_bestBreak_40 (by decide) (inr_d rfl) rfl) ?_
  refine tok_cons (snd_iret dX7_bestBreak_42 rfl) ?_
  exact tok_nil
def tab_7_changePair (X : XT) : Tab := [(0, false, a_aload 0 1), (1, false, a_cn X M_7_changePair M_7_beginChange 7 1 4), (4, false, a_aload 0 5), (5, false, a_gr 7 0 8), (8, false, a_gr 1 1 11), (11, false, a_iload 2 12), (12, false, a_aald 13), (13, false, a_iload 1 14), (14, false, a_ald false 15), (15, false, a_istore 4 17), (17, false, a_aload 0 18), (18, false, a_gr 7 0 21), (21, false, a_gr 1 1 24), (24, false, a_iload 2 25), (25, false, a_aald 26), (26, false, a_iload 1 27), (27, false, a_iload 3 28), (28, false, a_ast false 29), (29, false, a_iload 4 31), (31, false, a_iret M_7_changePair)]
set_option maxRecDepth 20000 in
theorem t_7_changePair (X : XT) : tget (tab_7_changePair X) 0 = some (false, a_aload 0 1) ∧ tget (tab_7_changePair X) 1 = some (false, a_cn X M_7_changePair M_7_beginChange 7 1 4) ∧ tget (tab_7_changePair X) 4 = some (false, a_aload 0 5) ∧ tget (tab_7_changePair X) 5 = some (false, a_gr 7 0 8) ∧ tget (tab_7_changePair X) 8 = some (false, a_gr 1 1 11) ∧ tget (tab_7_changePair X) 11 = some (false, a_iload 2 12) ∧ tget (tab_7_changePair X) 12 = some (false, a_aald 13) ∧ tget (tab_7_changePair X) 13 = some (false, a_iload 1 14) ∧ tget (tab_7_changePair X) 14 = some (false, a_ald false 15) ∧ tget (tab_7_changePair X) 15 = some (false, a_istore 4 17) ∧ tget (tab_7_changePair X) 17 = some (false, a_aload 0 18) ∧ tget (tab_7_changePair X) 18 = some (false, a_gr 7 0 21) ∧ tget (tab_7_changePair X) 21 = some (false, a_gr 1 1 24) ∧ tget (tab_7_changePair X) 24 = some (false, a_iload 2 25) ∧ tget (tab_7_changePair X) 25 = some (false, a_aald 26) ∧ tget (tab_7_changePair X) 26 = some (false, a_iload 1 27) ∧ tget (tab_7_changePair X) 27 = some (false, a_iload 3 28) ∧ tget (tab_7_changePair X) 28 = some (false, a_ast false 29) ∧ tget (tab_7_changePair X) 29 = some (false, a_iload 4 31) ∧ tget (tab_7_changePair X) 31 = some (false, a_iret M_7_changePair) := ⟨rfl, rfl, rfl, rfl, rfl, rfl, rfl, rfl, rfl, rfl, rfl, rfl, rfl, rfl, rfl, rfl, rfl, rfl, rfl, rfl⟩
theorem tok_7_changePair (X : XT) : TabOK X M_7_changePair (tab_7_changePair X) := by
  unfold tab_7_changePair
  refine tok_cons (snd_aload_n dX7_changePair_0 rfl rfl) ?_
  refine tok_cons (snd_cn dX7_changePair_1 mok_7_beginChange ⟨wm7_45, wi_7_beginChange, wl_7_beginChange⟩ (rc := (RX7, TX7, 4)) rfl rfl pn_7_beginChange (by decide) ⟨rfl, rfl⟩ rfl) ?_
  refine tok_cons (snd_aload_n dX7_changePair_4 rfl rfl) ?_
  refine tok_cons (snd_gr (C := RX7) (T := TX7) (N := 4) dX7_changePair_5 rfl (by decide) rfl wf7_10 inX7 rfl) ?_
  refine tok_cons (snd_gr (C := RX1) (T := TX1) (N := 5) dX7_changePair_8 rfl (by decide) rfl wf7_112 inX1 rfl) ?_
  refine tok_cons (snd_iload_n dX7_changePair_11 rfl rfl) ?_
  refine tok_cons (snd_aald dX7_changePair_12 rfl) ?_
  refine tok_cons (snd_iload_n dX7_changePair_13 rfl rfl) ?_
  refine tok_cons (snd_iald dX7_changePair_14 rfl) ?_
  refine tok_cons (snd_istore dX7_changePair_15 rfl (by decide)) ?_
  refine tok_cons (snd_aload_n dX7_changePair_17 rfl rfl) ?_
  refine tok_cons (snd_gr (C := RX7) (T := TX7) (N := 4) dX7_changePair_18 rfl (by decide) rfl wf7_10 inX7 rfl) ?_
  refine tok_cons (snd_gr (C := RX1) (T := TX1) (N := 5) dX7_changePair_21 rfl (by decide) rfl wf7_112 inX1 rfl) ?_
  refine tok_cons (snd_iload_n dX7_changePair_24 rfl rfl) ?_
  refine tok_cons (snd_aald dX7_changePair_25 rfl) ?_
  refine tok_cons (snd_iload_n dX7_changePair_26 rfl rfl) ?_
  refine tok_cons (snd_iload_n dX7_changePair_27 rfl rfl) ?_
  refine tok_cons (snd_iast dX7_changePair_28 rfl) ?_
  refine tok_cons (snd_iload dX7_changePair_29 rfl) ?_
  refine tok_cons (snd_iret dX7_changePair_31 rfl) ?_
  exact tok_nil
def tab_7_setFlag (X : XT) : Tab := [(0, false, a_aload 0 1), (1, false, a_gr 7 0 4), (4, false, a_iload 1 5), (5, false, a_cv X M_7_setFlag M_1_hasPair 1 2 8), (8, false, a_if 0 29 11), (11, false, a_iload 2 12), (12, false, a_const 0 13), (13, false, a_const 1 14), (14, false, a_sv X M_7_setFlag M_7_isIn 3 17), (17, false, a_if 0 29 20), (20, false, a_iload 3 21), (21, false, a_const 0 22), (22, false, a_const 1 23), (23, false, a_sv X M_7_setFlag M_7_isIn 3 26), (26, false, a_if 1 31 29), (29, false, a_const (-1) 30), (30, false, a_iret M_7_setFlag), (31, false, a_aload 0 32), (32, false, a_iload 1 33), (33, false, a_const 2 34), (34, false, a_iload 2 35), (35, false, a_add 36), (36, false, a_iload 3 37), (37, false, a_cv X M_7_setFlag M_7_changePair 7 4 40), (40, false, a_iret M_7_setFlag)]
set_option maxRecDepth 20000 in
theorem t_7_setFlag (X : XT) : tget (tab_7_setFlag X) 0 = some (false, a_aload 0 1) ∧ tget (tab_7_setFlag X) 1 = some (false, a_gr 7 0 4) ∧ tget (tab_7_setFlag X) 4 = some (false, a_iload 1 5) ∧ tget (tab_7_setFlag X) 5 = some (false, a_cv X M_7_setFlag M_1_hasPair 1 2 8) ∧ tget (tab_7_setFlag X) 8 = some (false, a_if 0 29 11) ∧ tget (tab_7_setFlag X) 11 = some (false, a_iload 2 12) ∧ tget (tab_7_setFlag X) 12 = some (false, a_const 0 13) ∧ tget (tab_7_setFlag X) 13 = some (false, a_const 1 14) ∧ tget (tab_7_setFlag X) 14 = some (false, a_sv X M_7_setFlag M_7_isIn 3 17) ∧ tget (tab_7_setFlag X) 17 = some (false, a_if 0 29 20) ∧ tget (tab_7_setFlag X) 20 = some (false, a_iload 3 21) ∧ tget (tab_7_setFlag X) 21 = some (false, a_const 0 22) ∧ tget (tab_7_setFlag X) 22 = some (false, a_const 1 23) ∧ tget (tab_7_setFlag X) 23 = some (false, a_sv X M_7_setFlag M_7_isIn 3 26) ∧ tget (tab_7_setFlag X) 26 = some (false, a_if 1 31 29) ∧ tget (tab_7_setFlag X) 29 = some (false, a_const (-1) 30) ∧ tget (tab_7_setFlag X) 30 = some (false, a_iret M_7_setFlag) ∧ tget (tab_7_setFlag X) 31 = some (false, a_aload 0 32) ∧ tget (tab_7_setFlag X) 32 = some (false, a_iload 1 33) ∧ tget (tab_7_setFlag X) 33 = some (false, a_const 2 34) ∧ tget (tab_7_setFlag X) 34 = some (false, a_iload 2 35) ∧ tget (tab_7_setFlag X) 35 = some (false, a_add 36) ∧ tget (tab_7_setFlag X) 36 = some (false, a_iload 3 37) ∧ tget (tab_7_setFlag X) 37 = some (false, a_cv X M_7_setFlag M_7_changePair 7 4 40) ∧ tget (tab_7_setFlag X) 40 = some (false, a_iret M_7_setFlag) := ⟨rfl, rfl, rfl, rfl, rfl, rfl, rfl, rfl, rfl, rfl, rfl, rfl, rfl, rfl, rfl, rfl, rfl, rfl, rfl, rfl, rfl, rfl, rfl, rfl, rfl⟩
theorem tok_7_setFlag (X : XT) : TabOK X M_7_setFlag (tab_7_setFlag X) := by
  unfold tab_7_setFlag
  refine tok_cons (snd_aload_n dX7_setFlag_0 rfl rfl) ?_
  refine tok_cons (snd_gr (C := RX7) (T := TX7) (N := 4) dX7_setFlag_1 rfl (by decide) rfl wf7_10 inX7 rfl) ?_
  refine tok_cons (snd_iload_n dX7_setFlag_4 rfl rfl) ?_
  refine tok_cons (snd_cv dX7_setFlag_5 mok_1_hasPair ⟨wm7_52, wi_1_hasPair, wl_1_hasPair⟩ (rc := (RX1, TX1, 5)) rfl rfl pn_1_hasPair (by decide) ⟨rfl, rfl⟩ rfl) ?_
  refine tok_cons (snd_if_eq dX7_setFlag_8 (by decide) rfl) ?_
  refine tok_cons (snd_iload_n dX7_setFlag_11 rfl rfl) ?_
  refine tok_cons (snd_iconst dX7_setFlag_12 rfl (inr_d rfl) rfl) ?_
  refine tok_cons (snd_iconst dX7_setFlag_13 rfl (inr_d rfl) rfl) ?_
  refine tok_cons (snd_sv dX7_setFlag_14 mok_7_isIn ⟨ws_7_isIn, Or.inl ⟨wm7_41, rfl⟩⟩ pn_7_isIn (by decide) ⟨rfl, rfl⟩ rfl) ?_
  refine tok_cons (snd_if_eq dX7_setFlag_17 (by decide) rfl) ?_
  refine tok_cons (snd_iload_n dX7_setFlag_20 rfl rfl) ?_
  refine tok_cons (snd_iconst dX7_setFlag_21 rfl (inr_d rfl) rfl) ?_
  refine tok_cons (snd_iconst dX7_setFlag_22 rfl (inr_d rfl) rfl) ?_
  refine tok_cons (snd_sv dX7_setFlag_23 mok_7_isIn ⟨ws_7_isIn, Or.inl ⟨wm7_41, rfl⟩⟩ pn_7_isIn (by decide) ⟨rfl, rfl⟩ rfl) ?_
  refine tok_cons (snd_if_ne dX7_setFlag_26 (by decide) rfl) ?_
  refine tok_cons (snd_iconst dX7_setFlag_29 rfl (inr_d rfl) rfl) ?_
  refine tok_cons (snd_iret dX7_setFlag_30 rfl) ?_
  refine tok_cons (snd_aload_n dX7_setFlag_31 rfl rfl) ?_
  refine tok_cons (snd_iload_n dX7_setFlag_32 rfl rfl) ?_
  refine tok_cons (snd_iconst dX7_setFlag_33 rfl (inr_d rfl) rfl) ?_
  refine tok_cons (snd_iload_n dX7_setFlag_34 rfl rfl) ?_
  refine tok_cons (snd_add dX7_setFlag_35 rfl) ?_
  refine tok_cons (snd_iload_n dX7_setFlag_36 rfl rfl) ?_
  refine tok_cons (snd_cv dX7_setFlag_37 mok_7_changePair ⟨wm7_73, wi_7_changePair, wl_7_changePair⟩ (rc := (RX7, TX7, 4)) rfl rfl pn_7_changePair (by decide) ⟨rfl, rfl⟩ rfl) ?_
  refine tok_cons (snd_iret dX7_setFlag_40 rfl) ?_
  exact tok_nil
def tab_7_spreadCount (X : XT) : Tab := [(0, false, a_aload 0 1), (1, false, a_gr 7 2 4), (4, false, a_aload 0 5), (5, false, a_gr 7 0 8), (8, false, a_aload 0 9), (9, false, a_gr 7 0 12), (12, false, a_gr 1 4 15), (15, false, a_const 0 16), (16, false, a_ald false 17), (17, false, a_cn X M_7_spreadCount M_6_arrange 6 3 20), (20, false, a_aload 0 21), (21, false, a_gr 7 2 24), (24, false, a_gi 6 1 1 27), (27, false, a_iret M_7_spreadCount)]
set_option maxRecDepth 20000 in
theorem t_7_spreadCount (X : XT) : tget (tab_7_spreadCount X) 0 = some (false, a_aload 0 1) ∧ tget (tab_7_spreadCount X) 1 = some (false, a_gr 7 2 4) ∧ tget (tab_7_spreadCount X) 4 = some (false, a_aload 0 5) ∧ tget (tab_7_spreadCount X) 5 = some (false, a_gr 7 0 8) ∧ tget (tab_7_spreadCount X) 8 = some (false, a_aload 0 9) ∧ tget (tab_7_spreadCount X) 9 = some (false, a_gr 7 0 12) ∧ tget (tab_7_spreadCount X) 12 = some (false, a_gr 1 4 15) ∧ tget (tab_7_spreadCount X) 15 = some (false, a_const 0 16) ∧ tget (tab_7_spreadCount X) 16 = some (false, a_ald false 17) ∧ tget (tab_7_spreadCount X) 17 = some (false, a_cn X M_7_spreadCount M_6_arrange 6 3 20) ∧ tget (tab_7_spreadCount X) 20 = some (false, a_aload 0 21) ∧ tget (tab_7_spreadCount X) 21 = some (false, a_gr 7 2 24) ∧ tget (tab_7_spreadCount X) 24 = some (false, a_gi 6 1 1 27) ∧ tget (tab_7_spreadCount X) 27 = some (false, a_iret M_7_spreadCount) := ⟨rfl, rfl, rfl, rfl, rfl, rfl, rfl, rfl, rfl, rfl, rfl, rfl, rfl, rfl⟩
theorem tok_7_spreadCount (X : XT) : TabOK X M_7_spreadCount (tab_7_spreadCount X) := by
  unfold tab_7_spreadCount
  refine tok_cons (snd_aload_n dX7_spreadCount_0 rfl rfl) ?_
  refine tok_cons (snd_gr (C := RX7) (T := TX7) (N := 4) dX7_spreadCount_1 rfl (by decide) rfl wf7_26 inX7 rfl) ?_
  refine tok_cons (snd_aload_n dX7_spreadCount_4 rfl rfl) ?_
  refine tok_cons (snd_gr (C := RX7) (T := TX7) (N := 4) dX7_spreadCount_5 rfl (by decide) rfl wf7_10 inX7 rfl) ?_
  refine tok_cons (snd_aload_n dX7_spreadCount_8 rfl rfl) ?_
  refine tok_cons (snd_gr (C := RX7) (T := TX7) (N := 4) dX7_spreadCount_9 rfl (by decide) rfl wf7_10 inX7 rfl) ?_
  refine tok_cons (snd_gr (C := RX1) (T := TX1) (N := 5) dX7_spreadCount_12 rfl (by decide) rfl wf7_101 inX1 rfl) ?_
  refine tok_cons (snd_iconst dX7_spreadCount_15 rfl (inr_d rfl) rfl) ?_
  refine tok_cons (snd_iald dX7_spreadCount_16 rfl) ?_
  refine tok_cons (snd_cn dX7_spreadCount_17 mok_6_arrange ⟨wm7_119, wi_6_arrange, wl_6_arrange⟩ (rc := (RX6, TX6, 11)) rfl rfl pn_6_arrange (by decide) ⟨rfl, rfl⟩ rfl) ?_
  refine tok_cons (snd_aload_n dX7_spreadCount_20 rfl rfl) ?_
  refine tok_cons (snd_gr (C := RX7) (T := TX7) (N := 4) dX7_spreadCount_21 rfl (by decide) rfl wf7_26 inX7 rfl) ?_
  refine tok_cons (snd_gi (C := RX6) (T := TX6) (N := 11) dX7_spreadCount_24 rfl (by decide) rfl wf7_123 inX6 rfl rfl) ?_
  refine tok_cons (snd_iret dX7_spreadCount_27 rfl) ?_
  exact tok_nil
def tab_7_segmentCount (X : XT) : Tab := [(0, false, a_aload 0 1), (1, false, a_gr 7 2 4), (4, false, a_aload 0 5), (5, false, a_gr 7 0 8), (8, false, a_aload 0 9), (9, false, a_gr 7 0 12), (12, false, a_gr 1 4 15), (15, false, a_const 0 16), (16, false, a_ald false 17), (17, false, a_cn X M_7_segmentCount M_6_arrange 6 3 20), (20, false, a_aload 0 21), (21, false, a_gr 7 2 24), (24, false, a_iload 1 25), (25, false, a_cv X M_7_segmentCount M_6_has 6 2 28), (28, false, a_if 0 42 31), (31, false, a_aload 0 32), (32, false, a_gr 7 2 35), (35, false, a_iload 1 36), (36, false, a_cv X M_7_segmentCount M_6_segmentsOf 6 2 39), (39, false, a_goto 43), (42, false, a_const (-1) 43), (43, false, a_iret M_7_segmentCount)]
set_option maxRecDepth 20000 in
theorem t_7_segmentCount (X : XT) : tget (tab_7_segmentCount X) 0 = some (false, a_aload 0 1) ∧ tget (tab_7_segmentCount X) 1 = some (false, a_gr 7 2 4) ∧ tget (tab_7_segmentCount X) 4 = some (false, a_aload 0 5) ∧ tget (tab_7_segmentCount X) 5 = some (false, a_gr 7 0 8) ∧ tget (tab_7_segmentCount X) 8 = some (false, a_aload 0 9) ∧ tget (tab_7_segmentCount X) 9 = some (false, a_gr 7 0 12) ∧ tget (tab_7_segmentCount X) 12 = some (false, a_gr 1 4 15) ∧ tget (tab_7_segmentCount X) 15 = some (false, a_const 0 16) ∧ tget (tab_7_segmentCount X) 16 = some (false, a_ald false 17) ∧ tget (tab_7_segmentCount X) 17 = some (false, a_cn X M_7_segmentCount M_6_arrange 6 3 20) ∧ tget (tab_7_segmentCount X) 20 = some (false, a_aload 0 21) ∧ tget (tab_7_segmentCount X) 21 = some (false, a_gr 7 2 24) ∧ tget (tab_7_segmentCount X) 24 = some (false, a_iload 1 25) ∧ tget (tab_7_segmentCount X) 25 = some (false, a_cv X M_7_segmentCount M_6_has 6 2 28) ∧ tget (tab_7_segmentCount X) 28 = some (false, a_if 0 42 31) ∧ tget (tab_7_segmentCount X) 31 = some (false, a_aload 0 32) ∧ tget (tab_7_segmentCount X) 32 = some (false, a_gr 7 2 35) ∧ tget (tab_7_segmentCount X) 35 = some (false, a_iload 1 36) ∧ tget (tab_7_segmentCount X) 36 = some (false, a_cv X M_7_segmentCount M_6_segmentsOf 6 2 39) ∧ tget (tab_7_segmentCount X) 39 = some (false, a_goto 43) ∧ tget (tab_7_segmentCount X) 42 = some (false, a_const (-1) 43) ∧ tget (tab_7_segmentCount X) 43 = some (false, a_iret M_7_segmentCount) := ⟨rfl, rfl, rfl, rfl, rfl, rfl, rfl, rfl, rfl, rfl, rfl, rfl, rfl, rfl, rfl, rfl, rfl, rfl, rfl, rfl, rfl, rfl⟩
theorem tok_7_segmentCount (X : XT) : TabOK X M_7_segmentCount (tab_7_segmentCount X) := by
  unfold tab_7_segmentCount
  refine tok_cons (snd_aload_n dX7_segmentCount_0 rfl rfl) ?_
  refine tok_cons (snd_gr (C := RX7) (T := TX7) (N := 4) dX7_segmentCount_1 rfl (by decide) rfl wf7_26 inX7 rfl) ?_
  refine tok_cons (snd_aload_n dX7_segmentCount_4 rfl rfl) ?_
  refine tok_cons (snd_gr (C := RX7) (T := TX7) (N := 4) dX7_segmentCount_5 rfl (by decide) rfl wf7_10 inX7 rfl) ?_
  refine tok_cons (snd_aload_n dX7_segmentCount_8 rfl rfl) ?_
  refine tok_cons (snd_gr (C := RX7) (T := TX7) (N := 4) dX7_segmentCount_9 rfl (by decide) rfl wf7_10 inX7 rfl) ?_
  refine tok_cons (snd_gr (C := RX1) (T := TX1) (N := 5) dX7_segmentCount_12 rfl (by decide) rfl wf7_101 inX1 rfl) ?_
  refine tok_cons (snd_iconst dX7_segmentCount_15 rfl (inr_d rfl) rfl) ?_
  refine tok_cons (snd_iald dX7_segmentCount_16 rfl) ?_
  refine tok_cons (snd_cn dX7_segmentCount_17 mok_6_arrange ⟨wm7_119, wi_6_arrange, wl_6_arrange⟩ (rc := (RX6, TX6, 11)) rfl rfl pn_6_arrange (by decide) ⟨rfl, rfl⟩ rfl) ?_
  refine tok_cons (snd_aload_n dX7_segmentCount_20 rfl rfl) ?_
  refine tok_cons (snd_gr (C := RX7) (T := TX7) (N := 4) dX7_segmentCount_21 rfl (by decide) rfl wf7_26 inX7 rfl) ?_
  refine tok_cons (snd_iload_n dX7_segmentCount_24 rfl rfl) ?_
  refine tok_cons (snd_cv dX7_segmentCount_25 mok_6_has ⟨wm7_124, wi_6_has, wl_6_has⟩ (rc := (RX6, TX6, 11)) rfl rfl pn_6_has (by decide) ⟨rfl, rfl⟩ rfl) ?_
  refine tok_cons (snd_if_eq dX7_segmentCount_28 (by decide) rfl) ?_
  refine tok_cons (snd_aload_n dX7_segmentCount_31 rfl rfl) ?_
  refine tok_cons (snd_gr (C := RX7) (T := TX7) (N := 4) dX7_segmentCount_32 rfl (by decide) rfl wf7_26 inX7 rfl) ?_
  refine tok_cons (snd_iload_n dX7_segmentCount_35 rfl rfl) ?_
  refine tok_cons (snd_cv dX7_segmentCount_36 mok_6_segmentsOf ⟨wm7_127, wi_6_segmentsOf, wl_6_segmentsOf⟩ (rc := (RX6, TX6, 11)) rfl rfl pn_6_segmentsOf (by decide) ⟨rfl, rfl⟩ rfl) ?_
  refine tok_cons (snd_goto dX7_segmentCount_39 (by decide)) ?_
  refine tok_cons (snd_iconst dX7_segmentCount_42 rfl (inr_d rfl) rfl) ?_
  refine tok_cons (snd_iret dX7_segmentCount_43 rfl) ?_
  exact tok_nil
def tab_7_pageInfo (X : XT) : Tab := [(0, false, a_aload 0 1), (1, false, a_gr 7 2 4), (4, false, a_aload 0 5), (5, false, a_gr 7 0 8), (8, false, a_aload 0 9), (9, false, a_gr 7 0 12), (12, false, a_gr 1 4 15), (15, false, a_const 0 16), (16, false, a_ald false 17), (17, false, a_cn X M_7_pageInfo M_6_arrange 6 3 20), (20, false, a_aload 0 21), (21, false, a_gr 7 2 24), (24, false, a_iload 1 25), (25, false, a_cv X M_7_pageInfo M_6_has 6 2 28), (28, false, a_if 0 47 31), (31, false, a_iload 2 32), (32, false, a_sv X M_7_pageInfo M_7_isSide 1 35), (35, false, a_if 0 47 38), (38, false, a_iload 3 39), (39, false, a_const 0 40), (40, false, a_const 5 41), (41, false, a_sv X M_7_pageInfo M_7_isIn 3 44), (44, false, a_if 1 49 47), (47, false, a_const (-1) 48), (48, false, a_iret M_7_pageInfo), (49, false, a_aload 0 50), (50, false, a_gr 7 2 53), (53, false, a_gr 6 5 56), (56, false, a_iload 3 57), (57, false, a_aald 58), (58, false, a_const 2 59), (59, false, a_iload 1 60), (60, false, a_mul 61), (61, false, a_iload 2 62), (62, false, a_add 63), (63, false, a_ald false 64), (64, false, a_iret M_7_pageInfo)]
set_option maxRecDepth 20000 in
theorem t_7_pageInfo (X : XT) : tget (tab_7_pageInfo X) 0 = some (false, a_aload 0 1) ∧ tget (tab_7_pageInfo X) 1 = some (false, a_gr 7 2 4) ∧ tget (tab_7_pageInfo X) 4 = some (false, a_aload 0 5) ∧ tget (tab_7_pageInfo X) 5 = some (false, a_gr 7 0 8) ∧ tget (tab_7_pageInfo X) 8 = some (false, a_aload 0 9) ∧ tget (tab_7_pageInfo X) 9 = some (false, a_gr 7 0 12) ∧ tget (tab_7_pageInfo X) 12 = some (false, a_gr 1 4 15) ∧ tget (tab_7_pageInfo X) 15 = some (false, a_const 0 16) ∧ tget (tab_7_pageInfo X) 16 = some (false, a_ald false 17) ∧ tget (tab_7_pageInfo X) 17 = some (false, a_cn X M_7_pageInfo M_6_arrange 6 3 20) ∧ tget (tab_7_pageInfo X) 20 = some (false, a_aload 0 21) ∧ tget (tab_7_pageInfo X) 21 = some (false, a_gr 7 2 24) ∧ tget (tab_7_pageInfo X) 24 = some (false, a_iload 1 25) ∧ tget (tab_7_pageInfo X) 25 = some (false, a_cv X M_7_pageInfo M_6_has 6 2 28) ∧ tget (tab_7_pageInfo X) 28 = some (false, a_if 0 47 31) ∧ tget (tab_7_pageInfo X) 31 = some (false, a_iload 2 32) ∧ tget (tab_7_pageInfo X) 32 = some (false, a_sv X M_7_pageInfo M_7_isSide 1 35) ∧ tget (tab_7_pageInfo X) 35 = some (false, a_if 0 47 38) ∧ tget (tab_7_pageInfo X) 38 = some (false, a_iload 3 39) ∧ tget (tab_7_pageInfo X) 39 = some (false, a_const 0 40) ∧ tget (tab_7_pageInfo X) 40 = some (false, a_const 5 41) ∧ tget (tab_7_pageInfo X) 41 = some (false, a_sv X M_7_pageInfo M_7_isIn 3 44) ∧ tget (tab_7_pageInfo X) 44 = some (false, a_if 1 49 47) ∧ tget (tab_7_pageInfo X) 47 = some (false, a_const (-1) 48) ∧ tget (tab_7_pageInfo X) 48 = some (false, a_iret M_7_pageInfo) ∧ tget (tab_7_pageInfo X) 49 = some (false, a_aload 0 50) ∧ tget (tab_7_pageInfo X) 50 = some (false, a_gr 7 2 53) ∧ tget (tab_7_pageInfo X) 53 = some (false, a_gr 6 5 56) ∧ tget (tab_7_pageInfo X) 56 = some (false, a_iload 3 57) ∧ tget (tab_7_pageInfo X) 57 = some (false, a_aald 58) ∧ tget (tab_7_pageInfo X) 58 = some (false, a_const 2 59) ∧ tget (tab_7_pageInfo X) 59 = some (false, a_iload 1 60) ∧ tget (tab_7_pageInfo X) 60 = some (false, a_mul 61) ∧ tget (tab_7_pageInfo X) 61 = some (false, a_iload 2 62) ∧ tget (tab_7_pageInfo X) 62 = some (false, a_add 63) ∧ tget (tab_7_pageInfo X) 63 = some (false, a_ald false 64) ∧ tget (tab_7_pageInfo X) 64 = some (false, a_iret M_7_pageInfo) := ⟨rfl, rfl, rfl, rfl, rfl, rfl, rfl, rfl, rfl, rfl, rfl, rfl, rfl, rfl, rfl, rfl, rfl, rfl, rfl, rfl, rfl, rfl, rfl, rfl, rfl, rfl, rfl, rfl, rfl, rfl, rfl, rfl, rfl, rfl, rfl, rfl, rfl⟩
theorem tok_7_pageInfo (X : XT) : TabOK X M_7_pageInfo (tab_7_pageInfo X) := by
  unfold tab_7_pageInfo
  refine tok_cons (snd_aload_n dX7_pageInfo_0 rfl rfl) ?_
  refine tok_cons (snd_gr (C := RX7) (T := TX7) (N := 4) dX7_pageInfo_1 rfl (by decide) rfl wf7_26 inX7 rfl) ?_
  refine tok_cons (snd_aload_n dX7_pageInfo_4 rfl rfl) ?_
  refine tok_cons (snd_gr (C := RX7) (T := TX7) (N := 4) dX7_pageInfo_5 rfl (by decide) rfl wf7_10 inX7 rfl) ?_
  refine tok_cons (snd_aload_n dX7_pageInfo_8 rfl rfl) ?_
  refine tok_cons (snd_gr (C := RX7) (T := TX7) (N := 4) dX7_pageInfo_9 rfl (by decide) rfl wf7_10 inX7 rfl) ?_
  refine tok_cons (snd_gr (C := RX1) (T := TX1) (N := 5) dX7_pageInfo_12 rfl (by decide) rfl wf7_101 inX1 rfl) ?_
  refine tok_cons (snd_iconst dX7_pageInfo_15 rfl (inr_d rfl) rfl) ?_
  refine tok_cons (snd_iald dX7_pageInfo_16 rfl) ?_
  refine tok_cons (snd_cn dX7_pageInfo_17 mok_6_arrange ⟨wm7_119, wi_6_arrange, wl_6_arrange⟩ (rc := (RX6, TX6, 11)) rfl rfl pn_6_arrange (by decide) ⟨rfl, rfl⟩ rfl) ?_
  refine tok_cons (snd_aload_n dX7_pageInfo_20 rfl rfl) ?_
  refine tok_cons (snd_gr (C := RX7) (T := TX7) (N := 4) dX7_pageInfo_21 rfl (by decide) rfl wf7_26 inX7 rfl) ?_
  refine tok_cons (snd_iload_n dX7_pageInfo_24 rfl rfl) ?_
  refine tok_cons (snd_cv dX7_pageInfo_25 mok_6_has ⟨wm7_124, wi_6_has, wl_6_has⟩ (rc := (RX6, TX6, 11)) rfl rfl pn_6_has (by decide) ⟨rfl, rfl⟩ rfl) ?_
  refine tok_cons (snd_if_eq dX7_pageInfo_28 (by decide) rfl) ?_
  refine tok_cons (snd_iload_n dX7_pageInfo_31 rfl rfl) ?_
  refine tok_cons (snd_sv dX7_pageInfo_32 mok_7_isSide ⟨ws_7_isSide, Or.inl ⟨wm7_60, rfl⟩⟩ pn_7_isSide (by decide) ⟨rfl, rfl⟩ rfl) ?_
  refine tok_cons (snd_if_eq dX7_pageInfo_35 (by decide) rfl) ?_
  refine tok_cons (snd_iload_n dX7_pageInfo_38 rfl rfl) ?_
  refine tok_cons (snd_iconst dX7_pageInfo_39 rfl (inr_d rfl) rfl) ?_
  refine tok_cons (snd_iconst dX7_pageInfo_40 rfl (inr_d rfl) rfl) ?_
  refine tok_cons (snd_sv dX7_pageInfo_41 mok_7_isIn ⟨ws_7_isIn, Or.inl ⟨wm7_41, rfl⟩⟩ pn_7_isIn (by decide) ⟨rfl, rfl⟩ rfl) ?_
  refine tok_cons (snd_if_ne dX7_pageInfo_44 (by decide) rfl) ?_
  refine tok_cons (snd_iconst dX7_pageInfo_47 rfl (inr_d rfl) rfl) ?_
  refine tok_cons (snd_iret dX7_pageInfo_48 rfl) ?_
  refine tok_cons (snd_aload_n dX7_pageInfo_49 rfl rfl) ?_
  refine tok_cons (snd_gr (C := RX7) (T := TX7) (N := 4) dX7_pageInfo_50 rfl (by decide) rfl wf7_26 inX7 rfl) ?_
  refine tok_cons (snd_gr (C := RX6) (T := TX6) (N := 11) dX7_pageInfo_53 rfl (by decide) rfl wf7_137 inX6 rfl) ?_
  refine tok_cons (snd_iload_n dX7_pageInfo_56 rfl rfl) ?_
  refine tok_cons (snd_aald dX7_pageInfo_57 rfl) ?_
  refine tok_cons (snd_iconst dX7_pageInfo_58 rfl (inr_d rfl) rfl) ?_
  refine tok_cons (snd_iload_n dX7_pageInfo_59 rfl rfl) ?_
  refine tok_cons (snd_mul dX7_pageInfo_60 rfl) ?_
  refine tok_cons (snd_iload_n dX7_pageInfo_61 rfl rfl) ?_
  refine tok_cons (snd_add dX7_pageInfo_62 rfl) ?_
  refine tok_cons (snd_iald dX7_pageInfo_63 rfl) ?_
  refine tok_cons (snd_iret dX7_pageInfo_64 rfl) ?_
  exact tok_nil
def tab_7_isOverfull (X : XT) : Tab := [(0, false, a_aload 0 1), (1, false, a_gr 7 2 4), (4, false, a_aload 0 5), (5, false, a_gr 7 0 8), (8, false, a_aload 0 9), (9, false, a_gr 7 0 12), (12, false, a_gr 1 4 15), (15, false, a_const 0 16), (16, false, a_ald false 17), (17, false, a_cn X M_7_isOverfull M_6_arrange 6 3 20), (20, false, a_aload 0 21), (21, false, a_gr 7 2 24), (24, false, a_iload 1 25), (25, false, a_cv X M_7_isOverfull M_6_has 6 2 28), (28, false, a_if 0 43 31), (31, false, a_aload 0 32), (32, false, a_gr 7 2 35), (35, false, a_gr 6 3 38), (38, false, a_iload 1 39), (39, false, a_ald false 40), (40, false, a_goto 44), (43, false, a_const (-1) 44), (44, false, a_iret M_7_isOverfull)]
set_option maxRecDepth 20000 in
theorem t_7_isOverfull (X : XT) : tget (tab_7_isOverfull X) 0 = some (false, a_aload 0 1) ∧ tget (tab_7_isOverfull X) 1 = some (false, a_gr 7 2 4) ∧ tget (tab_7_isOverfull X) 4 = some (false, a_aload 0 5) ∧ tget (tab_7_isOverfull X) 5 = some (false, a_gr 7 0 8) ∧ tget (tab_7_isOverfull X) 8 = some (false, a_aload 0 9) ∧ tget (tab_7_isOverfull X) 9 = some (false, a_gr 7 0 12) ∧ tget (tab_7_isOverfull X) 12 = some (false, a_gr 1 4 15) ∧ tget (tab_7_isOverfull X) 15 = some (false, a_const 0 16) ∧ tget (tab_7_isOverfull X) 16 = some (false, a_ald false 17) ∧ tget (tab_7_isOverfull X) 17 = some (false, a_cn X M_7_isOverfull M_6_arrange 6 3 20) ∧ tget (tab_7_isOverfull X) 20 = some (false, a_aload 0 21) ∧ tget (tab_7_isOverfull X) 21 = some (false, a_gr 7 2 24) ∧ tget (tab_7_isOverfull X) 24 = some (false, a_iload 1 25) ∧ tget (tab_7_isOverfull X) 25 = some (false, a_cv X M_7_isOverfull M_6_has 6 2 28) ∧ tget (tab_7_isOverfull X) 28 = some (false, a_if 0 43 31) ∧ tget (tab_7_isOverfull X) 31 = some (false, a_aload 0 32) ∧ tget (tab_7_isOverfull X) 32 = some (false, a_gr 7 2 35) ∧ tget (tab_7_isOverfull X) 35 = some (false, a_gr 6 3 38) ∧ tget (tab_7_isOverfull X) 38 = some (false, a_iload 1 39) ∧ tget (tab_7_isOverfull X) 39 = some (false, a_ald false 40) ∧ tget (tab_7_isOverfull X) 40 = some (false, a_goto 44) ∧ tget (tab_7_isOverfull X) 43 = some (false, a_const (-1) 44) ∧ tget (tab_7_isOverfull X) 44 = some (false, a_iret M_7_isOverfull) := ⟨rfl, rfl, rfl, rfl, rfl, rfl, rfl, rfl, rfl, rfl, rfl, rfl, rfl, rfl, rfl, rfl, rfl, rfl, rfl, rfl, rfl, rfl, rfl⟩
theorem tok_7_isOverfull (X : XT) : TabOK X M_7_isOverfull (tab_7_isOverfull X) := by
  unfold tab_7_isOverfull
  refine tok_cons (snd_aload_n dX7_isOverfull_0 rfl rfl) ?_
  refine tok_cons (snd_gr (C := RX7) (T := TX7) (N := 4) dX7_isOverfull_1 rfl (by decide) rfl wf7_26 inX7 rfl) ?_
  refine tok_cons (snd_aload_n dX7_isOverfull_4 rfl rfl) ?_
  refine tok_cons (snd_gr (C := RX7) (T := TX7) (N := 4) dX7_isOverfull_5 rfl (by decide) rfl wf7_10 inX7 rfl) ?_
  refine tok_cons (snd_aload_n dX7_isOverfull_8 rfl rfl) ?_
  refine tok_cons (snd_gr (C := RX7) (T := TX7) (N := 4) dX7_isOverfull_9 rfl (by decide) rfl wf7_10 inX7 rfl) ?_
  refine tok_cons (snd_gr (C := RX1) (T := TX1) (N := 5) dX7_isOverfull_12 rfl (by decide) rfl wf7_101 inX1 rfl) ?_
  refine tok_cons (snd_iconst dX7_isOverfull_15 rfl (inr_d rfl) rfl) ?_
  refine tok_cons (snd_iald dX7_isOverfull_16 rfl) ?_
  refine tok_cons (snd_cn dX7_isOverfull_17 mok_6_arrange ⟨wm7_119, wi_6_arrange, wl_6_arrange⟩ (rc := (RX6, TX6, 11)) rfl rfl pn_6_arrange (by decide) ⟨rfl, rfl⟩ rfl) ?_
  refine tok_cons (snd_aload_n dX7_isOverfull_20 rfl rfl) ?_
  refine tok_cons (snd_gr (C := RX7) (T := TX7) (N := 4) dX7_isOverfull_21 rfl (by decide) rfl wf7_26 inX7 rfl) ?_
  refine tok_cons (snd_iload_n dX7_isOverfull_24 rfl rfl) ?_
  refine tok_cons (snd_cv dX7_isOverfull_25 mok_6_has ⟨wm7_124, wi_6_has, wl_6_has⟩ (rc := (RX6, TX6, 11)) rfl rfl pn_6_has (by decide) ⟨rfl, rfl⟩ rfl) ?_
  refine tok_cons (snd_if_eq dX7_isOverfull_28 (by decide) rfl) ?_
  refine tok_cons (snd_aload_n dX7_isOverfull_31 rfl rfl) ?_
  refine tok_cons (snd_gr (C := RX7) (T := TX7) (N := 4) dX7_isOverfull_32 rfl (by decide) rfl wf7_26 inX7 rfl) ?_
  refine tok_cons (snd_gr (C := RX6) (T := TX6) (N := 11) dX7_isOverfull_35 rfl (by decide) rfl wf7_140 inX6 rfl) ?_
  refine tok_cons (snd_iload_n dX7_isOverfull_38 rfl rfl) ?_
  refine tok_cons (snd_iald dX7_isOverfull_39 rfl) ?_
  refine tok_cons (snd_goto dX7_isOverfull_40 (by decide)) ?_
  refine tok_cons (snd_iconst dX7_isOverfull_43 rfl (inr_d rfl) rfl) ?_
  refine tok_cons (snd_iret dX7_isOverfull_44 rfl) ?_
  exact tok_nil
def tab_7_spreadOf (X : XT) : Tab := [(0, false, a_aload 0 1), (1, false, a_gr 7 0 4), (4, false, a_iload 1 5), (5, false, a_iload 2 6), (6, false, a_iload 3 7), (7, false, a_cv X M_7_spreadOf M_1_hasLine 1 4 10), (10, false, a_if 1 15 13), (13, false, a_const (-1) 14), (14, false, a_iret M_7_spreadOf), (15, false, a_aload 0 16), (16, false, a_gr 7 2 19), (19, false, a_aload 0 20), (20, false, a_gr 7 0 23), (23, false, a_aload 0 24), (24, false, a_gr 7 0 27), (27, false, a_gr 1 4 30), (30, false, a_const 0 31), (31, false, a_ald false 32), (32, false, a_cn X M_7_spreadOf M_6_arrange 6 3 35), (35, false, a_aload 0 36), (36, false, a_gr 7 2 39), (39, false, a_aload 0 40), (40, false, a_gr 7 2 43), (43, false, a_iload 1 44), (44, false, a_iload 2 45), (45, false, a_iload 3 46), (46, false, a_cv X M_7_spreadOf M_6_segmentWith 6 4 49), (49, false, a_cv X M_7_spreadOf M_6_spreadWith 6 2 52), (52, false, a_iret M_7_spreadOf)]
set_option maxRecDepth 20000 in
theorem t_7_spreadOf (X : XT) : tget (tab_7_spreadOf X) 0 = some (false, a_aload 0 1) ∧ tget (tab_7_spreadOf X) 1 = some (false, a_gr 7 0 4) ∧ tget (tab_7_spreadOf X) 4 = some (false, a_iload 1 5) ∧ tget (tab_7_spreadOf X) 5 = some (false, a_iload 2 6) ∧ tget (tab_7_spreadOf X) 6 = some (false, a_iload 3 7) ∧ tget (tab_7_spreadOf X) 7 = some (false, a_cv X M_7_spreadOf M_1_hasLine 1 4 10) ∧ tget (tab_7_spreadOf X) 10 = some (false, a_if 1 15 13) ∧ tget (tab_7_spreadOf X) 13 = some (false, a_const (-1) 14) ∧ tget (tab_7_spreadOf X) 14 = some (false, a_iret M_7_spreadOf) ∧ tget (tab_7_spreadOf X) 15 = some (false, a_aload 0 16) ∧ tget (tab_7_spreadOf X) 16 = some (false, a_gr 7 2 19) ∧ tget (tab_7_spreadOf X) 19 = some (false, a_aload 0 20) ∧ tget (tab_7_spreadOf X) 20 = some (false, a_gr 7 0 23) ∧ tget (tab_7_spreadOf X) 23 = some (false, a_aload 0 24) ∧ tget (tab_7_spreadOf X) 24 = some (false, a_gr 7 0 27) ∧ tget (tab_7_spreadOf X) 27 = some (false, a_gr 1 4 30) ∧ tget (tab_7_spreadOf X) 30 = some (false, a_const 0 31) ∧ tget (tab_7_spreadOf X) 31 = some (false, a_ald false 32) ∧ tget (tab_7_spreadOf X) 32 = some (false, a_cn X M_7_spreadOf M_6_arrange 6 3 35) ∧ tget (tab_7_spreadOf X) 35 = some (false, a_aload 0 36) ∧ tget (tab_7_spreadOf X) 36 = some (false, a_gr 7 2 39) ∧ tget (tab_7_spreadOf X) 39 = some (false, a_aload 0 40) ∧ tget (tab_7_spreadOf X) 40 = some (false, a_gr 7 2 43) ∧ tget (tab_7_spreadOf X) 43 = some (false, a_iload 1 44) ∧ tget (tab_7_spreadOf X) 44 = some (false, a_iload 2 45) ∧ tget (tab_7_spreadOf X) 45 = some (false, a_iload 3 46) ∧ tget (tab_7_spreadOf X) 46 = some (false, a_cv X M_7_spreadOf M_6_segmentWith 6 4 49) ∧ tget (tab_7_spreadOf X) 49 = some (false, a_cv X M_7_spreadOf M_6_spreadWith 6 2 52) ∧ tget (tab_7_spreadOf X) 52 = some (false, a_iret M_7_spreadOf) := ⟨rfl, rfl, rfl, rfl, rfl, rfl, rfl, rfl, rfl, rfl, rfl, rfl, rfl, rfl, rfl, rfl, rfl, rfl, rfl, rfl, rfl, rfl, rfl, rfl, rfl, rfl, rfl, rfl, rfl⟩
theorem tok_7_spreadOf (X : XT) : TabOK X M_7_spreadOf (tab_7_spreadOf X) := by
  unfold tab_7_spreadOf
  refine tok_cons (snd_aload_n dX7_spreadOf_0 rfl rfl) ?_
  refine tok_cons (snd_gr (C := RX7) (T := TX7) (N := 4) dX7_spreadOf_1 rfl (by decide) rfl wf7_10 inX7 rfl) ?_
  refine tok_cons (snd_iload_n dX7_spreadOf_4 rfl rfl) ?_
  refine tok_cons (snd_iload_n dX7_spreadOf_5 rfl rfl) ?_
  refine tok_cons (snd_iload_n dX7_spreadOf_6 rfl rfl) ?_
  refine tok_cons (snd_cv dX7_spreadOf_7 mok_1_hasLine ⟨wm7_77, wi_1_hasLine, wl_1_hasLine⟩ (rc := (RX1, TX1, 5)) rfl rfl pn_1_hasLine (by decide) ⟨rfl, rfl⟩ rfl) ?_
  refine tok_cons (snd_if_ne dX7_spreadOf_10 (by decide) rfl) ?_
  refine tok_cons (snd_iconst dX7_spreadOf_13 rfl (inr_d rfl) rfl) ?_
  refine tok_cons (snd_iret dX7_spreadOf_14 rfl) ?_
  refine tok_cons (snd_aload_n dX7_spreadOf_15 rfl rfl) ?_
  refine tok_cons (snd_gr (C := RX7) (T := TX7) (N := 4) dX7_spreadOf_16 rfl (by decide) rfl wf7_26 inX7 rfl) ?_
  refine tok_cons (snd_aload_n dX7_spreadOf_19 rfl rfl) ?_
  refine tok_cons (snd_gr (C := RX7) (T := TX7) (N := 4) dX7_spreadOf_20 rfl (by decide) rfl wf7_10 inX7 rfl) ?_
  refine tok_cons (snd_aload_n dX7_spreadOf_23 rfl rfl) ?_
  refine tok_cons (snd_gr (C := RX7) (T := TX7) (N := 4) dX7_spreadOf_24 rfl (by decide) rfl wf7_10 inX7 rfl) ?_
  refine tok_cons (snd_gr (C := RX1) (T := TX1) (N := 5) dX7_spreadOf_27 rfl (by decide) rfl wf7_101 inX1 rfl) ?_
  refine tok_cons (snd_iconst dX7_spreadOf_30 rfl (inr_d rfl) rfl) ?_
  refine tok_cons (snd_iald dX7_spreadOf_31 rfl) ?_
  refine tok_cons (snd_cn dX7_spreadOf_32 mok_6_arrange ⟨wm7_119, wi_6_arrange, wl_6_arrange⟩ (rc := (RX6, TX6, 11)) rfl rfl pn_6_arrange (by decide) ⟨rfl, rfl⟩ rfl) ?_
  refine tok_cons (snd_aload_n dX7_spreadOf_35 rfl rfl) ?_
  refine tok_cons (snd_gr (C := RX7) (T := TX7) (N := 4) dX7_spreadOf_36 rfl (by decide) rfl wf7_26 inX7 rfl) ?_
  refine tok_cons (snd_aload_n dX7_spreadOf_39 rfl rfl) ?_
  refine tok_cons (snd_gr (C := RX7) (T := TX7) (N := 4) dX7_spreadOf_40 rfl (by decide) rfl wf7_26 inX7 rfl) ?_
  refine tok_cons (snd_iload_n dX7_spreadOf_43 rfl rfl) ?_
  refine tok_cons (snd_iload_n dX7_spreadOf_44 rfl rfl) ?_
  refine tok_cons (snd_iload_n dX7_spreadOf_45 rfl rfl) ?_
  refine tok_cons (snd_cv dX7_spreadOf_46 mok_6_segmentWith ⟨wm7_143, wi_6_segmentWith, wl_6_segmentWith⟩ (rc := (RX6, TX6, 11)) rfl rfl pn_6_segmentWith (by decide) ⟨rfl, rfl⟩ rfl) ?_
  refine tok_cons (snd_cv dX7_spreadOf_49 mok_6_spreadWith ⟨wm7_146, wi_6_spreadWith, wl_6_spreadWith⟩ (rc := (RX6, TX6, 11)) rfl rfl pn_6_spreadWith (by decide) ⟨rfl, rfl⟩ rfl) ?_
  refine tok_cons (snd_iret dX7_spreadOf_52 rfl) ?_
  exact tok_nil
def tab_7_rowOf (X : XT) : Tab := [(0, false, a_aload 0 1), (1, false, a_gr 7 0 4), (4, false, a_iload 1 5), (5, false, a_iload 2 6), (6, false, a_iload 3 7), (7, false, a_cv X M_7_rowOf M_1_hasLine 1 4 10), (10, false, a_if 1 15 13), (13, false, a_const (-1) 14), (14, false, a_iret M_7_rowOf), (15, false, a_aload 0 16), (16, false, a_gr 7 2 19), (19, false, a_aload 0 20), (20, false, a_gr 7 0 23), (23, false, a_aload 0 24), (24, false, a_gr 7 0 27), (27, false, a_gr 1 4 30), (30, false, a_const 0 31), (31, false, a_ald false 32), (32, false, a_cn X M_7_rowOf M_6_arrange 6 3 35), (35, false, a_aload 0 36), (36, false, a_gr 7 2 39), (39, false, a_aload 0 40), (40, false, a_gr 7 2 43), (43, false, a_iload 1 44), (44, false, a_iload 2 45), (45, false, a_iload 3 46), (46, false, a_cv X M_7_rowOf M_6_segmentWith 6 4 49), (49, false, a_iload 2 50), (50, false, a_iload 3 51), (51, false, a_cv X M_7_rowOf M_6_rowIn 6 4 54), (54, false, a_iret M_7_rowOf)]
set_option maxRecDepth 20000 in
theorem t_7_rowOf (X : XT) : tget (tab_7_rowOf X) 0 = some (false, a_aload 0 1) ∧ tget (tab_7_rowOf X) 1 = some (false, a_gr 7 0 4) ∧ tget (tab_7_rowOf X) 4 = some (false, a_iload 1 5) ∧ tget (tab_7_rowOf X) 5 = some (false, a_iload 2 6) ∧ tget (tab_7_rowOf X) 6 = some (false, a_iload 3 7) ∧ tget (tab_7_rowOf X) 7 = some (false, a_cv X M_7_rowOf M_1_hasLine 1 4 10) ∧ tget (tab_7_rowOf X) 10 = some (false, a_if 1 15 13) ∧ tget (tab_7_rowOf X) 13 = some (false, a_const (-1) 14) ∧ tget (tab_7_rowOf X) 14 = some (false, a_iret M_7_rowOf) ∧ tget (tab_7_rowOf X) 15 = some (false, a_aload 0 16) ∧ tget (tab_7_rowOf X) 16 = some (false, a_gr 7 2 19) ∧ tget (tab_7_rowOf X) 19 = some (false, a_aload 0 20) ∧ tget (tab_7_rowOf X) 20 = some (false, a_gr 7 0 23) ∧ tget (tab_7_rowOf X) 23 = some (false, a_aload 0 24) ∧ tget (tab_7_rowOf X) 24 = some (false, a_gr 7 0 27) ∧ tget (tab_7_rowOf X) 27 = some (false, a_gr 1 4 30) ∧ tget (tab_7_rowOf X) 30 = some (false, a_const 0 31) ∧ tget (tab_7_rowOf X) 31 = some (false, a_ald false 32) ∧ tget (tab_7_rowOf X) 32 = some (false, a_cn X M_7_rowOf M_6_arrange 6 3 35) ∧ tget (tab_7_rowOf X) 35 = some (false, a_aload 0 36) ∧ tget (tab_7_rowOf X) 36 = some (false, a_gr 7 2 39) ∧ tget (tab_7_rowOf X) 39 = some (false, a_aload 0 40) ∧ tget (tab_7_rowOf X) 40 = some (false, a_gr 7 2 43) ∧ tget (tab_7_rowOf X) 43 = some (false, a_iload 1 44) ∧ tget (tab_7_rowOf X) 44 = some (false, a_iload 2 45) ∧ tget (tab_7_rowOf X) 45 = some (false, a_iload 3 46) ∧ tget (tab_7_rowOf X) 46 = some (false, a_cv X M_7_rowOf M_6_segmentWith 6 4 49) ∧ tget (tab_7_rowOf X) 49 = some (false, a_iload 2 50) ∧ tget (tab_7_rowOf X) 50 = some (false, a_iload 3 51) ∧ tget (tab_7_rowOf X) 51 = some (false, a_cv X M_7_rowOf M_6_rowIn 6 4 54) ∧ tget (tab_7_rowOf X) 54 = some (false, a_iret M_7_rowOf) := ⟨rfl, rfl, rfl, rfl, rfl, rfl, rfl, rfl, rfl, rfl, rfl, rfl, rfl, rfl, rfl, rfl, rfl, rfl, rfl, rfl, rfl, rfl, rfl, rfl, rfl, rfl, rfl, rfl, rfl, rfl, rfl⟩
theorem tok_7_rowOf (X : XT) : TabOK X M_7_rowOf (tab_7_rowOf X) := by
  unfold tab_7_rowOf
  refine tok_cons (snd_aload_n dX7_rowOf_0 rfl rfl) ?_
  refine tok_cons (snd_gr (C := RX7) (T := TX7) (N := 4) dX7_rowOf_1 rfl (by decide) rfl wf7_10 inX7 rfl) ?_
  refine tok_cons (snd_iload_n dX7_rowOf_4 rfl rfl) ?_
  refine tok_cons (snd_iload_n dX7_rowOf_5 rfl rfl) ?_
  refine tok_cons (snd_iload_n dX7_rowOf_6 rfl rfl) ?_
  refine tok_cons (snd_cv dX7_rowOf_7 mok_1_hasLine ⟨wm7_77, wi_1_hasLine, wl_1_hasLine⟩ (rc := (RX1, TX1, 5)) rfl rfl pn_1_hasLine (by decide) ⟨rfl, rfl⟩ rfl) ?_
  refine tok_cons (snd_if_ne dX7_rowOf_10 (by decide) rfl) ?_
  refine tok_cons (snd_iconst dX7_rowOf_13 rfl (inr_d rfl) rfl) ?_
  refine tok_cons (snd_iret dX7_rowOf_14 rfl) ?_
  refine tok_cons (snd_aload_n dX7_rowOf_15 rfl rfl) ?_
  refine tok_cons (snd_gr (C := RX7) (T := TX7) (N := 4) dX7_rowOf_16 rfl (by decide) rfl wf7_26 inX7 rfl) ?_
  refine tok_cons (snd_aload_n dX7_rowOf_19 rfl rfl) ?_
  refine tok_cons (snd_gr (C := RX7) (T := TX7) (N := 4) dX7_rowOf_20 rfl (by decide) rfl wf7_10 inX7 rfl) ?_
  refine tok_cons (snd_aload_n dX7_rowOf_23 rfl rfl) ?_
  refine tok_cons (snd_gr (C := RX7) (T := TX7) (N := 4) dX7_rowOf_24 rfl (by decide) rfl wf7_10 inX7 rfl) ?_
  refine tok_cons (snd_gr (C := RX1) (T := TX1) (N := 5) dX7_rowOf_27 rfl (by decide) rfl wf7_101 inX1 rfl) ?_
  refine tok_cons (snd_iconst dX7_rowOf_30 rfl (inr_d rfl) rfl) ?_
  refine tok_cons (snd_iald dX7_rowOf_31 rfl) ?_
  refine tok_cons (snd_cn dX7_rowOf_32 mok_6_arrange ⟨wm7_119, wi_6_arrange, wl_6_arrange⟩ (rc := (RX6, TX6, 11)) rfl rfl pn_6_arrange (by decide) ⟨rfl, rfl⟩ rfl) ?_
  refine tok_cons (snd_aload_n dX7_rowOf_35 rfl rfl) ?_
  refine tok_cons (snd_gr (C := RX7) (T := TX7) (N := 4) dX7_rowOf_36 rfl (by decide) rfl wf7_26 inX7 rfl) ?_
  refine tok_cons (snd_aload_n dX7_rowOf_39 rfl rfl) ?_
  refine tok_cons (snd_gr (C := RX7) (T := TX7) (N := 4) dX7_rowOf_40 rfl (by decide) rfl wf7_26 inX7 rfl) ?_
  refine tok_cons (snd_iload_n dX7_rowOf_43 rfl rfl) ?_
  refine tok_cons (snd_iload_n dX7_rowOf_44 rfl rfl) ?_
  refine tok_cons (snd_iload_n dX7_rowOf_45 rfl rfl) ?_
  refine tok_cons (snd_cv dX7_rowOf_46 mok_6_segmentWith ⟨wm7_143, wi_6_segmentWith, wl_6_segmentWith⟩ (rc := (RX6, TX6, 11)) rfl rfl pn_6_segmentWith (by decide) ⟨rfl, rfl⟩ rfl) ?_
  refine tok_cons (snd_iload_n dX7_rowOf_49 rfl rfl) ?_
  refine tok_cons (snd_iload_n dX7_rowOf_50 rfl rfl) ?_
  refine tok_cons (snd_cv dX7_rowOf_51 mok_6_rowIn ⟨wm7_149, wi_6_rowIn, wl_6_rowIn⟩ (rc := (RX6, TX6, 11)) rfl rfl pn_6_rowIn (by decide) ⟨rfl, rfl⟩ rfl) ?_
  refine tok_cons (snd_iret dX7_rowOf_54 rfl) ?_
  exact tok_nil
def tab_7_shown (X : XT) : Tab := [(0, false, a_aload 0 1), (1, false, a_gr 7 2 4), (4, false, a_aload 0 5), (5, false, a_gr 7 0 8), (8, false, a_aload 0 9), (9, false, a_gr 7 0 12), (12, false, a_gr 1 4 15), (15, false, a_const 0 16), (16, false, a_ald false 17), (17, false, a_cn X M_7_shown M_6_arrange 6 3 20), (20, false, a_aload 0 21), (21, false, a_gr 7 2 24), (24, false, a_iload 1 25), (25, false, a_cv X M_7_shown M_6_has 6 2 28), (28, false, a_if 0 48 31), (31, false, a_iload 2 32), (32, false, a_sv X M_7_shown M_7_isSide 1 35), (35, false, a_if 0 48 38), (38, false, a_iload 3 39), (39, false, a_const 0 40), (40, false, a_const 99 42), (42, false, a_sv X M_7_shown M_7_isIn 3 45), (45, false, a_if 1 50 48), (48, false, a_const (-1) 49), (49, false, a_iret M_7_shown), (50, false, a_aload 0 51), (51, false, a_gr 7 2 54), (54, false, a_iload 1 55), (55, false, a_iload 2 56), (56, false, a_iload 3 57), (57, false, a_cv X M_7_shown M_6_textAt 6 4 60), (60, false, a_istore 4 62), (62, false, a_iload 4 64), (64, false, a_if 0 72 67), (67, false, a_iload 4 69), (69, false, a_goto 86), (72, false, a_aload 0 73), (73, false, a_gr 7 2 76), (76, false, a_aload 0 77), (77, false, a_gr 7 0 80), (80, false, a_iload 1 81), (81, false, a_iload 2 82), (82, false, a_iload 3 83), (83, false, a_cv X M_7_shown M_6_noteAt 6 5 86), (86, false, a_iret M_7_shown)]
set_option maxRecDepth 20000 in
theorem t_7_shown (X : XT) : tget (tab_7_shown X) 0 = some (false, a_aload 0 1) ∧ tget (tab_7_shown X) 1 = some (false, a_gr 7 2 4) ∧ tget (tab_7_shown X) 4 = some (false, a_aload 0 5) ∧ tget (tab_7_shown X) 5 = some (false, a_gr 7 0 8) ∧ tget (tab_7_shown X) 8 = some (false, a_aload 0 9) ∧ tget (tab_7_shown X) 9 = some (false, a_gr 7 0 12) ∧ tget (tab_7_shown X) 12 = some (false, a_gr 1 4 15) ∧ tget (tab_7_shown X) 15 = some (false, a_const 0 16) ∧ tget (tab_7_shown X) 16 = some (false, a_ald false 17) ∧ tget (tab_7_shown X) 17 = some (false, a_cn X M_7_shown M_6_arrange 6 3 20) ∧ tget (tab_7_shown X) 20 = some (false, a_aload 0 21) ∧ tget (tab_7_shown X) 21 = some (false, a_gr 7 2 24) ∧ tget (tab_7_shown X) 24 = some (false, a_iload 1 25) ∧ tget (tab_7_shown X) 25 = some (false, a_cv X M_7_shown M_6_has 6 2 28) ∧ tget (tab_7_shown X) 28 = some (false, a_if 0 48 31) ∧ tget (tab_7_shown X) 31 = some (false, a_iload 2 32) ∧ tget (tab_7_shown X) 32 = some (false, a_sv X M_7_shown M_7_isSide 1 35) ∧ tget (tab_7_shown X) 35 = some (false, a_if 0 48 38) ∧ tget (tab_7_shown X) 38 = some (false, a_iload 3 39) ∧ tget (tab_7_shown X) 39 = some (false, a_const 0 40) ∧ tget (tab_7_shown X) 40 = some (false, a_const 99 42) ∧ tget (tab_7_shown X) 42 = some (false, a_sv X M_7_shown M_7_isIn 3 45) ∧ tget (tab_7_shown X) 45 = some (false, a_if 1 50 48) ∧ tget (tab_7_shown X) 48 = some (false, a_const (-1) 49) ∧ tget (tab_7_shown X) 49 = some (false, a_iret M_7_shown) ∧ tget (tab_7_shown X) 50 = some (false, a_aload 0 51) ∧ tget (tab_7_shown X) 51 = some (false, a_gr 7 2 54) ∧ tget (tab_7_shown X) 54 = some (false, a_iload 1 55) ∧ tget (tab_7_shown X) 55 = some (false, a_iload 2 56) ∧ tget (tab_7_shown X) 56 = some (false, a_iload 3 57) ∧ tget (tab_7_shown X) 57 = some (false, a_cv X M_7_shown M_6_textAt 6 4 60) ∧ tget (tab_7_shown X) 60 = some (false, a_istore 4 62) ∧ tget (tab_7_shown X) 62 = some (false, a_iload 4 64) ∧ tget (tab_7_shown X) 64 = some (false, a_if 0 72 67) ∧ tget (tab_7_shown X) 67 = some (false, a_iload 4 69) ∧ tget (tab_7_shown X) 69 = some (false, a_goto 86) ∧ tget (tab_7_shown X) 72 = some (false, a_aload 0 73) ∧ tget (tab_7_shown X) 73 = some (false, a_gr 7 2 76) ∧ tget (tab_7_shown X) 76 = some (false, a_aload 0 77) ∧ tget (tab_7_shown X) 77 = some (false, a_gr 7 0 80) ∧ tget (tab_7_shown X) 80 = some (false, a_iload 1 81) ∧ tget (tab_7_shown X) 81 = some (false, a_iload 2 82) ∧ tget (tab_7_shown X) 82 = some (false, a_iload 3 83) ∧ tget (tab_7_shown X) 83 = some (false, a_cv X M_7_shown M_6_noteAt 6 5 86) ∧ tget (tab_7_shown X) 86 = some (false, a_iret M_7_shown) := ⟨rfl, rfl, rfl, rfl, rfl, rfl, rfl, rfl, rfl, rfl, rfl, rfl, rfl, rfl, rfl, rfl, rfl, rfl, rfl, rfl, rfl, rfl, rfl, rfl, rfl, rfl, rfl, rfl, rfl, rfl, rfl, rfl, rfl, rfl, rfl, rfl, rfl, rfl, rfl, rfl, rfl, rfl, rfl, rfl, rfl⟩
theorem tok_7_shown (X : XT) : TabOK X M_7_shown (tab_7_shown X) := by
  unfold tab_7_shown
  refine tok_cons (snd_aload_n dX7_shown_0 rfl rfl) ?_
  refine tok_cons (snd_gr (C := RX7) (T := TX7) (N := 4) dX7_shown_1 rfl (by decide) rfl wf7_26 inX7 rfl) ?_
  refine tok_cons (snd_aload_n dX7_shown_4 rfl rfl) ?_
  refine tok_cons (snd_gr (C := RX7) (T := TX7) (N := 4) dX7_shown_5 rfl (by decide) rfl wf7_10 inX7 rfl) ?_
  refine tok_cons (snd_aload_n dX7_shown_8 rfl rfl) ?_
  refine tok_cons (snd_gr (C := RX7) (T := TX7) (N := 4) dX7_shown_9 rfl (by decide) rfl wf7_10 inX7 rfl) ?_
  refine tok_cons (snd_gr (C := RX1) (T := TX1) (N := 5) dX7_shown_12 rfl (by decide) rfl wf7_101 inX1 rfl) ?_
  refine tok_cons (snd_iconst dX7_shown_15 rfl (inr_d rfl) rfl) ?_
  refine tok_cons (snd_iald dX7_shown_16 rfl) ?_
  refine tok_cons (snd_cn dX7_shown_17 mok_6_arrange ⟨wm7_119, wi_6_arrange, wl_6_arrange⟩ (rc := (RX6, TX6, 11)) rfl rfl pn_6_arrange (by decide) ⟨rfl, rfl⟩ rfl) ?_
  refine tok_cons (snd_aload_n dX7_shown_20 rfl rfl) ?_
  refine tok_cons (snd_gr (C := RX7) (T := TX7) (N := 4) dX7_shown_21 rfl (by decide) rfl wf7_26 inX7 rfl) ?_
  refine tok_cons (snd_iload_n dX7_shown_24 rfl rfl) ?_
  refine tok_cons (snd_cv dX7_shown_25 mok_6_has ⟨wm7_124, wi_6_has, wl_6_has⟩ (rc := (RX6, TX6, 11)) rfl rfl pn_6_has (by decide) ⟨rfl, rfl⟩ rfl) ?_
  refine tok_cons (snd_if_eq dX7_shown_28 (by decide) rfl) ?_
  refine tok_cons (snd_iload_n dX7_shown_31 rfl rfl) ?_
  refine tok_cons (snd_sv dX7_shown_32 mok_7_isSide ⟨ws_7_isSide, Or.inl ⟨wm7_60, rfl⟩⟩ pn_7_isSide (by decide) ⟨rfl, rfl⟩ rfl) ?_
  refine tok_cons (snd_if_eq dX7_shown_35 (by decide) rfl) ?_
  refine tok_cons (snd_iload_n dX7_shown_38 rfl rfl) ?_
  refine tok_cons (snd_iconst dX7_shown_39 rfl (inr_d rfl) rfl) ?_
  refine tok_cons (snd_bipush dX7_shown_40 (by decide) (inr_d rfl) rfl) ?_
  refine tok_cons (snd_sv dX7_shown_42 mok_7_isIn ⟨ws_7_isIn, Or.inl ⟨wm7_41, rfl⟩⟩ pn_7_isIn (by decide) ⟨rfl, rfl⟩ rfl) ?_
  refine tok_cons (snd_if_ne dX7_shown_45 (by decide) rfl) ?_
  refine tok_cons (snd_iconst dX7_shown_48 rfl (inr_d rfl) rfl) ?_
  refine tok_cons (snd_iret dX7_shown_49 rfl) ?_
  refine tok_cons (snd_aload_n dX7_shown_50 rfl rfl) ?_
  refine tok_cons (snd_gr (C := RX7) (T := TX7) (N := 4) dX7_shown_51 rfl (by decide) rfl wf7_26 inX7 rfl) ?_
  refine tok_cons (snd_iload_n dX7_shown_54 rfl rfl) ?_
  refine tok_cons (snd_iload_n dX7_shown_55 rfl rfl) ?_
  refine tok_cons (snd_iload_n dX7_shown_56 rfl rfl) ?_
  refine tok_cons (snd_cv dX7_shown_57 mok_6_textAt ⟨wm7_152, wi_6_textAt, wl_6_textAt⟩ (rc := (RX6, TX6, 11)) rfl rfl pn_6_textAt (by decide) ⟨rfl, rfl⟩ rfl) ?_
  refine tok_cons (snd_istore dX7_shown_60 rfl (by decide)) ?_
  refine tok_cons (snd_iload dX7_shown_62 rfl) ?_
  refine tok_cons (snd_if_eq dX7_shown_64 (by decide) rfl) ?_
  refine tok_cons (snd_iload dX7_shown_67 rfl) ?_
  refine tok_cons (snd_goto dX7_shown_69 (by decide)) ?_
  refine tok_cons (snd_aload_n dX7_shown_72 rfl rfl) ?_
  refine tok_cons (snd_gr (C := RX7) (T := TX7) (N := 4) dX7_shown_73 rfl (by decide) rfl wf7_26 inX7 rfl) ?_
  refine tok_cons (snd_aload_n dX7_shown_76 rfl rfl) ?_
  refine tok_cons (snd_gr (C := RX7) (T := TX7) (N := 4) dX7_shown_77 rfl (by decide) rfl wf7_10 inX7 rfl) ?_
  refine tok_cons (snd_iload_n dX7_shown_80 rfl rfl) ?_
  refine tok_cons (snd_iload_n dX7_shown_81 rfl rfl) ?_
  refine tok_cons (snd_iload_n dX7_shown_82 rfl rfl) ?_
  refine tok_cons (snd_cv dX7_shown_83 mok_6_noteAt ⟨wm7_155, wi_6_noteAt, wl_6_noteAt⟩ (rc := (RX6, TX6, 11)) rfl rfl pn_6_noteAt (by decide) ⟨rfl, rfl⟩ rfl) ?_
  refine tok_cons (snd_iret dX7_shown_86 rfl) ?_
  exact tok_nil
def tab_7_cost (X : XT) : Tab := [(0, false, a_aload 0 1), (1, false, a_gr 7 2 4), (4, false, a_aload 0 5), (5, false, a_gr 7 0 8), (8, false, a_aload 0 9), (9, false, a_gr 7 0 12), (12, false, a_gr 1 4 15), (15, false, a_const 0 16), (16, false, a_ald false 17), (17, false, a_cn X M_7_cost M_6_arrange 6 3 20), (20, false, a_aload 0 21), (21, false, a_gr 7 2 24), (24, false, a_cv X M_7_cost M_6_blankSquares 6 1 27), (27, false, a_iret M_7_cost)]
set_option maxRecDepth 20000 in
theorem t_7_cost (X : XT) : tget (tab_7_cost X) 0 = some (false, a_aload 0 1) ∧ tget (tab_7_cost X) 1 = some (false, a_gr 7 2 4) ∧ tget (tab_7_cost X) 4 = some (false, a_aload 0 5) ∧ tget (tab_7_cost X) 5 = some (false, a_gr 7 0 8) ∧ tget (tab_7_cost X) 8 = some (false, a_aload 0 9) ∧ tget (tab_7_cost X) 9 = some (false, a_gr 7 0 12) ∧ tget (tab_7_cost X) 12 = some (false, a_gr 1 4 15) ∧ tget (tab_7_cost X) 15 = some (false, a_const 0 16) ∧ tget (tab_7_cost X) 16 = some (false, a_ald false 17) ∧ tget (tab_7_cost X) 17 = some (false, a_cn X M_7_cost M_6_arrange 6 3 20) ∧ tget (tab_7_cost X) 20 = some (false, a_aload 0 21) ∧ tget (tab_7_cost X) 21 = some (false, a_gr 7 2 24) ∧ tget (tab_7_cost X) 24 = some (false, a_cv X M_7_cost M_6_blankSquares 6 1 27) ∧ tget (tab_7_cost X) 27 = some (false, a_iret M_7_cost) := ⟨rfl, rfl, rfl, rfl, rfl, rfl, rfl, rfl, rfl, rfl, rfl, rfl, rfl, rfl⟩
theorem tok_7_cost (X : XT) : TabOK X M_7_cost (tab_7_cost X) := by
  unfold tab_7_cost
  refine tok_cons (snd_aload_n dX7_cost_0 rfl rfl) ?_
  refine tok_cons (snd_gr (C := RX7) (T := TX7) (N := 4) dX7_cost_1 rfl (by decide) rfl wf7_26 inX7 rfl) ?_
  refine tok_cons (snd_aload_n dX7_cost_4 rfl rfl) ?_
  refine tok_cons (snd_gr (C := RX7) (T := TX7) (N := 4) dX7_cost_5 rfl (by decide) rfl wf7_10 inX7 rfl) ?_
  refine tok_cons (snd_aload_n dX7_cost_8 rfl rfl) ?_
  refine tok_cons (snd_gr (C := RX7) (T := TX7) (N := 4) dX7_cost_9 rfl (by decide) rfl wf7_10 inX7 rfl) ?_
  refine tok_cons (snd_gr (C := RX1) (T := TX1) (N := 5) dX7_cost_12 rfl (by decide) rfl wf7_101 inX1 rfl) ?_
  refine tok_cons (snd_iconst dX7_cost_15 rfl (inr_d rfl) rfl) ?_
  refine tok_cons (snd_iald dX7_cost_16 rfl) ?_
  refine tok_cons (snd_cn dX7_cost_17 mok_6_arrange ⟨wm7_119, wi_6_arrange, wl_6_arrange⟩ (rc := (RX6, TX6, 11)) rfl rfl pn_6_arrange (by decide) ⟨rfl, rfl⟩ rfl) ?_
  refine tok_cons (snd_aload_n dX7_cost_20 rfl rfl) ?_
  refine tok_cons (snd_gr (C := RX7) (T := TX7) (N := 4) dX7_cost_21 rfl (by decide) rfl wf7_26 inX7 rfl) ?_
  refine tok_cons (snd_cv dX7_cost_24 mok_6_blankSquares ⟨wm7_159, wi_6_blankSquares, wl_6_blankSquares⟩ (rc := (RX6, TX6, 11)) rfl rfl pn_6_blankSquares (by decide) ⟨rfl, rfl⟩ rfl) ?_
  refine tok_cons (snd_iret dX7_cost_27 rfl) ?_
  exact tok_nil
def tab_7_leastHeight (X : XT) : Tab := [(0, false, a_iload 1 1), (1, false, a_const 1 2), (2, false, a_const 40 4), (4, false, a_sv X M_7_leastHeight M_7_isIn 3 7), (7, false, a_if 1 12 10), (10, false, a_const (-1) 11), (11, false, a_iret M_7_leastHeight), (12, false, a_gst 1 15), (15, false, a_const 0 16), (16, false, a_sld 17), (17, false, a_istore 2 18), (18, true, a_iload 2 19), (19, false, a_gst 2 22), (22, false, a_const 0 23), (23, false, a_sld 24), (24, false, a_icmp 4 58 27), (27, false, a_aload 0 28), (28, false, a_gr 7 2 31), (31, false, a_aload 0 32), (32, false, a_gr 7 0 35), (35, false, a_iload 2 36), (36, false, a_cn X M_7_leastHeight M_6_arrange 6 3 39), (39, false, a_aload 0 40), (40, false, a_gr 7 2 43), (43, false, a_gi 6 1 1 46), (46, false, a_iload 1 47), (47, false, a_icmp 4 52 50), (50, false, a_iload 2 51), (51, false, a_iret M_7_leastHeight), (52, false, a_iinc 2 1 55), (55, false, a_goto 18), (58, false, a_const (-4) 60), (60, false, a_iret M_7_leastHeight)]
set_option maxRecDepth 20000 in
theorem t_7_leastHeight (X : XT) : tget (tab_7_leastHeight X) 0 = some (false, a_iload 1 1) ∧ tget (tab_7_leastHeight X) 1 = some (false, a_const 1 2) ∧ tget (tab_7_leastHeight X) 2 = some (false, a_const 40 4) ∧ tget (tab_7_leastHeight X) 4 = some (false, a_sv X M_7_leastHeight M_7_isIn 3 7) ∧ tget (tab_7_leastHeight X) 7 = some (false, a_if 1 12 10) ∧ tget (tab_7_leastHeight X) 10 = some (false, a_const (-1) 11) ∧ tget (tab_7_leastHeight X) 11 = some (false, a_iret M_7_leastHeight) ∧ tget (tab_7_leastHeight X) 12 = some (false, a_gst 1 15) ∧ tget (tab_7_leastHeight X) 15 = some (false, a_const 0 16) ∧ tget (tab_7_leastHeight X) 16 = some (false, a_sld 17) ∧ tget (tab_7_leastHeight X) 17 = some (false, a_istore 2 18) ∧ tget (tab_7_leastHeight X) 18 = some (true, a_iload 2 19) ∧ tget (tab_7_leastHeight X) 19 = some (false, a_gst 2 22) ∧ tget (tab_7_leastHeight X) 22 = some (false, a_const 0 23) ∧ tget (tab_7_leastHeight X) 23 = some (false, a_sld 24) ∧ tget (tab_7_leastHeight X) 24 = some (false, a_icmp 4 58 27) ∧ tget (tab_7_leastHeight X) 27 = some (false, a_aload 0 28) ∧ tget (tab_7_leastHeight X) 28 = some (false, a_gr 7 2 31) ∧ tget (tab_7_leastHeight X) 31 = some (false, a_aload 0 32) ∧ tget (tab_7_leastHeight X) 32 = some (false, a_gr 7 0 35) ∧ tget (tab_7_leastHeight X) 35 = some (false, a_iload 2 36) ∧ tget (tab_7_leastHeight X) 36 = some (false, a_cn X M_7_leastHeight M_6_arrange 6 3 39) ∧ tget (tab_7_leastHeight X) 39 = some (false, a_aload 0 40) ∧ tget (tab_7_leastHeight X) 40 = some (false, a_gr 7 2 43) ∧ tget (tab_7_leastHeight X) 43 = some (false, a_gi 6 1 1 46) ∧ tget (tab_7_leastHeight X) 46 = some (false, a_iload 1 47) ∧ tget (tab_7_leastHeight X) 47 = some (false, a_icmp 4 52 50) ∧ tget (tab_7_leastHeight X) 50 = some (false, a_iload 2 51) ∧ tget (tab_7_leastHeight X) 51 = some (false, a_iret M_7_leastHeight) ∧ tget (tab_7_leastHeight X) 52 = some (false, a_iinc 2 1 55) ∧ tget (tab_7_leastHeight X) 55 = some (false, a_goto 18) ∧ tget (tab_7_leastHeight X) 58 = some (false, a_const (-4) 60) ∧ tget (tab_7_leastHeight X) 60 = some (false, a_iret M_7_leastHeight) := ⟨rfl, rfl, rfl, rfl, rfl, rfl, rfl, rfl, rfl, rfl, rfl, rfl, rfl, rfl, rfl, rfl, rfl, rfl, rfl, rfl, rfl, rfl, rfl, rfl, rfl, rfl, rfl, rfl, rfl, rfl, rfl, rfl, rfl⟩
theorem tok_7_leastHeight (X : XT) : TabOK X M_7_leastHeight (tab_7_leastHeight X) := by
  unfold tab_7_leastHeight
  refine tok_cons (snd_iload_n dX7_leastHeight_0 rfl rfl) ?_
  refine tok_cons (snd_iconst dX7_leastHeight_1 rfl (inr_d rfl) rfl) ?_
  refine tok_cons (snd_bipush dX7_leastHeight_2 (by decide) (inr_d rfl) rfl) ?_
  refine tok_cons (snd_sv dX7_leastHeight_4 mok_7_isIn ⟨ws_7_isIn, Or.inl ⟨wm7_41, rfl⟩⟩ pn_7_isIn (by decide) ⟨rfl, rfl⟩ rfl) ?_
  refine tok_cons (snd_if_ne dX7_leastHeight_7 (by decide) rfl) ?_
  refine tok_cons (snd_iconst dX7_leastHeight_10 rfl (inr_d rfl) rfl) ?_
  refine tok_cons (snd_iret dX7_leastHeight_11 rfl) ?_
  refine tok_cons (snd_gst dX7_leastHeight_12 (by decide) rfl wf7_94 rfl) ?_
  refine tok_cons (snd_iconst dX7_leastHeight_15 rfl (inr_d rfl) rfl) ?_
  refine tok_cons (snd_sld dX7_leastHeight_16 rfl) ?_
  refine tok_cons (snd_istore_n dX7_leastHeight_17 rfl rfl (by decide)) ?_
  refine tok_cons (snd_iload_n dX7_leastHeight_18 rfl rfl) ?_
  refine tok_cons (snd_gst dX7_leastHeight_19 (by decide) rfl wf7_98 rfl) ?_
  refine tok_cons (snd_iconst dX7_leastHeight_22 rfl (inr_d rfl) rfl) ?_
  refine tok_cons (snd_sld dX7_leastHeight_23 rfl) ?_
  refine tok_cons (snd_icmp_gt dX7_leastHeight_24 (by decide) rfl) ?_
  refine tok_cons (snd_aload_n dX7_leastHeight_27 rfl rfl) ?_
  refine tok_cons (snd_gr (C := RX7) (T := TX7) (N := 4) dX7_leastHeight_28 rfl (by decide) rfl wf7_26 inX7 rfl) ?_
  refine tok_cons (snd_aload_n dX7_leastHeight_31 rfl rfl) ?_
  refine tok_cons (snd_gr (C := RX7) (T := TX7) (N := 4) dX7_leastHeight_32 rfl (by decide) rfl wf7_10 inX7 rfl) ?_
  refine tok_cons (snd_iload_n dX7_leastHeight_35 rfl rfl) ?_
  refine tok_cons (snd_cn dX7_leastHeight_36 mok_6_arrange ⟨wm7_119, wi_6_arrange, wl_6_arrange⟩ (rc := (RX6, TX6, 11)) rfl rfl pn_6_arrange (by decide) ⟨rfl, rfl⟩ rfl) ?_
  refine tok_cons (snd_aload_n dX7_leastHeight_39 rfl rfl) ?_
  refine tok_cons (snd_gr (C := RX7) (T := TX7) (N := 4) dX7_leastHeight_40 rfl (by decide) rfl wf7_26 inX7 rfl) ?_
  refine tok_cons (snd_gi (C := RX6) (T := TX6) (N := 11) dX7_leastHeight_43 rfl (by decide) rfl wf7_123 inX6 rfl rfl) ?_
  refine tok_cons (snd_iload_n dX7_leastHeight_46 rfl rfl) ?_
  refine tok_cons (snd_icmp_gt dX7_leastHeight_47 (by decide) rfl) ?_
  refine tok_cons (snd_iload_n dX7_leastHeight_50 rfl rfl) ?_
  refine tok_cons (snd_iret dX7_leastHeight_51 rfl) ?_
  refine tok_cons (snd_iinc dX7_leastHeight_52 rfl rfl (by decide)) ?_
  refine tok_cons (snd_goto dX7_leastHeight_55 (by decide)) ?_
  refine tok_cons (snd_bipush dX7_leastHeight_58 (by decide) (inr_d rfl) rfl) ?_
  refine tok_cons (snd_iret dX7_leastHeight_60 rfl) ?_
  exact tok_nil
