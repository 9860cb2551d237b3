/-! ===== the constructors, instruction by instruction ===== -/
theorem wm2_3 : Cond.methodLink RX2 3 Lib.objectInit ∈ W0 := in_t1 (i := 118) rfl rfl
theorem w_oi : Cond.instanceMethod Lib.objectInit ∈ W0 := in_t1 (i := 17) rfl rfl
theorem w_oc : Cond.code Lib.objectInit ⟨#[0xb1]⟩ 1 none ∈ W0 := in_t1 (i := 18) rfl rfl
theorem wac_int : Cond.arrayClass .int ∈ W0 := in_t1 (i := 46) rfl rfl
theorem wc_2_init : Cond.code yX2_init cX2_init 1 none ∈ W0 := in_t1 (i := 117) rfl rfl
theorem wm4_3 : Cond.methodLink RX4 3 Lib.objectInit ∈ W0 := in_t1 (i := 32) rfl rfl
theorem wcl4_9 : Cond.classLink RX4 9 ("[" ++ (FieldType.array .int).toString) ∈ W0 := in_t1 (i := 33) rfl rfl
theorem wc_4_init : Cond.code yX4_init cX4_init 1 none ∈ W0 := in_t1 (i := 31) rfl rfl
theorem wm5_3 : Cond.methodLink RX5 3 Lib.objectInit ∈ W0 := in_t1 (i := 152) rfl rfl
theorem wc_5_init : Cond.code yX5_init cX5_init 1 none ∈ W0 := in_t1 (i := 151) rfl rfl
theorem wm0_3 : Cond.methodLink RX0 3 Lib.objectInit ∈ W0 := in_t1 (i := 212) rfl rfl
theorem wcl0_21 : Cond.classLink RX0 21 RX2 ∈ W0 := in_t1 (i := 213) rfl rfl
theorem wib_2 : Cond.instantiable RX2 7 ∈ W0 := in_t1 (i := 114) rfl rfl
theorem wi_2_init : Cond.instanceMethod yX2_init ∈ W0 := in_t1 (i := 116) rfl rfl
theorem wcl0_28 : Cond.classLink RX0 28 RX5 ∈ W0 := in_t1 (i := 215) rfl rfl
theorem wib_5 : Cond.instantiable RX5 3 ∈ W0 := in_t1 (i := 148) rfl rfl
theorem wi_5_init : Cond.instanceMethod yX5_init ∈ W0 := in_t1 (i := 150) rfl rfl
theorem wc_0_init : Cond.code yX0_init cX0_init 1 none ∈ W0 := in_t1 (i := 211) rfl rfl
theorem wm1_3 : Cond.methodLink RX1 3 Lib.objectInit ∈ W0 := in_t1 (i := 24) rfl rfl
theorem wcl1_9 : Cond.classLink RX1 9 ("[" ++ (FieldType.array .int).toString) ∈ W0 := in_t1 (i := 25) rfl rfl
theorem wcl1_16 : Cond.classLink RX1 16 RX4 ∈ W0 := in_t1 (i := 27) rfl rfl
theorem wib_4 : Cond.instantiable RX4 2 ∈ W0 := in_t1 (i := 28) rfl rfl
theorem wi_4_init : Cond.instanceMethod yX4_init ∈ W0 := in_t1 (i := 30) rfl rfl
theorem wm1_30 : Cond.methodLink RX1 30 ⟨"[I", "clone", "()Ljava/lang/Object;"⟩ ∈ W0 := in_t1 (i := 49) rfl rfl
theorem w_same : Cond.sameMethod "[I" "java/lang/Object" "clone" "()Ljava/lang/Object;" ∈ W0 := in_t1 (i := 50) rfl rfl
theorem w_natcl : Cond.native ⟨"java/lang/Object", "clone", "()Ljava/lang/Object;"⟩ ∈ W0 := in_t1 (i := 51) rfl rfl
theorem w_instcl : Cond.instanceMethod ⟨"java/lang/Object", "clone", "()Ljava/lang/Object;"⟩ ∈ W0 := in_t1 (i := 52) rfl rfl
theorem w_selcl : Cond.selects "[I" ⟨"[I", "clone", "()Ljava/lang/Object;"⟩ ⟨"java/lang/Object", "clone", "()Ljava/lang/Object;"⟩ ∈ W0 := in_t1 (i := 53) rfl rfl
theorem wcl1_31 : Cond.classLink RX1 31 "[I" ∈ W0 := in_t1 (i := 55) rfl rfl
theorem wc_1_init : Cond.code yX1_init cX1_init 1 none ∈ W0 := in_t1 (i := 23) rfl rfl
theorem wm6_3 : Cond.methodLink RX6 3 Lib.objectInit ∈ W0 := in_t1 (i := 111) rfl rfl
theorem wcl6_22 : Cond.classLink RX6 22 ("[" ++ (FieldType.array .int).toString) ∈ W0 := in_t1 (i := 112) rfl rfl
theorem wcl6_30 : Cond.classLink RX6 30 RX2 ∈ W0 := in_t1 (i := 113) rfl rfl
theorem wcl6_40 : Cond.classLink RX6 40 RX5 ∈ W0 := in_t1 (i := 147) rfl rfl
theorem wc_6_init : Cond.code yX6_init cX6_init 1 none ∈ W0 := in_t1 (i := 110) rfl rfl
theorem wm3_3 : Cond.methodLink RX3 3 Lib.objectInit ∈ W0 := in_t1 (i := 91) rfl rfl
theorem wcl3_9 : Cond.classLink RX3 9 RX1 ∈ W0 := in_t1 (i := 92) rfl rfl
theorem wib_1 : Cond.instantiable RX1 5 ∈ W0 := in_t1 (i := 20) rfl rfl
theorem wi_1_init : Cond.instanceMethod yX1_init ∈ W0 := in_t1 (i := 22) rfl rfl
theorem wc_3_init : Cond.code yX3_init cX3_init 2 none ∈ W0 := in_t1 (i := 90) rfl rfl
theorem wm7_1 : Cond.methodLink RX7 1 Lib.objectInit ∈ W0 := in_t1 (i := 16) rfl rfl
theorem wcl7_7 : Cond.classLink RX7 7 RX1 ∈ W0 := in_t1 (i := 19) rfl rfl
theorem wcl7_16 : Cond.classLink RX7 16 RX3 ∈ W0 := in_t1 (i := 86) rfl rfl
theorem wib_3 : Cond.instantiable RX3 3 ∈ W0 := in_t1 (i := 87) rfl rfl
theorem wi_3_init : Cond.instanceMethod yX3_init ∈ W0 := in_t1 (i := 89) rfl rfl
theorem wm7_18 : Cond.methodLink RX7 18 yX3_init ∈ W0 := in_t1 (i := 88) rfl rfl
theorem wcl7_23 : Cond.classLink RX7 23 RX6 ∈ W0 := in_t1 (i := 106) rfl rfl
theorem wib_6 : Cond.instantiable RX6 11 ∈ W0 := in_t1 (i := 107) rfl rfl
theorem wi_6_init : Cond.instanceMethod yX6_init ∈ W0 := in_t1 (i := 109) rfl rfl
theorem wcl7_30 : Cond.classLink RX7 30 RX0 ∈ W0 := in_t1 (i := 207) rfl rfl
theorem wib_0 : Cond.instantiable RX0 7 ∈ W0 := in_t1 (i := 208) rfl rfl
theorem wi_0_init : Cond.instanceMethod yX0_init ∈ W0 := in_t1 (i := 210) rfl rfl
theorem wc_7_init : Cond.code yX7_init cX7_init 1 none ∈ W0 := in_t1 (i := 15) rfl rfl
theorem wc_L_cell : Cond.code yL_cell cL_cell 2 (some .int) ∈ W0 := in_t2 (i := 217) rfl rfl
theorem wn_L : Cond.initialized RL ∈ W0 := in_t1 (i := 0) rfl rfl
theorem wc_L_acts : Cond.code yL_acts cL_acts 4 (some .boolean) ∈ W0 := in_t2 (i := 222) rfl rfl
theorem wc_L_shows : Cond.code yL_shows cL_shows 14 (some .boolean) ∈ W0 := in_t3 (i := 84) rfl rfl
theorem wc_L_adds : Cond.code yL_adds cL_adds 9 (some .boolean) ∈ W0 := in_t3 (i := 52) rfl rfl
def M_2_init : MT := (yX2_init, cX2_init, 1, none, 1, 7, 14)
def M_4_init : MT := (yX4_init, cX4_init, 1, none, 1, 4, 123)
def M_5_init : MT := (yX5_init, cX5_init, 1, none, 1, 2, 4)
def M_0_init : MT := (yX0_init, cX0_init, 1, none, 2, 14, 89)
def M_1_init : MT := (yX1_init, cX1_init, 1, none, 2, 16, 340)
def M_6_init : MT := (yX6_init, cX6_init, 1, none, 2, 41, 14488)
def M_3_init : MT := (yX3_init, cX3_init, 2, none, 3, 103, 2076)
def M_7_init : MT := (yX7_init, cX7_init, 1, none, 4, 178, 17019)
def M_L_cell : MT := (yL_cell, cL_cell, 2, (some .int), 10, 0, 0)
def M_L_acts : MT := (yL_acts, cL_acts, 4, (some .boolean), 10, 0, 0)
def M_L_shows : MT := (yL_shows, cL_shows, 14, (some .boolean), 10, 0, 0)
def M_L_adds : MT := (yL_adds, cL_adds, 9, (some .boolean), 11, 0, 0)
def M_L_law : MT := (yL_law, cL_law, 9, some .boolean, 12, 600000, 7302250)
theorem mok_2_init : MOK M_2_init := ⟨by decide, wc_2_init, wn_2, ⟨by decide, by decide⟩, by decide⟩
theorem pn_2_init : (parseMethodDescriptor (m_y M_2_init).desc).map (fun d => d.parameters.length) = some 0 := by decide +kernel
theorem mok_4_init : MOK M_4_init := ⟨by decide, wc_4_init, wn_4, ⟨by decide, by decide⟩, by decide⟩
theorem pn_4_init : (parseMethodDescriptor (m_y M_4_init).desc).map (fun d => d.parameters.length) = some 0 := by decide +kernel
theorem mok_5_init : MOK M_5_init := ⟨by decide, wc_5_init, wn_5, ⟨by decide, by decide⟩, by decide⟩
theorem pn_5_init : (parseMethodDescriptor (m_y M_5_init).desc).map (fun d => d.parameters.length) = some 0 := by decide +kernel
theorem mok_0_init : MOK M_0_init := ⟨by decide, wc_0_init, wn_0, ⟨by decide, by decide⟩, by decide⟩
theorem pn_0_init : (parseMethodDescriptor (m_y M_0_init).desc).map (fun d => d.parameters.length) = some 0 := by decide +kernel
theorem mok_1_init : MOK M_1_init := ⟨by decide, wc_1_init, wn_1, ⟨by decide, by decide⟩, by decide⟩
theorem pn_1_init : (parseMethodDescriptor (m_y M_1_init).desc).map (fun d => d.parameters.length) = some 0 := by decide +kernel
theorem mok_6_init : MOK M_6_init := ⟨by decide, wc_6_init, wn_6, ⟨by decide, by decide⟩, by decide⟩
theorem pn_6_init : (parseMethodDescriptor (m_y M_6_init).desc).map (fun d => d.parameters.length) = some 0 := by decide +kernel
theorem mok_3_init : MOK M_3_init := ⟨by decide, wc_3_init, wn_3, ⟨by decide, by decide⟩, by decide⟩
theorem pn_3_init : (parseMethodDescriptor (m_y M_3_init).desc).map (fun d => d.parameters.length) = some 0 := by decide +kernel
theorem mok_7_init : MOK M_7_init := ⟨by decide, wc_7_init, wn_7, ⟨by decide, by decide⟩, by decide⟩
theorem pn_7_init : (parseMethodDescriptor (m_y M_7_init).desc).map (fun d => d.parameters.length) = some 0 := by decide +kernel
theorem mok_L_cell : MOK M_L_cell := ⟨by decide, wc_L_cell, wn_L, ⟨by decide, by decide⟩, by decide⟩
theorem pn_L_cell : (parseMethodDescriptor (m_y M_L_cell).desc).map (fun d => d.parameters.length) = some 2 := by decide +kernel
theorem mok_L_acts : MOK M_L_acts := ⟨by decide, wc_L_acts, wn_L, ⟨by decide, by decide⟩, by decide⟩
theorem pn_L_acts : (parseMethodDescriptor (m_y M_L_acts).desc).map (fun d => d.parameters.length) = some 2 := by decide +kernel
theorem mok_L_shows : MOK M_L_shows := ⟨by decide, wc_L_shows, wn_L, ⟨by decide, by decide⟩, by decide⟩
theorem pn_L_shows : (parseMethodDescriptor (m_y M_L_shows).desc).map (fun d => d.parameters.length) = some 2 := by decide +kernel
theorem mok_L_adds : MOK M_L_adds := ⟨by decide, wc_L_adds, wn_L, ⟨by decide, by decide⟩, by decide⟩
theorem pn_L_adds : (parseMethodDescriptor (m_y M_L_adds).desc).map (fun d => d.parameters.length) = some 1 := by decide +kernel
def tab_2_init (X : XT) : Tab := [(0, false, a_aload 0 1), (1, false, a_oi M_2_init 4), (4, false, a_aload 0 5), (5, false, a_const 2 6), (6, false, a_newa M_2_init false 2 8), (8, false, a_pr 2 0 11), (11, false, a_aload 0 12), (12, false, a_const 2 13), (13, false, a_newa M_2_init false 2 15), (15, false, a_pr 2 1 18), (18, false, a_aload 0 19), (19, false, a_const 2 20), (20, false, a_newa M_2_init false 2 22), (22, false, a_pr 2 2 25), (25, false, a_aload 0 26), (26, false, a_const 2 27), (27, false, a_newa M_2_init false 2 29), (29, false, a_pr 2 3 32), (32, false, a_aload 0 33), (33, false, a_const 2 34), (34, false, a_newa M_2_init false 2 36), (36, false, a_pr 2 4 39), (39, false, a_aload 0 40), (40, false, a_const 2 41), (41, false, a_newa M_2_init false 2 43), (43, false, a_pr 2 5 46), (46, false, a_aload 0 47), (47, false, a_const 2 48), (48, false, a_newa M_2_init false 2 50), (50, false, a_pr 2 6 53), (53, false, a_ret M_2_init)]
set_option maxRecDepth 20000 in
theorem t_2_init (X : XT) : tget (tab_2_init X) 0 = some (false, a_aload 0 1) ∧ tget (tab_2_init X) 1 = some (false, a_oi M_2_init 4) ∧ tget (tab_2_init X) 4 = some (false, a_aload 0 5) ∧ tget (tab_2_init X) 5 = some (false, a_const 2 6) ∧ tget (tab_2_init X) 6 = some (false, a_newa M_2_init false 2 8) ∧ tget (tab_2_init X) 8 = some (false, a_pr 2 0 11) ∧ tget (tab_2_init X) 11 = some (false, a_aload 0 12) ∧ tget (tab_2_init X) 12 = some (false, a_const 2 13) ∧ tget (tab_2_init X) 13 = some (false, a_newa M_2_init false 2 15) ∧ tget (tab_2_init X) 15 = some (false, a_pr 2 1 18) ∧ tget (tab_2_init X) 18 = some (false, a_aload 0 19) ∧ tget (tab_2_init X) 19 = some (false, a_const 2 20) ∧ tget (tab_2_init X) 20 = some (false, a_newa M_2_init false 2 22) ∧ tget (tab_2_init X) 22 = some (false, a_pr 2 2 25) ∧ tget (tab_2_init X) 25 = some (false, a_aload 0 26) ∧ tget (tab_2_init X) 26 = some (false, a_const 2 27) ∧ tget (tab_2_init X) 27 = some (false, a_newa M_2_init false 2 29) ∧ tget (tab_2_init X) 29 = some (false, a_pr 2 3 32) ∧ tget (tab_2_init X) 32 = some (false, a_aload 0 33) ∧ tget (tab_2_init X) 33 = some (false, a_const 2 34) ∧ tget (tab_2_init X) 34 = some (false, a_newa M_2_init false 2 36) ∧ tget (tab_2_init X) 36 = some (false, a_pr 2 4 39) ∧ tget (tab_2_init X) 39 = some (false, a_aload 0 40) ∧ tget (tab_2_init X) 40 = some (false, a_const 2 41) ∧ tget (tab_2_init X) 41 = some (false, a_newa M_2_init false 2 43) ∧ tget (tab_2_init X) 43 = some (false, a_pr 2 5 46) ∧ tget (tab_2_init X) 46 = some (false, a_aload 0 47) ∧ tget (tab_2_init X) 47 = some (false, a_const 2 48) ∧ tget (tab_2_init X) 48 = some (false, a_newa M_2_init false 2 50) ∧ tget (tab_2_init X) 50 = some (false, a_pr 2 6 53) ∧ tget (tab_2_init X) 53 = some (false, a_ret M_2_init) := ⟨rfl, rfl, rfl, rfl, rfl, rfl, rfl, rfl, rfl, rfl, rfl, rfl, rfl, rfl, rfl, rfl, rfl, rfl, rfl, rfl, rfl, rfl, rfl, rfl, rfl, rfl, rfl, rfl, rfl, rfl, rfl⟩
theorem tok_2_init (X : XT) : TabOK X M_2_init (tab_2_init X) := by
  unfold tab_2_init
  refine tok_cons (snd_aload_n dX2_init_0 rfl rfl) ?_
  refine tok_cons (snd_oi dX2_init_1 wm2_3 w_oi w_oc (by decide) rfl) ?_
  refine tok_cons (snd_aload_n dX2_init_4 rfl rfl) ?_
  refine tok_cons (snd_iconst dX2_init_5 rfl (inr_d rfl) rfl) ?_
  refine tok_cons (snd_newa dX2_init_6 rfl wac_int (Nat.le_of_ble_eq_true rfl) rfl) ?_
  refine tok_cons (snd_pr (ty := (.array .int)) (C := RX2) (T := TX2) (N := 7) (ty0 := tyX2) dX2_init_8 rfl (by decide) rfl rfl rfl wf2_9 inX2 tyX2_ok nmX2 (by decide +kernel) (fun a => ⟨rfl, rfl⟩) rfl) ?_
  refine tok_cons (snd_aload_n dX2_init_11 rfl rfl) ?_
  refine tok_cons (snd_iconst dX2_init_12 rfl (inr_d rfl) rfl) ?_
  refine tok_cons (snd_newa dX2_init_13 rfl wac_int (Nat.le_of_ble_eq_true rfl) rfl) ?_
  refine tok_cons (snd_pr (ty := (.array .int)) (C := RX2) (T := TX2) (N := 7) (ty0 := tyX2) dX2_init_15 rfl (by decide) rfl rfl rfl wf2_15 inX2 tyX2_ok nmX2 (by decide +kernel) (fun a => ⟨rfl, rfl⟩) rfl) ?_
  refine tok_cons (snd_aload_n dX2_init_18 rfl rfl) ?_
  refine tok_cons (snd_iconst dX2_init_19 rfl (inr_d rfl) rfl) ?_
  refine tok_cons (snd_newa dX2_init_20 rfl wac_int (Nat.le_of_ble_eq_true rfl) rfl) ?_
  refine tok_cons (snd_pr (ty := (.array .int)) (C := RX2) (T := TX2) (N := 7) (ty0 := tyX2) dX2_init_22 rfl (by decide) rfl rfl rfl wf2_18 inX2 tyX2_ok nmX2 (by decide +kernel) (fun a => ⟨rfl, rfl⟩) rfl) ?_
  refine tok_cons (snd_aload_n dX2_init_25 rfl rfl) ?_
  refine tok_cons (snd_iconst dX2_init_26 rfl (inr_d rfl) rfl) ?_
  refine tok_cons (snd_newa dX2_init_27 rfl wac_int (Nat.le_of_ble_eq_true rfl) rfl) ?_
  refine tok_cons (snd_pr (ty := (.array .int)) (C := RX2) (T := TX2) (N := 7) (ty0 := tyX2) dX2_init_29 rfl (by decide) rfl rfl rfl wf2_21 inX2 tyX2_ok nmX2 (by decide +kernel) (fun a => ⟨rfl, rfl⟩) rfl) ?_
  refine tok_cons (snd_aload_n dX2_init_32 rfl rfl) ?_
  refine tok_cons (snd_iconst dX2_init_33 rfl (inr_d rfl) rfl) ?_
  refine tok_cons (snd_newa dX2_init_34 rfl wac_int (Nat.le_of_ble_eq_true rfl) rfl) ?_
  refine tok_cons (snd_pr (ty := (.array .int)) (C := RX2) (T := TX2) (N := 7) (ty0 := tyX2) dX2_init_36 rfl (by decide) rfl rfl rfl wf2_24 inX2 tyX2_ok nmX2 (by decide +kernel) (fun a => ⟨rfl, rfl⟩) rfl) ?_
  refine tok_cons (snd_aload_n dX2_init_39 rfl rfl) ?_
  refine tok_cons (snd_iconst dX2_init_40 rfl (inr_d rfl) rfl) ?_
  refine tok_cons (snd_newa dX2_init_41 rfl wac_int (Nat.le_of_ble_eq_true rfl) rfl) ?_
  refine tok_cons (snd_pr (ty := (.array .int)) (C := RX2) (T := TX2) (N := 7) (ty0 := tyX2) dX2_init_43 rfl (by decide) rfl rfl rfl wf2_27 inX2 tyX2_ok nmX2 (by decide +kernel) (fun a => ⟨rfl, rfl⟩) rfl) ?_
  refine tok_cons (snd_aload_n dX2_init_46 rfl rfl) ?_
  refine tok_cons (snd_iconst dX2_init_47 rfl (inr_d rfl) rfl) ?_
  refine tok_cons (snd_newa dX2_init_48 rfl wac_int (Nat.le_of_ble_eq_true rfl) rfl) ?_
  refine tok_cons (snd_pr (ty := (.array .int)) (C := RX2) (T := TX2) (N := 7) (ty0 := tyX2) dX2_init_50 rfl (by decide) rfl rfl rfl wf2_30 inX2 tyX2_ok nmX2 (by decide +kernel) (fun a => ⟨rfl, rfl⟩) rfl) ?_
  refine tok_cons (snd_ret dX2_init_53 rfl) ?_
  exact tok_nil
def tab_4_init (X : XT) : Tab := [(0, false, a_aload 0 1), (1, false, a_oi M_4_init 4), (4, false, a_aload 0 5), (5, false, a_const 3 6), (6, false, a_const 40 8), (8, false, a_mnew M_4_init 3 40 12), (12, false, a_pr 4 1 15), (15, false, a_ret M_4_init)]
set_option maxRecDepth 20000 in
theorem t_4_init (X : XT) : tget (tab_4_init X) 0 = some (false, a_aload 0 1) ∧ tget (tab_4_init X) 1 = some (false, a_oi M_4_init 4) ∧ tget (tab_4_init X) 4 = some (false, a_aload 0 5) ∧ tget (tab_4_init X) 5 = some (false, a_const 3 6) ∧ tget (tab_4_init X) 6 = some (false, a_const 40 8) ∧ tget (tab_4_init X) 8 = some (false, a_mnew M_4_init 3 40 12) ∧ tget (tab_4_init X) 12 = some (false, a_pr 4 1 15) ∧ tget (tab_4_init X) 15 = some (false, a_ret M_4_init) := ⟨rfl, rfl, rfl, rfl, rfl, rfl, rfl, rfl⟩
theorem tok_4_init (X : XT) : TabOK X M_4_init (tab_4_init X) := by
  unfold tab_4_init
  refine tok_cons (snd_aload_n dX4_init_0 rfl rfl) ?_
  refine tok_cons (snd_oi dX4_init_1 wm4_3 w_oi w_oc (by decide) rfl) ?_
  refine tok_cons (snd_aload_n dX4_init_4 rfl rfl) ?_
  refine tok_cons (snd_iconst dX4_init_5 rfl (inr_d rfl) rfl) ?_
  refine tok_cons (snd_bipush dX4_init_6 (by decide) (inr_d rfl) rfl) ?_
  refine tok_cons (snd_mnew dX4_init_8 wcl4_9 wac_int (Nat.le_of_ble_eq_true rfl) (Nat.le_of_ble_eq_true rfl) rfl) ?_
  refine tok_cons (snd_pr (ty := (.array (.array .int))) (C := RX4) (T := TX4) (N := 2) (ty0 := tyX4) dX4_init_12 rfl (by decide) rfl rfl rfl wf4_11 inX4 tyX4_ok nmX4 (by decide +kernel) (fun a => ⟨rfl, rfl⟩) rfl) ?_
  refine tok_cons (snd_ret dX4_init_15 rfl) ?_
  exact tok_nil
def tab_5_init (X : XT) : Tab := [(0, false, a_aload 0 1), (1, false, a_oi M_5_init 4), (4, false, a_aload 0 5), (5, false, a_const 2 6), (6, false, a_newa M_5_init false 2 8), (8, false, a_pr 5 1 11), (11, false, a_aload 0 12), (12, false, a_const 2 13), (13, false, a_newa M_5_init false 2 15), (15, false, a_pr 5 2 18), (18, false, a_ret M_5_init)]
set_option maxRecDepth 20000 in
theorem t_5_init (X : XT) : tget (tab_5_init X) 0 = some (false, a_aload 0 1) ∧ tget (tab_5_init X) 1 = some (false, a_oi M_5_init 4) ∧ tget (tab_5_init X) 4 = some (false, a_aload 0 5) ∧ tget (tab_5_init X) 5 = some (false, a_const 2 6) ∧ tget (tab_5_init X) 6 = some (false, a_newa M_5_init false 2 8) ∧ tget (tab_5_init X) 8 = some (false, a_pr 5 1 11) ∧ tget (tab_5_init X) 11 = some (false, a_aload 0 12) ∧ tget (tab_5_init X) 12 = some (false, a_const 2 13) ∧ tget (tab_5_init X) 13 = some (false, a_newa M_5_init false 2 15) ∧ tget (tab_5_init X) 15 = some (false, a_pr 5 2 18) ∧ tget (tab_5_init X) 18 = some (false, a_ret M_5_init) := ⟨rfl, rfl, rfl, rfl, rfl, rfl, rfl, rfl, rfl, rfl, rfl⟩
theorem tok_5_init (X : XT) : TabOK X M_5_init (tab_5_init X) := by
  unfold tab_5_init
  refine tok_cons (snd_aload_n dX5_init_0 rfl rfl) ?_
  refine tok_cons (snd_oi dX5_init_1 wm5_3 w_oi w_oc (by decide) rfl) ?_
  refine tok_cons (snd_aload_n dX5_init_4 rfl rfl) ?_
  refine tok_cons (snd_iconst dX5_init_5 rfl (inr_d rfl) rfl) ?_
  refine tok_cons (snd_newa dX5_init_6 rfl wac_int (Nat.le_of_ble_eq_true rfl) rfl) ?_
  refine tok_cons (snd_pr (ty := (.array .int)) (C := RX5) (T := TX5) (N := 3) (ty0 := tyX5) dX5_init_8 rfl (by decide) rfl rfl rfl wf5_9 inX5 tyX5_ok nmX5 (by decide +kernel) (fun a => ⟨rfl, rfl⟩) rfl) ?_
  refine tok_cons (snd_aload_n dX5_init_11 rfl rfl) ?_
  refine tok_cons (snd_iconst dX5_init_12 rfl (inr_d rfl) rfl) ?_
  refine tok_cons (snd_newa dX5_init_13 rfl wac_int (Nat.le_of_ble_eq_true rfl) rfl) ?_
  refine tok_cons (snd_pr (ty := (.array .int)) (C := RX5) (T := TX5) (N := 3) (ty0 := tyX5) dX5_init_15 rfl (by decide) rfl rfl rfl wf5_15 inX5 tyX5_ok nmX5 (by decide +kernel) (fun a => ⟨rfl, rfl⟩) rfl) ?_
  refine tok_cons (snd_ret dX5_init_18 rfl) ?_
  exact tok_nil
def tab_0_init (X : XT) : Tab := [(0, false, a_aload 0 1), (1, false, a_oi M_0_init 4), (4, false, a_aload 0 5), (5, false, a_const 20 7), (7, false, a_newa M_0_init false 20 9), (9, false, a_pr 0 2 12), (12, false, a_aload 0 13), (13, false, a_const 21 15), (15, false, a_newa M_0_init false 21 17), (17, false, a_pr 0 3 20), (20, false, a_aload 0 21), (21, false, a_const 20 23), (23, false, a_newa M_0_init false 20 25), (25, false, a_pr 0 4 28), (28, false, a_aload 0 29), (29, false, a_new M_0_init 2 [some none, some none, some none, some none, some none, some none, some none] 32), (32, false, a_dup 33), (33, false, a_ci X M_0_init M_2_init 2 36), (36, false, a_pr 0 5 39), (39, false, a_aload 0 40), (40, false, a_new M_0_init 5 [none, some none, some none] 43), (43, false, a_dup 44), (44, false, a_ci X M_0_init M_5_init 5 47), (47, false, a_pr 0 6 50), (50, false, a_ret M_0_init)]
set_option maxRecDepth 20000 in
theorem t_0_init (X : XT) : tget (tab_0_init X) 0 = some (false, a_aload 0 1) ∧ tget (tab_0_init X) 1 = some (false, a_oi M_0_init 4) ∧ tget (tab_0_init X) 4 = some (false, a_aload 0 5) ∧ tget (tab_0_init X) 5 = some (false, a_const 20 7) ∧ tget (tab_0_init X) 7 = some (false, a_newa M_0_init false 20 9) ∧ tget (tab_0_init X) 9 = some (false, a_pr 0 2 12) ∧ tget (tab_0_init X) 12 = some (false, a_aload 0 13) ∧ tget (tab_0_init X) 13 = some (false, a_const 21 15) ∧ tget (tab_0_init X) 15 = some (false, a_newa M_0_init false 21 17) ∧ tget (tab_0_init X) 17 = some (false, a_pr 0 3 20) ∧ tget (tab_0_init X) 20 = some (false, a_aload 0 21) ∧ tget (tab_0_init X) 21 = some (false, a_const 20 23) ∧ tget (tab_0_init X) 23 = some (false, a_newa M_0_init false 20 25) ∧ tget (tab_0_init X) 25 = some (false, a_pr 0 4 28) ∧ tget (tab_0_init X) 28 = some (false, a_aload 0 29) ∧ tget (tab_0_init X) 29 = some (false, a_new M_0_init 2 [some none, some none, some none, some none, some none, some none, some none] 32) ∧ tget (tab_0_init X) 32 = some (false, a_dup 33) ∧ tget (tab_0_init X) 33 = some (false, a_ci X M_0_init M_2_init 2 36) ∧ tget (tab_0_init X) 36 = some (false, a_pr 0 5 39) ∧ tget (tab_0_init X) 39 = some (false, a_aload 0 40) ∧ tget (tab_0_init X) 40 = some (false, a_new M_0_init 5 [none, some none, some none] 43) ∧ tget (tab_0_init X) 43 = some (false, a_dup 44) ∧ tget (tab_0_init X) 44 = some (false, a_ci X M_0_init M_5_init 5 47) ∧ tget (tab_0_init X) 47 = some (false, a_pr 0 6 50) ∧ tget (tab_0_init X) 50 = some (false, a_ret M_0_init) := ⟨rfl, rfl, rfl, rfl, rfl, rfl, rfl, rfl, rfl, rfl, rfl, rfl, rfl, rfl, rfl, rfl, rfl, rfl, rfl, rfl, rfl, rfl, rfl, rfl, rfl⟩
theorem tok_0_init (X : XT) : TabOK X M_0_init (tab_0_init X) := by
  unfold tab_0_init
  refine tok_cons (snd_aload_n dX0_init_0 rfl rfl) ?_
  refine tok_cons (snd_oi dX0_init_1 wm0_3 w_oi w_oc (by decide) rfl) ?_
  refine tok_cons (snd_aload_n dX0_init_4 rfl rfl) ?_
  refine tok_cons (snd_bipush dX0_init_5 (by decide) (inr_d rfl) rfl) ?_
  refine tok_cons (snd_newa dX0_init_7 rfl wac_int (Nat.le_of_ble_eq_true rfl) rfl) ?_
  refine tok_cons (snd_pr (ty := (.array .int)) (C := RX0) (T := TX0) (N := 7) (ty0 := tyX0) dX0_init_9 rfl (by decide) rfl rfl rfl wf0_9 inX0 tyX0_ok nmX0 (by decide +kernel) (fun a => ⟨rfl, rfl⟩) rfl) ?_
  refine tok_cons (snd_aload_n dX0_init_12 rfl rfl) ?_
  refine tok_cons (snd_bipush dX0_init_13 (by decide) (inr_d rfl) rfl) ?_
  refine tok_cons (snd_newa dX0_init_15 rfl wac_int (Nat.le_of_ble_eq_true rfl) rfl) ?_
  refine tok_cons (snd_pr (ty := (.array .int)) (C := RX0) (T := TX0) (N := 7) (ty0 := tyX0) dX0_init_17 rfl (by decide) rfl rfl rfl wf0_15 inX0 tyX0_ok nmX0 (by decide +kernel) (fun a => ⟨rfl, rfl⟩) rfl) ?_
  refine tok_cons (snd_aload_n dX0_init_20 rfl rfl) ?_
  refine tok_cons (snd_bipush dX0_init_21 (by decide) (inr_d rfl) rfl) ?_
  refine tok_cons (snd_newa dX0_init_23 rfl wac_int (Nat.le_of_ble_eq_true rfl) rfl) ?_
  refine tok_cons (snd_pr (ty := (.array .int)) (C := RX0) (T := TX0) (N := 7) (ty0 := tyX0) dX0_init_25 rfl (by decide) rfl rfl rfl wf0_18 inX0 tyX0_ok nmX0 (by decide +kernel) (fun a => ⟨rfl, rfl⟩) rfl) ?_
  refine tok_cons (snd_aload_n dX0_init_28 rfl rfl) ?_
  refine tok_cons (snd_new (C := RX2) (T := TX2) (N := 7) (ty := tyX2) dX0_init_29 rfl inX2 wcl0_21 wib_2 wn_2 tyX2_ok rfl (fun j hj => by match j, hj with | 0, _ => exact Or.inr ⟨rfl, rfl⟩ | 1, _ => exact Or.inr ⟨rfl, rfl⟩ | 2, _ => exact Or.inr ⟨rfl, rfl⟩ | 3, _ => exact Or.inr ⟨rfl, rfl⟩ | 4, _ => exact Or.inr ⟨rfl, rfl⟩ | 5, _ => exact Or.inr ⟨rfl, rfl⟩ | 6, _ => exact Or.inr ⟨rfl, rfl⟩) rfl) ?_
  refine tok_cons (snd_dup dX0_init_32 rfl) ?_
  refine tok_cons (snd_ci dX0_init_33 mok_2_init rfl ⟨wi_2_init, rfl, Or.inr (List.mem_of_getElem? (i := 7) rfl)⟩ pn_2_init (by decide) rfl) ?_
  refine tok_cons (snd_pr (ty := (.object RX2)) (C := RX0) (T := TX0) (N := 7) (ty0 := tyX0) dX0_init_36 rfl (by decide) rfl rfl rfl wf0_24 inX0 tyX0_ok nmX0 (by decide +kernel) (fun a => ⟨rfl, rfl⟩) rfl) ?_
  refine tok_cons (snd_aload_n dX0_init_39 rfl rfl) ?_
  refine tok_cons (snd_new (C := RX5) (T := TX5) (N := 3) (ty := tyX5) dX0_init_40 rfl inX5 wcl0_28 wib_5 wn_5 tyX5_ok rfl (fun j hj => by match j, hj with | 0, _ => exact Or.inl ⟨rfl, rfl⟩ | 1, _ => exact Or.inr ⟨rfl, rfl⟩ | 2, _ => exact Or.inr ⟨rfl, rfl⟩) rfl) ?_
  refine tok_cons (snd_dup dX0_init_43 rfl) ?_
  refine tok_cons (snd_ci dX0_init_44 mok_5_init rfl ⟨wi_5_init, rfl, Or.inr (List.mem_of_getElem? (i := 8) rfl)⟩ pn_5_init (by decide) rfl) ?_
  refine tok_cons (snd_pr (ty := (.object RX5)) (C := RX0) (T := TX0) (N := 7) (ty0 := tyX0) dX0_init_47 rfl (by decide) rfl rfl rfl wf0_31 inX0 tyX0_ok nmX0 (by decide +kernel) (fun a => ⟨rfl, rfl⟩) rfl) ?_
  refine tok_cons (snd_ret dX0_init_50 rfl) ?_
  exact tok_nil
def tab_1_init (X : XT) : Tab := [(0, false, a_aload 0 1), (1, false, a_oi M_1_init 4), (4, false, a_aload 0 5), (5, false, a_const 4 6), (6, false, a_const 20 8), (8, false, a_mnew M_1_init 4 20 12), (12, false, a_pr 1 1 15), (15, false, a_aload 0 16), (16, false, a_new M_1_init 4 [none, some none] 19), (19, false, a_dup 20), (20, false, a_ci X M_1_init M_4_init 4 23), (23, false, a_pr 1 2 26), (26, false, a_aload 0 27), (27, false, a_new M_1_init 4 [none, some none] 30), (30, false, a_dup 31), (31, false, a_ci X M_1_init M_4_init 4 34), (34, false, a_pr 1 3 37), (37, false, a_aload 0 38), (38, false, a_gst 0 41), (41, false, a_clone M_1_init 44), (44, false, a_cast 47), (47, false, a_pr 1 4 50), (50, false, a_ret M_1_init)]
set_option maxRecDepth 20000 in
theorem t_1_init (X : XT) : tget (tab_1_init X) 0 = some (false, a_aload 0 1) ∧ tget (tab_1_init X) 1 = some (false, a_oi M_1_init 4) ∧ tget (tab_1_init X) 4 = some (false, a_aload 0 5) ∧ tget (tab_1_init X) 5 = some (false, a_const 4 6) ∧ tget (tab_1_init X) 6 = some (false, a_const 20 8) ∧ tget (tab_1_init X) 8 = some (false, a_mnew M_1_init 4 20 12) ∧ tget (tab_1_init X) 12 = some (false, a_pr 1 1 15) ∧ tget (tab_1_init X) 15 = some (false, a_aload 0 16) ∧ tget (tab_1_init X) 16 = some (false, a_new M_1_init 4 [none, some none] 19) ∧ tget (tab_1_init X) 19 = some (false, a_dup 20) ∧ tget (tab_1_init X) 20 = some (false, a_ci X M_1_init M_4_init 4 23) ∧ tget (tab_1_init X) 23 = some (false, a_pr 1 2 26) ∧ tget (tab_1_init X) 26 = some (false, a_aload 0 27) ∧ tget (tab_1_init X) 27 = some (false, a_new M_1_init 4 [none, some none] 30) ∧ tget (tab_1_init X) 30 = some (false, a_dup 31) ∧ tget (tab_1_init X) 31 = some (false, a_ci X M_1_init M_4_init 4 34) ∧ tget (tab_1_init X) 34 = some (false, a_pr 1 3 37) ∧ tget (tab_1_init X) 37 = some (false, a_aload 0 38) ∧ tget (tab_1_init X) 38 = some (false, a_gst 0 41) ∧ tget (tab_1_init X) 41 = some (false, a_clone M_1_init 44) ∧ tget (tab_1_init X) 44 = some (false, a_cast 47) ∧ tget (tab_1_init X) 47 = some (false, a_pr 1 4 50) ∧ tget (tab_1_init X) 50 = some (false, a_ret M_1_init) := ⟨rfl, rfl, rfl, rfl, rfl, rfl, rfl, rfl, rfl, rfl, rfl, rfl, rfl, rfl, rfl, rfl, rfl, rfl, rfl, rfl, rfl, rfl, rfl⟩
theorem tok_1_init (X : XT) : TabOK X M_1_init (tab_1_init X) := by
  unfold tab_1_init
  refine tok_cons (snd_aload_n dX1_init_0 rfl rfl) ?_
  refine tok_cons (snd_oi dX1_init_1 wm1_3 w_oi w_oc (by decide) rfl) ?_
  refine tok_cons (snd_aload_n dX1_init_4 rfl rfl) ?_
  refine tok_cons (snd_iconst dX1_init_5 rfl (inr_d rfl) rfl) ?_
  refine tok_cons (snd_bipush dX1_init_6 (by decide) (inr_d rfl) rfl) ?_
  refine tok_cons (snd_mnew dX1_init_8 wcl1_9 wac_int (Nat.le_of_ble_eq_true rfl) (Nat.le_of_ble_eq_true rfl) rfl) ?_
  refine tok_cons (snd_pr (ty := (.array (.array .int))) (C := RX1) (T := TX1) (N := 5) (ty0 := tyX1) dX1_init_12 rfl (by decide) rfl rfl rfl wf1_11 inX1 tyX1_ok nmX1 (by decide +kernel) (fun a => ⟨rfl, rfl⟩) rfl) ?_
  refine tok_cons (snd_aload_n dX1_init_15 rfl rfl) ?_
  refine tok_cons (snd_new (C := RX4) (T := TX4) (N := 2) (ty := tyX4) dX1_init_16 rfl inX4 wcl1_16 wib_4 wn_4 tyX4_ok rfl (fun j hj => by match j, hj with | 0, _ => exact Or.inl ⟨rfl, rfl⟩ | 1, _ => exact Or.inr ⟨rfl, rfl⟩) rfl) ?_
  refine tok_cons (snd_dup dX1_init_19 rfl) ?_
  refine tok_cons (snd_ci dX1_init_20 mok_4_init rfl ⟨wi_4_init, rfl, Or.inr (List.mem_of_getElem? (i := 1) rfl)⟩ pn_4_init (by decide) rfl) ?_
  refine tok_cons (snd_pr (ty := (.object RX4)) (C := RX1) (T := TX1) (N := 5) (ty0 := tyX1) dX1_init_23 rfl (by decide) rfl rfl rfl wf1_19 inX1 tyX1_ok nmX1 (by decide +kernel) (fun a => ⟨rfl, rfl⟩) rfl) ?_
  refine tok_cons (snd_aload_n dX1_init_26 rfl rfl) ?_
  refine tok_cons (snd_new (C := RX4) (T := TX4) (N := 2) (ty := tyX4) dX1_init_27 rfl inX4 wcl1_16 wib_4 wn_4 tyX4_ok rfl (fun j hj => by match j, hj with | 0, _ => exact Or.inl ⟨rfl, rfl⟩ | 1, _ => exact Or.inr ⟨rfl, rfl⟩) rfl) ?_
  refine tok_cons (snd_dup dX1_init_30 rfl) ?_
  refine tok_cons (snd_ci dX1_init_31 mok_4_init rfl ⟨wi_4_init, rfl, Or.inr (List.mem_of_getElem? (i := 1) rfl)⟩ pn_4_init (by decide) rfl) ?_
  refine tok_cons (snd_pr (ty := (.object RX4)) (C := RX1) (T := TX1) (N := 5) (ty0 := tyX1) dX1_init_34 rfl (by decide) rfl rfl rfl wf1_23 inX1 tyX1_ok nmX1 (by decide +kernel) (fun a => ⟨rfl, rfl⟩) rfl) ?_
  refine tok_cons (snd_aload_n dX1_init_37 rfl rfl) ?_
  refine tok_cons (snd_gstN dX1_init_38 (by decide) rfl (List.mem_of_getElem? (i := 0) rfl) rfl) ?_
  refine tok_cons (snd_clone dX1_init_41 wm1_30 w_same w_natcl w_instcl w_selcl (by decide) rfl) ?_
  refine tok_cons (snd_cast dX1_init_44 wcl1_31 rfl) ?_
  refine tok_cons (snd_pr (ty := (.array .int)) (C := RX1) (T := TX1) (N := 5) (ty0 := tyX1) dX1_init_47 rfl (by decide) rfl rfl rfl wf1_35 inX1 tyX1_ok nmX1 (by decide +kernel) (fun a => ⟨rfl, rfl⟩) rfl) ?_
  refine tok_cons (snd_ret dX1_init_50 rfl) ?_
  exact tok_nil
def tab_6_init (X : XT) : Tab := [(0, false, a_aload 0 1), (1, false, a_oi M_6_init 4), (4, false, a_aload 0 5), (5, false, a_const 0 6), (6, false, a_pi 6 0 0 false 9), (9, false, a_aload 0 10), (10, false, a_const 602 13), (13, false, a_newa M_6_init false 602 15), (15, false, a_pr 6 2 18), (18, false, a_aload 0 19), (19, false, a_const 601 22), (22, false, a_newa M_6_init false 601 24), (24, false, a_pr 6 3 27), (27, false, a_aload 0 28), (28, false, a_const 8 30), (30, false, a_const 600 33), (33, false, a_mnew M_6_init 8 600 37), (37, false, a_pr 6 4 40), (40, false, a_aload 0 41), (41, false, a_const 7 43), (43, false, a_const 1202 46), (46, false, a_mnew M_6_init 7 1202 50), (50, false, a_pr 6 5 53), (53, false, a_aload 0 54), (54, false, a_new M_6_init 2 [some none, some none, some none, some none, some none, some none, some none] 57), (57, false, a_dup 58), (58, false, a_ci X M_6_init M_2_init 2 61), (61, false, a_pr 6 7 64), (64, false, a_aload 0 65), (65, false, a_new M_6_init 2 [some none, some none, some none, some none, some none, some none, some none] 68), (68, false, a_dup 69), (69, false, a_ci X M_6_init M_2_init 2 72), (72, false, a_pr 6 8 75), (75, false, a_aload 0 76), (76, false, a_new M_6_init 5 [none, some none, some none] 79), (79, false, a_dup 80), (80, false, a_ci X M_6_init M_5_init 5 83), (83, false, a_pr 6 9 86), (86, false, a_aload 0 87), (87, false, a_new M_6_init 5 [none, some none, some none] 90), (90, false, a_dup 91), (91, false, a_ci X M_6_init M_5_init 5 94), (94, false, a_pr 6 10 97), (97, false, a_ret M_6_init)]
set_option maxRecDepth 20000 in
theorem t_6_init (X : XT) : tget (tab_6_init X) 0 = some (false, a_aload 0 1) ∧ tget (tab_6_init X) 1 = some (false, a_oi M_6_init 4) ∧ tget (tab_6_init X) 4 = some (false, a_aload 0 5) ∧ tget (tab_6_init X) 5 = some (false, a_const 0 6) ∧ tget (tab_6_init X) 6 = some (false, a_pi 6 0 0 false 9) ∧ tget (tab_6_init X) 9 = some (false, a_aload 0 10) ∧ tget (tab_6_init X) 10 = some (false, a_const 602 13) ∧ tget (tab_6_init X) 13 = some (false, a_newa M_6_init false 602 15) ∧ tget (tab_6_init X) 15 = some (false, a_pr 6 2 18) ∧ tget (tab_6_init X) 18 = some (false, a_aload 0 19) ∧ tget (tab_6_init X) 19 = some (false, a_const 601 22) ∧ tget (tab_6_init X) 22 = some (false, a_newa M_6_init false 601 24) ∧ tget (tab_6_init X) 24 = some (false, a_pr 6 3 27) ∧ tget (tab_6_init X) 27 = some (false, a_aload 0 28) ∧ tget (tab_6_init X) 28 = some (false, a_const 8 30) ∧ tget (tab_6_init X) 30 = some (false, a_const 600 33) ∧ tget (tab_6_init X) 33 = some (false, a_mnew M_6_init 8 600 37) ∧ tget (tab_6_init X) 37 = some (false, a_pr 6 4 40) ∧ tget (tab_6_init X) 40 = some (false, a_aload 0 41) ∧ tget (tab_6_init X) 41 = some (false, a_const 7 43) ∧ tget (tab_6_init X) 43 = some (false, a_const 1202 46) ∧ tget (tab_6_init X) 46 = some (false, a_mnew M_6_init 7 1202 50) ∧ tget (tab_6_init X) 50 = some (false, a_pr 6 5 53) ∧ tget (tab_6_init X) 53 = some (false, a_aload 0 54) ∧ tget (tab_6_init X) 54 = some (false, a_new M_6_init 2 [some none, some none, some none, some none, some none, some none, some none] 57) ∧ tget (tab_6_init X) 57 = some (false, a_dup 58) ∧ tget (tab_6_init X) 58 = some (false, a_ci X M_6_init M_2_init 2 61) ∧ tget (tab_6_init X) 61 = some (false, a_pr 6 7 64) ∧ tget (tab_6_init X) 64 = some (false, a_aload 0 65) ∧ tget (tab_6_init X) 65 = some (false, a_new M_6_init 2 [some none, some none, some none, some none, some none, some none, some none] 68) ∧ tget (tab_6_init X) 68 = some (false, a_dup 69) ∧ tget (tab_6_init X) 69 = some (false, a_ci X M_6_init M_2_init 2 72) ∧ tget (tab_6_init X) 72 = some (false, a_pr 6 8 75) ∧ tget (tab_6_init X) 75 = some (false, a_aload 0 76) ∧ tget (tab_6_init X) 76 = some (false, a_new M_6_init 5 [none, some none, some none] 79) ∧ tget (tab_6_init X) 79 = some (false, a_dup 80) ∧ tget (tab_6_init X) 80 = some (false, a_ci X M_6_init M_5_init 5 83) ∧ tget (tab_6_init X) 83 = some (false, a_pr 6 9 86) ∧ tget (tab_6_init X) 86 = some (false, a_aload 0 87) ∧ tget (tab_6_init X) 87 = some (false, a_new M_6_init 5 [none, some none, some none] 90) ∧ tget (tab_6_init X) 90 = some (false, a_dup 91) ∧ tget (tab_6_init X) 91 = some (false, a_ci X M_6_init M_5_init 5 94) ∧ tget (tab_6_init X) 94 = some (false, a_pr 6 10 97) ∧ tget (tab_6_init X) 97 = some (false, a_ret M_6_init) := ⟨rfl, rfl, rfl, rfl, rfl, rfl, rfl, rfl, rfl, rfl, rfl, rfl, rfl, rfl, rfl, rfl, rfl, rfl, rfl, rfl, rfl, rfl, rfl, rfl, rfl, rfl, rfl, rfl, rfl, rfl, rfl, rfl, rfl, rfl, rfl, rfl, rfl, rfl, rfl, rfl, rfl, rfl, rfl, rfl⟩
theorem tok_6_init (X : XT) : TabOK X M_6_init (tab_6_init X) := by
  unfold tab_6_init
  refine tok_cons (snd_aload_n dX6_init_0 rfl rfl) ?_
  refine tok_cons (snd_oi dX6_init_1 wm6_3 w_oi w_oc (by decide) rfl) ?_
  refine tok_cons (snd_aload_n dX6_init_4 rfl rfl) ?_
  refine tok_cons (snd_iconst dX6_init_5 rfl (inr_d rfl) rfl) ?_
  refine tok_cons (snd_pi (C := RX6) (T := TX6) (N := 11) (ty0 := tyX6) dX6_init_6 rfl (by decide) rfl wf6_11 inX6 tyX6_ok nmX6 (by decide +kernel) rfl rfl) ?_
  refine tok_cons (snd_aload_n dX6_init_9 rfl rfl) ?_
  refine tok_cons (snd_sipush dX6_init_10 (by decide) (inr_d rfl) rfl) ?_
  refine tok_cons (snd_newa dX6_init_13 rfl wac_int (Nat.le_of_ble_eq_true rfl) rfl) ?_
  refine tok_cons (snd_pr (ty := (.array .int)) (C := RX6) (T := TX6) (N := 11) (ty0 := tyX6) dX6_init_15 rfl (by decide) rfl rfl rfl wf6_15 inX6 tyX6_ok nmX6 (by decide +kernel) (fun a => ⟨rfl, rfl⟩) rfl) ?_
  refine tok_cons (snd_aload_n dX6_init_18 rfl rfl) ?_
  refine tok_cons (snd_sipush dX6_init_19 (by decide) (inr_d rfl) rfl) ?_
  refine tok_cons (snd_newa dX6_init_22 rfl wac_int (Nat.le_of_ble_eq_true rfl) rfl) ?_
  refine tok_cons (snd_pr (ty := (.array .int)) (C := RX6) (T := TX6) (N := 11) (ty0 := tyX6) dX6_init_24 rfl (by decide) rfl rfl rfl wf6_19 inX6 tyX6_ok nmX6 (by decide +kernel) (fun a => ⟨rfl, rfl⟩) rfl) ?_
  refine tok_cons (snd_aload_n dX6_init_27 rfl rfl) ?_
  refine tok_cons (snd_bipush dX6_init_28 (by decide) (inr_d rfl) rfl) ?_
  refine tok_cons (snd_sipush dX6_init_30 (by decide) (inr_d rfl) rfl) ?_
  refine tok_cons (snd_mnew dX6_init_33 wcl6_22 wac_int (Nat.le_of_ble_eq_true rfl) (Nat.le_of_ble_eq_true rfl) rfl) ?_
  refine tok_cons (snd_pr (ty := (.array (.array .int))) (C := RX6) (T := TX6) (N := 11) (ty0 := tyX6) dX6_init_37 rfl (by decide) rfl rfl rfl wf6_24 inX6 tyX6_ok nmX6 (by decide +kernel) (fun a => ⟨rfl, rfl⟩) rfl) ?_
  refine tok_cons (snd_aload_n dX6_init_40 rfl rfl) ?_
  refine tok_cons (snd_bipush dX6_init_41 (by decide) (inr_d rfl) rfl) ?_
  refine tok_cons (snd_sipush dX6_init_43 (by decide) (inr_d rfl) rfl) ?_
  refine tok_cons (snd_mnew dX6_init_46 wcl6_22 wac_int (Nat.le_of_ble_eq_true rfl) (Nat.le_of_ble_eq_true rfl) rfl) ?_
  refine tok_cons (snd_pr (ty := (.array (.array .int))) (C := RX6) (T := TX6) (N := 11) (ty0 := tyX6) dX6_init_50 rfl (by decide) rfl rfl rfl wf6_27 inX6 tyX6_ok nmX6 (by decide +kernel) (fun a => ⟨rfl, rfl⟩) rfl) ?_
  refine tok_cons (snd_aload_n dX6_init_53 rfl rfl) ?_
  refine tok_cons (snd_new (C := RX2) (T := TX2) (N := 7) (ty := tyX2) dX6_init_54 rfl inX2 wcl6_30 wib_2 wn_2 tyX2_ok rfl (fun j hj => by match j, hj with | 0, _ => exact Or.inr ⟨rfl, rfl⟩ | 1, _ => exact Or.inr ⟨rfl, rfl⟩ | 2, _ => exact Or.inr ⟨rfl, rfl⟩ | 3, _ => exact Or.inr ⟨rfl, rfl⟩ | 4, _ => exact Or.inr ⟨rfl, rfl⟩ | 5, _ => exact Or.inr ⟨rfl, rfl⟩ | 6, _ => exact Or.inr ⟨rfl, rfl⟩) rfl) ?_
  refine tok_cons (snd_dup dX6_init_57 rfl) ?_
  refine tok_cons (snd_ci dX6_init_58 mok_2_init rfl ⟨wi_2_init, rfl, Or.inr (List.mem_of_getElem? (i := 4) rfl)⟩ pn_2_init (by decide) rfl) ?_
  refine tok_cons (snd_pr (ty := (.object RX2)) (C := RX6) (T := TX6) (N := 11) (ty0 := tyX6) dX6_init_61 rfl (by decide) rfl rfl rfl wf6_33 inX6 tyX6_ok nmX6 (by decide +kernel) (fun a => ⟨rfl, rfl⟩) rfl) ?_
  refine tok_cons (snd_aload_n dX6_init_64 rfl rfl) ?_
  refine tok_cons (snd_new (C := RX2) (T := TX2) (N := 7) (ty := tyX2) dX6_init_65 rfl inX2 wcl6_30 wib_2 wn_2 tyX2_ok rfl (fun j hj => by match j, hj with | 0, _ => exact Or.inr ⟨rfl, rfl⟩ | 1, _ => exact Or.inr ⟨rfl, rfl⟩ | 2, _ => exact Or.inr ⟨rfl, rfl⟩ | 3, _ => exact Or.inr ⟨rfl, rfl⟩ | 4, _ => exact Or.inr ⟨rfl, rfl⟩ | 5, _ => exact Or.inr ⟨rfl, rfl⟩ | 6, _ => exact Or.inr ⟨rfl, rfl⟩) rfl) ?_
  refine tok_cons (snd_dup dX6_init_68 rfl) ?_
  refine tok_cons (snd_ci dX6_init_69 mok_2_init rfl ⟨wi_2_init, rfl, Or.inr (List.mem_of_getElem? (i := 4) rfl)⟩ pn_2_init (by decide) rfl) ?_
  refine tok_cons (snd_pr (ty := (.object RX2)) (C := RX6) (T := TX6) (N := 11) (ty0 := tyX6) dX6_init_72 rfl (by decide) rfl rfl rfl wf6_37 inX6 tyX6_ok nmX6 (by decide +kernel) (fun a => ⟨rfl, rfl⟩) rfl) ?_
  refine tok_cons (snd_aload_n dX6_init_75 rfl rfl) ?_
  refine tok_cons (snd_new (C := RX5) (T := TX5) (N := 3) (ty := tyX5) dX6_init_76 rfl inX5 wcl6_40 wib_5 wn_5 tyX5_ok rfl (fun j hj => by match j, hj with | 0, _ => exact Or.inl ⟨rfl, rfl⟩ | 1, _ => exact Or.inr ⟨rfl, rfl⟩ | 2, _ => exact Or.inr ⟨rfl, rfl⟩) rfl) ?_
  refine tok_cons (snd_dup dX6_init_79 rfl) ?_
  refine tok_cons (snd_ci dX6_init_80 mok_5_init rfl ⟨wi_5_init, rfl, Or.inr (List.mem_of_getElem? (i := 5) rfl)⟩ pn_5_init (by decide) rfl) ?_
  refine tok_cons (snd_pr (ty := (.object RX5)) (C := RX6) (T := TX6) (N := 11) (ty0 := tyX6) dX6_init_83 rfl (by decide) rfl rfl rfl wf6_43 inX6 tyX6_ok nmX6 (by decide +kernel) (fun a => ⟨rfl, rfl⟩) rfl) ?_
  refine tok_cons (snd_aload_n dX6_init_86 rfl rfl) ?_
  refine tok_cons (snd_new (C := RX5) (T := TX5) (N := 3) (ty := tyX5) dX6_init_87 rfl inX5 wcl6_40 wib_5 wn_5 tyX5_ok rfl (fun j hj => by match j, hj with | 0, _ => exact Or.inl ⟨rfl, rfl⟩ | 1, _ => exact Or.inr ⟨rfl, rfl⟩ | 2, _ => exact Or.inr ⟨rfl, rfl⟩) rfl) ?_
  refine tok_cons (snd_dup dX6_init_90 rfl) ?_
  refine tok_cons (snd_ci dX6_init_91 mok_5_init rfl ⟨wi_5_init, rfl, Or.inr (List.mem_of_getElem? (i := 5) rfl)⟩ pn_5_init (by decide) rfl) ?_
  refine tok_cons (snd_pr (ty := (.object RX5)) (C := RX6) (T := TX6) (N := 11) (ty0 := tyX6) dX6_init_94 rfl (by decide) rfl rfl rfl wf6_47 inX6 tyX6_ok nmX6 (by decide +kernel) (fun a => ⟨rfl, rfl⟩) rfl) ?_
  refine tok_cons (snd_ret dX6_init_97 rfl) ?_
  exact tok_nil
def tab_3_init (X : XT) : Tab := [(0, false, a_aload 0 1), (1, false, a_oi M_3_init 4), (4, false, a_aload 0 5), (5, false, a_const 6 7), (7, false, a_anew M_3_init 6 10), (10, false, a_pr 3 2 13), (13, false, a_const 0 14), (14, false, a_istore 1 15), (15, false, a_iload 1 16), (16, false, a_const 6 18), (18, false, a_icmp 3 40 21), (21, false, a_aload 0 22), (22, false, a_gr 3 2 25), (25, false, a_iload 1 26), (26, false, a_new M_3_init 1 [none, some none, some none, some none, some none] 29), (29, false, a_dup 30), (30, false, a_ci X M_3_init M_1_init 1 33), (33, false, a_astq 34), (34, false, a_iinc 1 1 37), (37, false, a_goto 15), (40, false, a_ret M_3_init)]
set_option maxRecDepth 20000 in
theorem t_3_init (X : XT) : tget (tab_3_init X) 0 = some (false, a_aload 0 1) ∧ tget (tab_3_init X) 1 = some (false, a_oi M_3_init 4) ∧ tget (tab_3_init X) 4 = some (false, a_aload 0 5) ∧ tget (tab_3_init X) 5 = some (false, a_const 6 7) ∧ tget (tab_3_init X) 7 = some (false, a_anew M_3_init 6 10) ∧ tget (tab_3_init X) 10 = some (false, a_pr 3 2 13) ∧ tget (tab_3_init X) 13 = some (false, a_const 0 14) ∧ tget (tab_3_init X) 14 = some (false, a_istore 1 15) ∧ tget (tab_3_init X) 15 = some (false, a_iload 1 16) ∧ tget (tab_3_init X) 16 = some (false, a_const 6 18) ∧ tget (tab_3_init X) 18 = some (false, a_icmp 3 40 21) ∧ tget (tab_3_init X) 21 = some (false, a_aload 0 22) ∧ tget (tab_3_init X) 22 = some (false, a_gr 3 2 25) ∧ tget (tab_3_init X) 25 = some (false, a_iload 1 26) ∧ tget (tab_3_init X) 26 = some (false, a_new M_3_init 1 [none, some none, some none, some none, some none] 29) ∧ tget (tab_3_init X) 29 = some (false, a_dup 30) ∧ tget (tab_3_init X) 30 = some (false, a_ci X M_3_init M_1_init 1 33) ∧ tget (tab_3_init X) 33 = some (false, a_astq 34) ∧ tget (tab_3_init X) 34 = some (false, a_iinc 1 1 37) ∧ tget (tab_3_init X) 37 = some (false, a_goto 15) ∧ tget (tab_3_init X) 40 = some (false, a_ret M_3_init) := ⟨rfl, rfl, rfl, rfl, rfl, rfl, rfl, rfl, rfl, rfl, rfl, rfl, rfl, rfl, rfl, rfl, rfl, rfl, rfl, rfl, rfl⟩
theorem tok_3_init (X : XT) : TabOK X M_3_init (tab_3_init X) := by
  unfold tab_3_init
  refine tok_cons (snd_aload_n dX3_init_0 rfl rfl) ?_
  refine tok_cons (snd_oi dX3_init_1 wm3_3 w_oi w_oc (by decide) rfl) ?_
  refine tok_cons (snd_aload_n dX3_init_4 rfl rfl) ?_
  refine tok_cons (snd_bipush dX3_init_5 (by decide) (inr_d rfl) rfl) ?_
  refine tok_cons (snd_anew dX3_init_7 wcl3_9 (Nat.le_of_ble_eq_true rfl) rfl) ?_
  refine tok_cons (snd_pr (ty := (.array (.object RX1))) (C := RX3) (T := TX3) (N := 3) (ty0 := tyX3) dX3_init_10 rfl (by decide) rfl rfl rfl wf3_11 inX3 tyX3_ok nmX3 (by decide +kernel) (fun a => ⟨rfl, rfl⟩) rfl) ?_
  refine tok_cons (snd_iconst dX3_init_13 rfl (inr_d rfl) rfl) ?_
  refine tok_cons (snd_istore_n dX3_init_14 rfl rfl (by decide)) ?_
  refine tok_cons (snd_iload_n dX3_init_15 rfl rfl) ?_
  refine tok_cons (snd_bipush dX3_init_16 (by decide) (inr_d rfl) rfl) ?_
  refine tok_cons (snd_icmp_ge dX3_init_18 (by decide) rfl) ?_
  refine tok_cons (snd_aload_n dX3_init_21 rfl rfl) ?_
  refine tok_cons (snd_gr (C := RX3) (T := TX3) (N := 3) dX3_init_22 rfl (by decide) rfl wf3_11 inX3 rfl) ?_
  refine tok_cons (snd_iload_n dX3_init_25 rfl rfl) ?_
  refine tok_cons (snd_new (C := RX1) (T := TX1) (N := 5) (ty := tyX1) dX3_init_26 rfl inX1 wcl3_9 wib_1 wn_1 tyX1_ok rfl (fun j hj => by match j, hj with | 0, _ => exact Or.inl ⟨rfl, rfl⟩ | 1, _ => exact Or.inr ⟨rfl, rfl⟩ | 2, _ => exact Or.inr ⟨rfl, rfl⟩ | 3, _ => exact Or.inr ⟨rfl, rfl⟩ | 4, _ => exact Or.inr ⟨rfl, rfl⟩) rfl) ?_
  refine tok_cons (snd_dup dX3_init_29 rfl) ?_
  refine tok_cons (snd_ci dX3_init_30 mok_1_init rfl ⟨wi_1_init, rfl, Or.inr (List.mem_of_getElem? (i := 2) rfl)⟩ pn_1_init (by decide) rfl) ?_
  refine tok_cons (snd_astq dX3_init_33 rfl) ?_
  refine tok_cons (snd_iinc dX3_init_34 rfl rfl (by decide)) ?_
  refine tok_cons (snd_goto dX3_init_37 (by decide)) ?_
  refine tok_cons (snd_ret dX3_init_40 rfl) ?_
  exact tok_nil
def tab_7_init (X : XT) : Tab := [(0, false, a_aload 0 1), (1, false, a_oi M_7_init 4), (4, false, a_aload 0 5), (5, false, a_new M_7_init 1 [none, some none, some none, some none, some none] 8), (8, false, a_dup 9), (9, false, a_ci X M_7_init M_1_init 1 12), (12, false, a_pr 7 0 15), (15, false, a_aload 0 16), (16, false, a_new M_7_init 3 [none, none, some none] 19), (19, false, a_dup 20), (20, false, a_ci X M_7_init M_3_init 3 23), (23, false, a_pr 7 1 26), (26, false, a_aload 0 27), (27, false, a_new M_7_init 6 [none, none, some none, some none, some none, some none, none, some none, some none, some none, some none] 30), (30, false, a_dup 31), (31, false, a_ci X M_7_init M_6_init 6 34), (34, false, a_pr 7 2 37), (37, false, a_aload 0 38), (38, false, a_new M_7_init 0 [none, none, some none, some none, some none, some none, some none] 41), (41, false, a_dup 42), (42, false, a_ci X M_7_init M_0_init 0 45), (45, false, a_pr 7 3 48), (48, false, a_ret M_7_init)]
set_option maxRecDepth 20000 in
theorem t_7_init (X : XT) : tget (tab_7_init X) 0 = some (false, a_aload 0 1) ∧ tget (tab_7_init X) 1 = some (false, a_oi M_7_init 4) ∧ tget (tab_7_init X) 4 = some (false, a_aload 0 5) ∧ tget (tab_7_init X) 5 = some (false, a_new M_7_init 1 [none, some none, some none, some none, some none] 8) ∧ tget (tab_7_init X) 8 = some (false, a_dup 9) ∧ tget (tab_7_init X) 9 = some (false, a_ci X M_7_init M_1_init 1 12) ∧ tget (tab_7_init X) 12 = some (false, a_pr 7 0 15) ∧ tget (tab_7_init X) 15 = some (false, a_aload 0 16) ∧ tget (tab_7_init X) 16 = some (false, a_new M_7_init 3 [none, none, some none] 19) ∧ tget (tab_7_init X) 19 = some (false, a_dup 20) ∧ tget (tab_7_init X) 20 = some (false, a_ci X M_7_init M_3_init 3 23) ∧ tget (tab_7_init X) 23 = some (false, a_pr 7 1 26) ∧ tget (tab_7_init X) 26 = some (false, a_aload 0 27) ∧ tget (tab_7_init X) 27 = some (false, a_new M_7_init 6 [none, none, some none, some none, some none, some none, none, some none, some none, some none, some none] 30) ∧ tget (tab_7_init X) 30 = some (false, a_dup 31) ∧ tget (tab_7_init X) 31 = some (false, a_ci X M_7_init M_6_init 6 34) ∧ tget (tab_7_init X) 34 = some (false, a_pr 7 2 37) ∧ tget (tab_7_init X) 37 = some (false, a_aload 0 38) ∧ tget (tab_7_init X) 38 = some (false, a_new M_7_init 0 [none, none, some none, some none, some none, some none, some none] 41) ∧ tget (tab_7_init X) 41 = some (false, a_dup 42) ∧ tget (tab_7_init X) 42 = some (false, a_ci X M_7_init M_0_init 0 45) ∧ tget (tab_7_init X) 45 = some (false, a_pr 7 3 48) ∧ tget (tab_7_init X) 48 = some (false, a_ret M_7_init) := ⟨rfl, rfl, rfl, rfl, rfl, rfl, rfl, rfl, rfl, rfl, rfl, rfl, rfl, rfl, rfl, rfl, rfl, rfl, rfl, rfl, rfl, rfl, rfl⟩
theorem tok_7_init (X : XT) : TabOK X M_7_init (tab_7_init X) := by
  unfold tab_7_init
  refine tok_cons (snd_aload_n dX7_init_0 rfl rfl) ?_
  refine tok_cons (snd_oi dX7_init_1 wm7_1 w_oi w_oc (by decide) rfl) ?_
  refine tok_cons (snd_aload_n dX7_init_4 rfl rfl) ?_
  refine tok_cons (snd_new (C := RX1) (T := TX1) (N := 5) (ty := tyX1) dX7_init_5 rfl inX1 wcl7_7 wib_1 wn_1 tyX1_ok rfl (fun j hj => by match j, hj with | 0, _ => exact Or.inl ⟨rfl, rfl⟩ | 1, _ => exact Or.inr ⟨rfl, rfl⟩ | 2, _ => exact Or.inr ⟨rfl, rfl⟩ | 3, _ => exact Or.inr ⟨rfl, rfl⟩ | 4, _ => exact Or.inr ⟨rfl, rfl⟩) rfl) ?_
  refine tok_cons (snd_dup dX7_init_8 rfl) ?_
  refine tok_cons (snd_ci dX7_init_9 mok_1_init rfl ⟨wi_1_init, rfl, Or.inr (List.mem_of_getElem? (i := 0) rfl)⟩ pn_1_init (by decide) rfl) ?_
  refine tok_cons (snd_pr (ty := (.object RX1)) (C := RX7) (T := TX7) (N := 4) (ty0 := tyX7) dX7_init_12 rfl (by decide) rfl rfl rfl wf7_10 inX7 tyX7_ok nmX7 (by decide +kernel) (fun a => ⟨rfl, rfl⟩) rfl) ?_
  refine tok_cons (snd_aload_n dX7_init_15 rfl rfl) ?_
  refine tok_cons (snd_new (C := RX3) (T := TX3) (N := 3) (ty := tyX3) dX7_init_16 rfl inX3 wcl7_16 wib_3 wn_3 tyX3_ok rfl (fun j hj => by match j, hj with | 0, _ => exact Or.inl ⟨rfl, rfl⟩ | 1, _ => exact Or.inl ⟨rfl, rfl⟩ | 2, _ => exact Or.inr ⟨rfl, rfl⟩) rfl) ?_
  refine tok_cons (snd_dup dX7_init_19 rfl) ?_
  refine tok_cons (snd_ci dX7_init_20 mok_3_init rfl ⟨wi_3_init, rfl, Or.inl wm7_18⟩ pn_3_init (by decide) rfl) ?_
  refine tok_cons (snd_pr (ty := (.object RX3)) (C := RX7) (T := TX7) (N := 4) (ty0 := tyX7) dX7_init_23 rfl (by decide) rfl rfl rfl wf7_19 inX7 tyX7_ok nmX7 (by decide +kernel) (fun a => ⟨rfl, rfl⟩) rfl) ?_
  refine tok_cons (snd_aload_n dX7_init_26 rfl rfl) ?_
  refine tok_cons (snd_new (C := RX6) (T := TX6) (N := 11) (ty := tyX6) dX7_init_27 rfl inX6 wcl7_23 wib_6 wn_6 tyX6_ok rfl (fun j hj => by match j, hj with | 0, _ => exact Or.inl ⟨rfl, rfl⟩ | 1, _ => exact Or.inl ⟨rfl, rfl⟩ | 2, _ => exact Or.inr ⟨rfl, rfl⟩ | 3, _ => exact Or.inr ⟨rfl, rfl⟩ | 4, _ => exact Or.inr ⟨rfl, rfl⟩ | 5, _ => exact Or.inr ⟨rfl, rfl⟩ | 6, _ => exact Or.inl ⟨rfl, rfl⟩ | 7, _ => exact Or.inr ⟨rfl, rfl⟩ | 8, _ => exact Or.inr ⟨rfl, rfl⟩ | 9, _ => exact Or.inr ⟨rfl, rfl⟩ | 10, _ => exact Or.inr ⟨rfl, rfl⟩) rfl) ?_
  refine tok_cons (snd_dup dX7_init_30 rfl) ?_
  refine tok_cons (snd_ci dX7_init_31 mok_6_init rfl ⟨wi_6_init, rfl, Or.inr (List.mem_of_getElem? (i := 3) rfl)⟩ pn_6_init (by decide) rfl) ?_
  refine tok_cons (snd_pr (ty := (.object RX6)) (C := RX7) (T := TX7) (N := 4) (ty0 := tyX7) dX7_init_34 rfl (by decide) rfl rfl rfl wf7_26 inX7 tyX7_ok nmX7 (by decide +kernel) (fun a => ⟨rfl, rfl⟩) rfl) ?_
  refine tok_cons (snd_aload_n dX7_init_37 rfl rfl) ?_
  refine tok_cons (snd_new (C := RX0) (T := TX0) (N := 7) (ty := tyX0) dX7_init_38 rfl inX0 wcl7_30 wib_0 wn_0 tyX0_ok rfl (fun j hj => by match j, hj with | 0, _ => exact Or.inl ⟨rfl, rfl⟩ | 1, _ => exact Or.inl ⟨rfl, rfl⟩ | 2, _ => exact Or.inr ⟨rfl, rfl⟩ | 3, _ => exact Or.inr ⟨rfl, rfl⟩ | 4, _ => exact Or.inr ⟨rfl, rfl⟩ | 5, _ => exact Or.inr ⟨rfl, rfl⟩ | 6, _ => exact Or.inr ⟨rfl, rfl⟩) rfl) ?_
  refine tok_cons (snd_dup dX7_init_41 rfl) ?_
  refine tok_cons (snd_ci dX7_init_42 mok_0_init rfl ⟨wi_0_init, rfl, Or.inr (List.mem_of_getElem? (i := 6) rfl)⟩ pn_0_init (by decide) rfl) ?_
  refine tok_cons (snd_pr (ty := (.object RX0)) (C := RX7) (T := TX7) (N := 4) (ty0 := tyX7) dX7_init_45 rfl (by decide) rfl rfl rfl wf7_33 inX7 tyX7_ok nmX7 (by decide +kernel) (fun a => ⟨rfl, rfl⟩) rfl) ?_
  refine tok_cons (snd_ret dX7_init_48 rfl) ?_
  exact tok_nil
