/-! ===== the law's start ===== -/
theorem iv_start {σ : Sto} (a1 : σ 1 0 = 0) (a2 : σ 7 0 = 0) (a3 : σ 12 0 = 0) (a4 : ∀ j, σ 17 j = st_v 0 j) (a5 : ∀ j, σ 18 j = 0) (a6 : σ 122 0 = 0) (a7 : σ 123 0 = 0) (a8 : σ 164 0 = 0) (b1 : σ 179 2 = 0) (b2 : ∀ j, σ 180 j = mD j) (b3 : ∀ j, 0 ≤ j → j ≤ 5 → σ 182 j = st_v 1 j ∧ σ 183 j = st_v 2 j) : Iv σ := by
  have s0 : st_v 0 0 = 20 ∧ st_v 0 1 = 1 ∧ st_v 0 2 = 1 ∧ st_v 0 3 = 2 ∧ st_v 0 4 = 3 ∧ st_v 0 5 = 0 := ⟨rfl, rfl, rfl, rfl, rfl, rfl⟩
  have hE : EdOK σ := by
    refine ⟨by omega, fun p p0 p1 => by omega, ⟨by omega, fun i j i0 ij jn => by omega⟩, ⟨by omega, fun i j i0 ij jn => by omega⟩, fun k k0 k1 => by omega, fun k k0 k1 => by omega, by omega, ?_⟩
    unfold StK
    rw [a4 0, a4 1, a4 2, a4 3, a4 4, a4 5]
    omega
  refine ⟨σ, ⟨fun _ _ _ => rfl, hE, a7, fun q => absurd a6 q⟩, ⟨by rw [a5 0]; omega, by rw [a5 1]; omega, by rw [a5 1]; omega⟩, ⟨Or.inl a8, fun q => by omega⟩, ?_, b3, ⟨by rw [b1, a5 0], fun i i0 i1 => by rw [a5 0] at i1; omega⟩⟩
  refine ⟨by rw [b2, a1]; rfl, fun r p r0 r1 p0 p1 => by omega, ⟨by rw [b2, a4 0]; exact s0.1.symm ▸ rfl, fun j j0 j1 => ?_⟩, fun s hs => ?_, fun j j0 j1 => ?_⟩
  · rw [b2, a4 j]
    rcases (show j = 1 ∨ j = 2 ∨ j = 3 ∨ j = 4 ∨ j = 5 by omega) with e | e | e | e | e <;> subst e <;> rfl
  · rcases hs with rfl | rfl
    · exact ⟨by rw [b2]; exact a2.symm ▸ rfl, fun k k0 k1 => absurd k1 (by rw [show nbS 0 = 7 from rfl, a2]; omega)⟩
    · exact ⟨by rw [b2]; exact a3.symm ▸ rfl, fun k k0 k1 => absurd k1 (by rw [show nbS 1 = 12 from rfl, a3]; omega)⟩
  · rw [b2]
    unfold mD
    split <;> (try split) <;> (try split) <;> (try split) <;> (try split) <;> omega
theorem GC_len : GC.length = 179 := by decide +kernel
theorem GM_len : GM.length = 18 := by decide +kernel
theorem gG {l : List Sh} : (GC ++ l)[179]? = l[0]? := gP0 (P := GC)
theorem cshG : CSh (GC ++ GM) := fun i hi => List.getElem?_append_left (by rw [GC_len]; exact hi)
theorem mshG : MSh (GC ++ GM) := fun i hi => gP (P := GC) (k := i)
set_option maxRecDepth 40000 in
set_option maxHeartbeats 4000000 in
theorem law_all {X : XT} {σ : Sto} (hX : xs X 7 ≤ 2560) : WPc X M_L_law LQ 0 [some (.inr 100006), none, none, none] [] ([], 0, 0) σ := by
  refine blk_wp (tok_L_law X) 1000 _ _ _ _ _ ?_
  simp (maxSteps := 4000000) only [blk_s, blk_z, a_const, a_iload, a_aload, a_istore, a_astore, a_iinc, a_add, a_sub, a_mul, a_div, a_rem, a_dup, a_dup2, a_goto, a_ifnull, a_tsw, a_gi, a_gr, a_pi, a_ald, a_sld, a_ast, a_aald, a_len, a_gst, a_copy, a_max, a_min, a_iret, a_zret, a_aret, a_ret, a_cv, a_cn, a_sv, a_sn, icmp_t, icmp_f, aif_t, aif_f, lget, lset, fget, rget, apop, isO, Kv, Kn, fitb0, cmp, swl, InR, up, cpy, ↓reduceIte, if_true, if_false, Nat.left_eq_add, Nat.add_eq_left, Nat.add_left_cancel_iff, Nat.reduceEqDiff, Nat.zero_le, true_and, and_true, true_or, or_true, or_self, not_true_eq_false, not_false_eq_true, false_and, and_false, false_implies, true_implies, forall_const, ne_eq, Decidable.not_not, List.length_cons, List.length_nil, reduceCtorEq, Int.toNat_zero, Int.toNat_one, Int.cast_ofNat_Int, Nat.reduceAdd, Nat.reduceSub, Nat.reduceMul, Nat.reduceLT, Nat.reduceLeDiff, Nat.reduceEqDiff, Int.reduceAdd, Int.reduceSub, Int.reduceMul, Int.reduceNeg, Int.reduceLT, Int.reduceLE, Int.reduceEq, Int.reduceNe, Int.reduceToNat, t_L_law X, a_new, a_newa, a_anew, a_pr, a_oi, a_ci, a_mnew, a_clone, a_cast, a_astq, shp_d, gP, gP0, sP, sP0, rows3, rows4, rows7, rows8, List.replicate_succ, List.replicate_zero, List.append_assoc, List.cons_append, List.nil_append, List.length_append, List.set_cons_zero, List.set_cons_succ, List.getElem?_cons_zero, List.getElem?_cons_succ, Nat.add_assoc, Nat.zero_add, Nat.add_zero, fitb, mcI, Option.some.injEq, exists_eq, exists_eq', some_ex, some_ex0, mcL]
  repeat (simp only [icmp_b, aif_b, cmp]; simp (maxSteps := 4000000) only [blk_s, blk_z, a_const, a_iload, a_aload, a_istore, a_astore, a_iinc, a_add, a_sub, a_mul, a_div, a_rem, a_dup, a_dup2, a_goto, a_ifnull, a_tsw, a_gi, a_gr, a_pi, a_ald, a_sld, a_ast, a_aald, a_len, a_gst, a_copy, a_max, a_min, a_iret, a_zret, a_aret, a_ret, a_cv, a_cn, a_sv, a_sn, icmp_t, icmp_f, aif_t, aif_f, lget, lset, fget, rget, apop, isO, Kv, Kn, fitb0, cmp, swl, InR, up, cpy, ↓reduceIte, if_true, if_false, Nat.left_eq_add, Nat.add_eq_left, Nat.add_left_cancel_iff, Nat.reduceEqDiff, Nat.zero_le, true_and, and_true, true_or, or_true, or_self, not_true_eq_false, not_false_eq_true, false_and, and_false, false_implies, true_implies, forall_const, ne_eq, Decidable.not_not, List.length_cons, List.length_nil, reduceCtorEq, Int.toNat_zero, Int.toNat_one, Int.cast_ofNat_Int, Nat.reduceAdd, Nat.reduceSub, Nat.reduceMul, Nat.reduceLT, Nat.reduceLeDiff, Nat.reduceEqDiff, Int.reduceAdd, Int.reduceSub, Int.reduceMul, Int.reduceNeg, Int.reduceLT, Int.reduceLE, Int.reduceEq, Int.reduceNe, Int.reduceToNat, t_L_law X, a_new, a_newa, a_anew, a_pr, a_oi, a_ci, a_mnew, a_clone, a_cast, a_astq, shp_d, gP, gP0, sP, sP0, rows3, rows4, rows7, rows8, List.replicate_succ, List.replicate_zero, List.append_assoc, List.cons_append, List.nil_append, List.length_append, List.set_cons_zero, List.set_cons_succ, List.getElem?_cons_zero, List.getElem?_cons_succ, Nat.add_assoc, Nat.zero_add, Nat.add_zero, fitb, mcI, Option.some.injEq, exists_eq, exists_eq', some_ex, some_ex0, mcL])
  repeat' (first | assumption | with_reducible apply And.intro | with_reducible intro _)
  all_goals (try omega)
  refine mi_Setter (P := []) rfl rfl (by decide) (fun σ1 f1 e1 => ⟨rfl, rfl, ?_⟩)
  rw [show ([] ++ BsO ([] : List Sh).length : List Sh) = GC from GC_is]
  simp (maxSteps := 4000000) only [blk_s, blk_z, a_const, a_iload, a_aload, a_istore, a_astore, a_iinc, a_add, a_sub, a_mul, a_div, a_rem, a_dup, a_dup2, a_goto, a_ifnull, a_tsw, a_gi, a_gr, a_pi, a_ald, a_sld, a_ast, a_aald, a_len, a_gst, a_copy, a_max, a_min, a_iret, a_zret, a_aret, a_ret, a_cv, a_cn, a_sv, a_sn, icmp_t, icmp_f, aif_t, aif_f, lget, lset, fget, rget, apop, isO, Kv, Kn, fitb0, cmp, swl, InR, up, cpy, ↓reduceIte, if_true, if_false, Nat.left_eq_add, Nat.add_eq_left, Nat.add_left_cancel_iff, Nat.reduceEqDiff, Nat.zero_le, true_and, and_true, true_or, or_true, or_self, not_true_eq_false, not_false_eq_true, false_and, and_false, false_implies, true_implies, forall_const, ne_eq, Decidable.not_not, List.length_cons, List.length_nil, reduceCtorEq, Int.toNat_zero, Int.toNat_one, Int.cast_ofNat_Int, Nat.reduceAdd, Nat.reduceSub, Nat.reduceMul, Nat.reduceLT, Nat.reduceLeDiff, Nat.reduceEqDiff, Int.reduceAdd, Int.reduceSub, Int.reduceMul, Int.reduceNeg, Int.reduceLT, Int.reduceLE, Int.reduceEq, Int.reduceNe, Int.reduceToNat, t_L_law X, a_new, a_oi, a_ci, shp_d, gG, GC_len, List.length_append, List.getElem?_cons_zero, fitb, mcI, mcL]
  repeat (simp only [icmp_b, aif_b, cmp]; simp (maxSteps := 4000000) only [blk_s, blk_z, a_const, a_iload, a_aload, a_istore, a_astore, a_iinc, a_add, a_sub, a_mul, a_div, a_rem, a_dup, a_dup2, a_goto, a_ifnull, a_tsw, a_gi, a_gr, a_pi, a_ald, a_sld, a_ast, a_aald, a_len, a_gst, a_copy, a_max, a_min, a_iret, a_zret, a_aret, a_ret, a_cv, a_cn, a_sv, a_sn, icmp_t, icmp_f, aif_t, aif_f, lget, lset, fget, rget, apop, isO, Kv, Kn, fitb0, cmp, swl, InR, up, cpy, ↓reduceIte, if_true, if_false, Nat.left_eq_add, Nat.add_eq_left, Nat.add_left_cancel_iff, Nat.reduceEqDiff, Nat.zero_le, true_and, and_true, true_or, or_true, or_self, not_true_eq_false, not_false_eq_true, false_and, and_false, false_implies, true_implies, forall_const, ne_eq, Decidable.not_not, List.length_cons, List.length_nil, reduceCtorEq, Int.toNat_zero, Int.toNat_one, Int.cast_ofNat_Int, Nat.reduceAdd, Nat.reduceSub, Nat.reduceMul, Nat.reduceLT, Nat.reduceLeDiff, Nat.reduceEqDiff, Int.reduceAdd, Int.reduceSub, Int.reduceMul, Int.reduceNeg, Int.reduceLT, Int.reduceLE, Int.reduceEq, Int.reduceNe, Int.reduceToNat, t_L_law X, a_new, a_oi, a_ci, shp_d, gG, GC_len, List.length_append, List.getElem?_cons_zero, fitb, mcI, mcL])
  repeat' (first | assumption | with_reducible apply And.intro | with_reducible intro _)
  all_goals (try omega)
  refine mi_Model (P := GC) rfl GC_len.symm (by rw [GC_len]; decide) (fun σ2 f2 e2 => ⟨rfl, rfl, ?_⟩)
  rw [GC_len, GM_is]
  rw [GC_len] at f2 e2
  have lp := law_loop (X := X) cshG mshG hX 2700 0 σ2 (by
    have g : ∀ a, a < 179 → σ2 a = σ1 a := fun a ha => by rw [f2 a (by omega), zr_o (by omega)]
    obtain ⟨⟨x1, x2, x3, x4⟩, x5, x6, x7, x8⟩ := e1
    refine iv_start (by rw [g 1 (by omega)]; exact x1) (by rw [g 7 (by omega)]; exact x2) (by rw [g 12 (by omega)]; exact x3) (fun j => by rw [g 17 (by omega)]; exact x4 j) (fun j => by rw [g 18 (by omega)]; exact x5 j) (by rw [g 122 (by omega)]; exact x6) (by rw [g 123 (by omega)]; exact x7) (by rw [g 164 (by omega)]; exact x8) (by rw [f2 179 (by omega)]; exact zr_n) e2.1 e2.2) (by omega) (by omega) (by omega)
  exact lp
