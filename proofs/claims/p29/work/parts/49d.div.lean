/-! ===== the best division, asked again and again ===== -/
section
variable {X : XT} {G : List Sh} {σ : Sto} {Q : QT}
set_option maxRecDepth 40000 in
theorem ms_searched (hG : CSh G) (hb : σ 164 0 = 1) (hQ : Q none G σ) : MS X M_0_search [.inr 164, .inr 1] G σ Q := by
  refine MS_in [some (.inr 164), some (.inr 1), none] mok_0_search (Nat.le_of_ble_eq_true rfl) rfl ?_
  refine blk_wp (tok_0_search X) 1000 _ _ _ _ _ ?_
  simp (maxSteps := 4000000) only [blk_s, blk_z, a_const, a_iload, a_aload, a_istore, a_astore, a_iinc, a_add, a_sub, a_mul, a_div, a_rem, a_dup, a_dup2, a_goto, a_ifnull, a_tsw, a_gi, a_gr, a_pi, a_ald, a_sld, a_ast, a_aald, a_len, a_gst, a_copy, a_max, a_min, a_iret, a_zret, a_aret, a_ret, a_cv, a_cn, a_sv, a_sn, icmp_t, icmp_f, aif_t, aif_f, lget, lset, fget, rget, apop, isO, Kv, Kn, fitb0, cmp, swl, InR, up, cpy, ↓reduceIte, if_true, if_false, Nat.left_eq_add, Nat.add_eq_left, Nat.add_left_cancel_iff, Nat.reduceEqDiff, Nat.zero_le, true_and, and_true, true_or, or_true, or_self, not_true_eq_false, not_false_eq_true, false_and, and_false, false_implies, true_implies, forall_const, ne_eq, Decidable.not_not, List.length_cons, List.length_nil, reduceCtorEq, Int.toNat_zero, Int.toNat_one, Int.cast_ofNat_Int, Nat.reduceAdd, Nat.reduceSub, Nat.reduceMul, Nat.reduceLT, Nat.reduceLeDiff, Nat.reduceEqDiff, Int.reduceAdd, Int.reduceSub, Int.reduceMul, Int.reduceNeg, Int.reduceLT, Int.reduceLE, Int.reduceEq, Int.reduceNe, Int.reduceToNat, t_0_search X, sxC hG, hb]
  repeat (simp only [icmp_b, aif_b, cmp]; simp (maxSteps := 4000000) only [blk_s, blk_z, a_const, a_iload, a_aload, a_istore, a_astore, a_iinc, a_add, a_sub, a_mul, a_div, a_rem, a_dup, a_dup2, a_goto, a_ifnull, a_tsw, a_gi, a_gr, a_pi, a_ald, a_sld, a_ast, a_aald, a_len, a_gst, a_copy, a_max, a_min, a_iret, a_zret, a_aret, a_ret, a_cv, a_cn, a_sv, a_sn, icmp_t, icmp_f, aif_t, aif_f, lget, lset, fget, rget, apop, isO, Kv, Kn, fitb0, cmp, swl, InR, up, cpy, ↓reduceIte, if_true, if_false, Nat.left_eq_add, Nat.add_eq_left, Nat.add_left_cancel_iff, Nat.reduceEqDiff, Nat.zero_le, true_and, and_true, true_or, or_true, or_self, not_true_eq_false, not_false_eq_true, false_and, and_false, false_implies, true_implies, forall_const, ne_eq, Decidable.not_not, List.length_cons, List.length_nil, reduceCtorEq, Int.toNat_zero, Int.toNat_one, Int.cast_ofNat_Int, Nat.reduceAdd, Nat.reduceSub, Nat.reduceMul, Nat.reduceLT, Nat.reduceLeDiff, Nat.reduceEqDiff, Int.reduceAdd, Int.reduceSub, Int.reduceMul, Int.reduceNeg, Int.reduceLT, Int.reduceLE, Int.reduceEq, Int.reduceNe, Int.reduceToNat, t_0_search X, sxC hG, hb])
  repeat' (first | assumption | with_reducible apply And.intro | with_reducible intro _)
  all_goals (try omega)
set_option maxRecDepth 40000 in
theorem ms_break1 (hG : CSh G) {V : Sto} {g : Int} (hb : σ 164 0 = 1) (hD : DivC V σ) (hg : 0 ≤ g) (hQ : Q (some (.inl (if g < σ 164 1 then σ 165 g else -4))) G σ) : MS X M_7_bestBreak [.inr 0, .inl g] G σ Q := by
  have hbb := hD.2.1
  refine MS_in [some (.inr 0), some (.inl g)] mok_7_bestBreak (Nat.le_of_ble_eq_true rfl) rfl ?_
  refine blk_wp (tok_7_bestBreak X) 1000 _ _ _ _ _ ?_
  simp (maxSteps := 4000000) only [blk_s, blk_z, a_const, a_iload, a_aload, a_istore, a_astore, a_iinc, a_add, a_sub, a_mul, a_div, a_rem, a_dup, a_dup2, a_goto, a_ifnull, a_tsw, a_gi, a_gr, a_pi, a_ald, a_sld, a_ast, a_aald, a_len, a_gst, a_copy, a_max, a_min, a_iret, a_zret, a_aret, a_ret, a_cv, a_cn, a_sv, a_sn, icmp_t, icmp_f, aif_t, aif_f, lget, lset, fget, rget, apop, isO, Kv, Kn, fitb0, cmp, swl, InR, up, cpy, ↓reduceIte, if_true, if_false, Nat.left_eq_add, Nat.add_eq_left, Nat.add_left_cancel_iff, Nat.reduceEqDiff, Nat.zero_le, true_and, and_true, true_or, or_true, or_self, not_true_eq_false, not_false_eq_true, false_and, and_false, false_implies, true_implies, forall_const, ne_eq, Decidable.not_not, List.length_cons, List.length_nil, reduceCtorEq, Int.toNat_zero, Int.toNat_one, Int.cast_ofNat_Int, Nat.reduceAdd, Nat.reduceSub, Nat.reduceMul, Nat.reduceLT, Nat.reduceLeDiff, Nat.reduceEqDiff, Int.reduceAdd, Int.reduceSub, Int.reduceMul, Int.reduceNeg, Int.reduceLT, Int.reduceLE, Int.reduceEq, Int.reduceNe, Int.reduceToNat, t_7_bestBreak X, sxC hG, hg]
  repeat (simp only [icmp_b, aif_b, cmp]; simp (maxSteps := 4000000) only [blk_s, blk_z, a_const, a_iload, a_aload, a_istore, a_astore, a_iinc, a_add, a_sub, a_mul, a_div, a_rem, a_dup, a_dup2, a_goto, a_ifnull, a_tsw, a_gi, a_gr, a_pi, a_ald, a_sld, a_ast, a_aald, a_len, a_gst, a_copy, a_max, a_min, a_iret, a_zret, a_aret, a_ret, a_cv, a_cn, a_sv, a_sn, icmp_t, icmp_f, aif_t, aif_f, lget, lset, fget, rget, apop, isO, Kv, Kn, fitb0, cmp, swl, InR, up, cpy, ↓reduceIte, if_true, if_false, Nat.left_eq_add, Nat.add_eq_left, Nat.add_left_cancel_iff, Nat.reduceEqDiff, Nat.zero_le, true_and, and_true, true_or, or_true, or_self, not_true_eq_false, not_false_eq_true, false_and, and_false, false_implies, true_implies, forall_const, ne_eq, Decidable.not_not, List.length_cons, List.length_nil, reduceCtorEq, Int.toNat_zero, Int.toNat_one, Int.cast_ofNat_Int, Nat.reduceAdd, Nat.reduceSub, Nat.reduceMul, Nat.reduceLT, Nat.reduceLeDiff, Nat.reduceEqDiff, Int.reduceAdd, Int.reduceSub, Int.reduceMul, Int.reduceNeg, Int.reduceLT, Int.reduceLE, Int.reduceEq, Int.reduceNe, Int.reduceToNat, t_7_bestBreak X, sxC hG, hg])
  repeat' (first | assumption | with_reducible apply And.intro | with_reducible intro _)
  all_goals (try omega)
  refine ms_searched hG hb ?_
  by_cases c2 : g < σ 164 1
  · rw [if_pos c2] at hQ
    simp (maxSteps := 4000000) only [blk_s, blk_z, a_const, a_iload, a_aload, a_istore, a_astore, a_iinc, a_add, a_sub, a_mul, a_div, a_rem, a_dup, a_dup2, a_goto, a_ifnull, a_tsw, a_gi, a_gr, a_pi, a_ald, a_sld, a_ast, a_aald, a_len, a_gst, a_copy, a_max, a_min, a_iret, a_zret, a_aret, a_ret, a_cv, a_cn, a_sv, a_sn, icmp_t, icmp_f, aif_t, aif_f, lget, lset, fget, rget, apop, isO, Kv, Kn, fitb0, cmp, swl, InR, up, cpy, ↓reduceIte, if_true, if_false, Nat.left_eq_add, Nat.add_eq_left, Nat.add_left_cancel_iff, Nat.reduceEqDiff, Nat.zero_le, true_and, and_true, true_or, or_true, or_self, not_true_eq_false, not_false_eq_true, false_and, and_false, false_implies, true_implies, forall_const, ne_eq, Decidable.not_not, List.length_cons, List.length_nil, reduceCtorEq, Int.toNat_zero, Int.toNat_one, Int.cast_ofNat_Int, Nat.reduceAdd, Nat.reduceSub, Nat.reduceMul, Nat.reduceLT, Nat.reduceLeDiff, Nat.reduceEqDiff, Int.reduceAdd, Int.reduceSub, Int.reduceMul, Int.reduceNeg, Int.reduceLT, Int.reduceLE, Int.reduceEq, Int.reduceNe, Int.reduceToNat, t_7_bestBreak X, sxC hG, show ¬ (σ 164 1 ≤ g) by omega]
    repeat (simp only [icmp_b, aif_b, cmp]; simp (maxSteps := 4000000) only [blk_s, blk_z, a_const, a_iload, a_aload, a_istore, a_astore, a_iinc, a_add, a_sub, a_mul, a_div, a_rem, a_dup, a_dup2, a_goto, a_ifnull, a_tsw, a_gi, a_gr, a_pi, a_ald, a_sld, a_ast, a_aald, a_len, a_gst, a_copy, a_max, a_min, a_iret, a_zret, a_aret, a_ret, a_cv, a_cn, a_sv, a_sn, icmp_t, icmp_f, aif_t, aif_f, lget, lset, fget, rget, apop, isO, Kv, Kn, fitb0, cmp, swl, InR, up, cpy, ↓reduceIte, if_true, if_false, Nat.left_eq_add, Nat.add_eq_left, Nat.add_left_cancel_iff, Nat.reduceEqDiff, Nat.zero_le, true_and, and_true, true_or, or_true, or_self, not_true_eq_false, not_false_eq_true, false_and, and_false, false_implies, true_implies, forall_const, ne_eq, Decidable.not_not, List.length_cons, List.length_nil, reduceCtorEq, Int.toNat_zero, Int.toNat_one, Int.cast_ofNat_Int, Nat.reduceAdd, Nat.reduceSub, Nat.reduceMul, Nat.reduceLT, Nat.reduceLeDiff, Nat.reduceEqDiff, Int.reduceAdd, Int.reduceSub, Int.reduceMul, Int.reduceNeg, Int.reduceLT, Int.reduceLE, Int.reduceEq, Int.reduceNe, Int.reduceToNat, t_7_bestBreak X, sxC hG, show ¬ (σ 164 1 ≤ g) by omega])
    repeat' (first | assumption | with_reducible apply And.intro | with_reducible intro _)
    all_goals (try omega)
  · rw [if_neg c2] at hQ
    simp (maxSteps := 4000000) only [blk_s, blk_z, a_const, a_iload, a_aload, a_istore, a_astore, a_iinc, a_add, a_sub, a_mul, a_div, a_rem, a_dup, a_dup2, a_goto, a_ifnull, a_tsw, a_gi, a_gr, a_pi, a_ald, a_sld, a_ast, a_aald, a_len, a_gst, a_copy, a_max, a_min, a_iret, a_zret, a_aret, a_ret, a_cv, a_cn, a_sv, a_sn, icmp_t, icmp_f, aif_t, aif_f, lget, lset, fget, rget, apop, isO, Kv, Kn, fitb0, cmp, swl, InR, up, cpy, ↓reduceIte, if_true, if_false, Nat.left_eq_add, Nat.add_eq_left, Nat.add_left_cancel_iff, Nat.reduceEqDiff, Nat.zero_le, true_and, and_true, true_or, or_true, or_self, not_true_eq_false, not_false_eq_true, false_and, and_false, false_implies, true_implies, forall_const, ne_eq, Decidable.not_not, List.length_cons, List.length_nil, reduceCtorEq, Int.toNat_zero, Int.toNat_one, Int.cast_ofNat_Int, Nat.reduceAdd, Nat.reduceSub, Nat.reduceMul, Nat.reduceLT, Nat.reduceLeDiff, Nat.reduceEqDiff, Int.reduceAdd, Int.reduceSub, Int.reduceMul, Int.reduceNeg, Int.reduceLT, Int.reduceLE, Int.reduceEq, Int.reduceNe, Int.reduceToNat, t_7_bestBreak X, sxC hG, show σ 164 1 ≤ g by omega]
    repeat (simp only [icmp_b, aif_b, cmp]; simp (maxSteps := 4000000) only [blk_s, blk_z, a_const, a_iload, a_aload, a_istore, a_astore, a_iinc, a_add, a_sub, a_mul, a_div, a_rem, a_dup, a_dup2, a_goto, a_ifnull, a_tsw, a_gi, a_gr, a_pi, a_ald, a_sld, a_ast, a_aald, a_len, a_gst, a_copy, a_max, a_min, a_iret, a_zret, a_aret, a_ret, a_cv, a_cn, a_sv, a_sn, icmp_t, icmp_f, aif_t, aif_f, lget, lset, fget, rget, apop, isO, Kv, Kn, fitb0, cmp, swl, InR, up, cpy, ↓reduceIte, if_true, if_false, Nat.left_eq_add, Nat.add_eq_left, Nat.add_left_cancel_iff, Nat.reduceEqDiff, Nat.zero_le, true_and, and_true, true_or, or_true, or_self, not_true_eq_false, not_false_eq_true, false_and, and_false, false_implies, true_implies, forall_const, ne_eq, Decidable.not_not, List.length_cons, List.length_nil, reduceCtorEq, Int.toNat_zero, Int.toNat_one, Int.cast_ofNat_Int, Nat.reduceAdd, Nat.reduceSub, Nat.reduceMul, Nat.reduceLT, Nat.reduceLeDiff, Nat.reduceEqDiff, Int.reduceAdd, Int.reduceSub, Int.reduceMul, Int.reduceNeg, Int.reduceLT, Int.reduceLE, Int.reduceEq, Int.reduceNe, Int.reduceToNat, t_7_bestBreak X, sxC hG, show σ 164 1 ≤ g by omega])
    repeat' (first | assumption | with_reducible apply And.intro | with_reducible intro _)
    all_goals (try omega)
end
theorem itz_b {V : Sto} {c z : Int → Int} (hn : 0 ≤ V 1 0) (h : BT V c z) (h0 : c 0 ≠ -1) : ∀ k : Nat, (0 ≤ itz z (V 1 0) k ∧ itz z (V 1 0) k ≤ V 1 0) ∧ 0 ≤ c (itz z (V 1 0) k)
  | 0 => by
    refine ⟨⟨Int.le_refl _, hn⟩, ?_⟩
    show 0 ≤ c 0
    by_cases e : V 1 0 = 0
    · have := h.1
      rw [e] at this
      omega
    · rcases h.2 0 (Int.le_refl _) (by omega) with ⟨q, -⟩ | ⟨q, -⟩
      · exact absurd q h0
      · exact q.1
  | k + 1 => by
    obtain ⟨a, b⟩ := itz_b hn h h0 k
    unfold itz
    by_cases q : itz z (V 1 0) k < V 1 0
    · rw [if_pos q]
      have := bt_z h ⟨a.1, q⟩ b
      exact ⟨⟨by omega, this.1.2⟩, this.2⟩
    · rw [if_neg q]
      exact ⟨a, b⟩
/-- the groups begin one behind the other -/
theorem bb_ok {V σ : Sto} (hn : 0 ≤ V 1 0) (hD : DivC V σ) (h0 : σ 166 0 ≠ -1) {g : Int} (hg : 0 ≤ g) (h1 : g < σ 164 1) : (0 ≤ σ 165 g ∧ σ 165 g < V 1 0) ∧ (g = 0 → σ 165 g = 0) ∧ (0 < g → σ 165 (g - 1) < σ 165 g) := by
  obtain ⟨d1, d2, d3, d4⟩ := hD
  obtain ⟨d5, d6⟩ := d4 h0
  have e := d5 g.toNat (by omega)
  rw [show ((g.toNat : Nat) : Int) = g by omega] at e
  have b := itz_b hn d1 h0 g.toNat
  refine ⟨⟨by omega, by omega⟩, fun q => ?_, fun q => ?_⟩
  · rw [e.1, q]
    rfl
  · have e' := d5 (g - 1).toNat (by omega)
    have b' := itz_b hn d1 h0 (g - 1).toNat
    rw [show (((g - 1).toNat : Nat) : Int) = g - 1 by omega] at e'
    have z := bt_z d1 (i := itz (zC σ) (V 1 0) (g - 1).toNat) ⟨by omega, e'.2⟩ b'.2
    have y : itz (zC σ) (V 1 0) g.toNat = zC σ (itz (zC σ) (V 1 0) (g - 1).toNat) := by
      rw [show g.toNat = (g - 1).toNat + 1 by omega]
      exact if_pos e'.2
    rw [e.1, e'.1, y]
    exact z.1.1
