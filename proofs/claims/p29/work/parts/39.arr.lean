theorem carr_eq {V σ A : Sto} {f : Nat} {h s : Int} (hs : s = 0 ∨ s = 1) (hF : FVr V σ f A) (h17 : σ 17 = V 17) : cOf (σ (f + 1) s) (σ (f + 3) s + σ (f + 6) s) (σ 17 2) h (mostC σ f s (σ 17 4)) = cA V A h s := by
  obtain ⟨u1, u2, u3, u4, u5, u6, u7⟩ := hF s hs
  unfold cA mostC mostN
  rw [u1, u3, u6, u7, h17]
theorem nrow_eq {V σ A : Sto} {f : Nat} {h s : Int} (hs : s = 0 ∨ s = 1) (hF : FVr V σ f A) (h17 : σ 17 = V 17) : (if 0 < σ (f + 3) s + σ (f + 6) s - cA V A h s then σ 17 2 + (σ (f + 3) s + σ (f + 6) s - cA V A h s) else 0) = nrA V A h s := by
  obtain ⟨u1, u2, u3, u4, u5, u6, u7⟩ := hF s hs
  unfold nrA rws
  rw [u3, u6, h17]
def clsS (σ : Sto) (pg tx nr bl ct c nt fn : Int) : Sto := up (up (up (up (up (up (up σ 135 pg tx) 136 pg nr) 137 pg bl) 138 pg ct) 139 pg c) 140 pg nt) 141 pg fn
theorem end_side {V A σ : Sto} {h s : Int} (hs : s = 0 ∨ s = 1) (hF : FVr V σ 142 A) (σ' : Sto) (e : σ' = turnF (clsS σ (2 * A 0 2 + s) (A 1 s) (nrA V A h s) (max 0 (h - A 1 s - nrA V A h s)) (A 3 s) (cA V A h s) (A 5 s - A 4 s) (A 4 s)) 142 s (cA V A h s) (A 5 s)) :
    FVr V σ' 142 (endS V A h s) ∧ (∀ w k, 135 ≤ w → w ≤ 141 → σ' w k = if k = 2 * A 0 2 + s then endS V A h s w k else σ w k) ∧ ∀ a, (a < 135 ∨ 149 < a ∨ a = 142) → σ' a = σ a := by
  obtain ⟨a0, a1, a2, a3, a4, a5, a6, a7, a8⟩ := endS_v V A h s
  subst e
  refine ⟨fun t ht => ?_, fun w k w0 w1 => ?_, fun a ha => ?_⟩
  · have hF := hF t ht
    rw [a1, a2, a3, a4, a5]
    unfold turnF clsS
    by_cases c : t = s
    · subst c
      simp [up, SL_0, lastL]
    · simp only [c, if_false]
      simpa [up, c] using hF
  · obtain ⟨d1, d2, d3, d4, d5, d6, d7⟩ := a8 k
    unfold turnF clsS
    rcases (show w = 135 ∨ w = 136 ∨ w = 137 ∨ w = 138 ∨ w = 139 ∨ w = 140 ∨ w = 141 by omega) with rfl | rfl | rfl | rfl | rfl | rfl | rfl
    · rw [d1]; by_cases c : k = 2 * A 0 2 + s <;> simp [up, c]
    · rw [d2]; by_cases c : k = 2 * A 0 2 + s <;> simp [up, c]
    · rw [d3]; by_cases c : k = 2 * A 0 2 + s <;> simp [up, c]
    · rw [d4]; by_cases c : k = 2 * A 0 2 + s <;> simp [up, c]
    · rw [d5]; by_cases c : k = 2 * A 0 2 + s <;> simp [up, c]
    · rw [d6]; by_cases c : k = 2 * A 0 2 + s <;> simp [up, c]
    · rw [d7]; by_cases c : k = 2 * A 0 2 + s <;> simp [up, c]
  · unfold turnF clsS
    iterate 14 rw [up_other (by omega)]
theorem endS_o {V A : Sto} {h s : Int} {w : Nat} {k : Int} (w0 : 135 ≤ w) (w1 : w ≤ 141) (c : ¬ (k = 2 * A 0 2 + s)) : endS V A h s w k = A w k := by
  obtain ⟨-, -, -, -, -, -, -, -, a8⟩ := endS_v V A h s
  obtain ⟨d1, d2, d3, d4, d5, d6, d7⟩ := a8 k
  rw [if_neg c] at d1 d2 d3 d4 d5 d6 d7
  rcases (show w = 135 ∨ w = 136 ∨ w = 137 ∨ w = 138 ∨ w = 139 ∨ w = 140 ∨ w = 141 by omega) with rfl | rfl | rfl | rfl | rfl | rfl | rfl <;> assumption
section
variable {X : XT} {G : List Sh} {σ : Sto} {Q : QT}
set_option maxRecDepth 40000 in
theorem ms_endSpread (hG : CSh G) {V A : Sto} {h : Int} (hV : EdOK V) (hA : AOK V A) (hR : CRl V h A 1 σ) (hh' : 8 ≤ h ∧ h ≤ 60) (h6 : A 0 2 ≤ 600) (hQ : ∀ σ', CRl V h (endA V A h) 0 σ' → FrC σ σ' → Q none G σ') : MS X M_6_endSpread [.inr 122, .inr 1] G σ Q := by
  obtain ⟨hv, hh, hC, hF, hP⟩ := id hR
  have hK : StK V := hV.2.2.2.2.2.2.2
  have hKb : (0 ≤ V 17 2 ∧ V 17 2 ≤ 2) ∧ (0 ≤ V 17 4 ∧ V 17 4 ≤ 5) := ⟨hK.2.2.1, hK.2.2.2.2.1⟩
  have hsp := hA.2.2.2.1
  have n1 := hC.1
  have n6 := hC.2.1
  have hAb : ∀ s, (s = 0 ∨ s = 1) → (0 ≤ A 1 s ∧ A 1 s ≤ 1000) ∧ (0 ≤ A 3 s ∧ A 3 s ≤ 5) ∧ (0 ≤ A 4 s ∧ A 4 s ≤ A 5 s) ∧ A 5 s ≤ V (nbS s) 0 := by
    intro s hs
    have q := hA.2.2.2.2.2 s hs
    have := (nA_is (nbO hV hs).1 (A 0 0) (A 6 s)).2.1
    omega
  have hcb : ∀ B s, 0 ≤ cA V B h s ∧ cA V B h s ≤ 5 := fun B s => by
    have q1 := cA_b (V := V) (A := B) (h := h) (s := s) hK
    have q2 := mostN_b (V := V) (c := V 17 4) (nb := nbS s) (a := B 4 s) (b := B 5 s) hKb.2
    omega
  have hnb : ∀ B s, (s = 0 ∨ s = 1) → (0 ≤ B 3 s ∧ B 3 s ≤ 5) → (0 ≤ B 4 s ∧ B 4 s ≤ B 5 s) → B 5 s ≤ V (nbS s) 0 → 0 ≤ nrA V B h s ∧ nrA V B h s ≤ 1000 := fun B s hs q1 q2 q3 => by
    have q4 := SLv_b (a := B 4 s) (b := B 5 s) hV hs (by omega) (by omega) q3
    have q5 := hcb B s
    unfold nrA rws
    split <;> omega
  have e17 : σ 17 = V 17 := hv 17 (by omega) (by omega)
  -- the left page
  obtain ⟨u1, u2, u3, u4, u5, u6, u7⟩ := hF 0 (Or.inl rfl)
  have b0 := hAb 0 (Or.inl rfl)
  have c0 := hcb A 0
  have r0 := hnb A 0 (Or.inl rfl) b0.2.1 b0.2.2.1 b0.2.2.2
  have s0 := SLv_b (s := 0) (a := A 4 0) (b := A 5 0) hV (Or.inl rfl) (by omega) (by omega) (by omega)
  refine MS_in [some (.inr 122), some (.inr 1), none, none, none, none] mok_6_endSpread (Nat.le_of_ble_eq_true rfl) rfl ?_
  refine blk_wp (tok_6_endSpread X) 1000 _ _ _ _ _ ?_
  simp (maxSteps := 4000000) only [blk_s, blk_z, a_const, a_iload, a_aload, a_istore, a_astore, a_iinc, a_add, a_sub, a_mul, a_div, a_rem, a_dup, a_dup2, a_goto, a_ifnull, a_tsw, a_gi, a_gr, a_pi, a_ald, a_sld, a_ast, a_aald, a_len, a_gst, a_copy, a_max, a_min, a_iret, a_zret, a_aret, a_ret, a_cv, a_cn, a_sv, a_sn, icmp_t, icmp_f, aif_t, aif_f, lget, lset, fget, rget, apop, isO, Kv, Kn, fitb0, cmp, swl, InR, up, cpy, ↓reduceIte, if_true, if_false, Nat.left_eq_add, Nat.add_eq_left, Nat.add_left_cancel_iff, Nat.reduceEqDiff, Nat.zero_le, true_and, and_true, true_or, or_true, not_true_eq_false, not_false_eq_true, false_and, and_false, false_implies, true_implies, forall_const, ne_eq, Decidable.not_not, List.length_cons, List.length_nil, reduceCtorEq, Int.toNat_zero, Int.toNat_one, Int.cast_ofNat_Int, Nat.reduceAdd, Nat.reduceSub, Nat.reduceMul, Nat.reduceLT, Nat.reduceLeDiff, Nat.reduceEqDiff, Int.reduceAdd, Int.reduceSub, Int.reduceMul, Int.reduceNeg, Int.reduceLT, Int.reduceLE, Int.reduceEq, Int.reduceNe, Int.reduceToNat, t_6_endSpread X, sxC hG, n1, hh]
  repeat (simp only [icmp_b, aif_b, cmp]; simp (maxSteps := 4000000) only [blk_s, blk_z, a_const, a_iload, a_aload, a_istore, a_astore, a_iinc, a_add, a_sub, a_mul, a_div, a_rem, a_dup, a_dup2, a_goto, a_ifnull, a_tsw, a_gi, a_gr, a_pi, a_ald, a_sld, a_ast, a_aald, a_len, a_gst, a_copy, a_max, a_min, a_iret, a_zret, a_aret, a_ret, a_cv, a_cn, a_sv, a_sn, icmp_t, icmp_f, aif_t, aif_f, lget, lset, fget, rget, apop, isO, Kv, Kn, fitb0, cmp, swl, InR, up, cpy, ↓reduceIte, if_true, if_false, Nat.left_eq_add, Nat.add_eq_left, Nat.add_left_cancel_iff, Nat.reduceEqDiff, Nat.zero_le, true_and, and_true, true_or, or_true, not_true_eq_false, not_false_eq_true, false_and, and_false, false_implies, true_implies, forall_const, ne_eq, Decidable.not_not, List.length_cons, List.length_nil, reduceCtorEq, Int.toNat_zero, Int.toNat_one, Int.cast_ofNat_Int, Nat.reduceAdd, Nat.reduceSub, Nat.reduceMul, Nat.reduceLT, Nat.reduceLeDiff, Nat.reduceEqDiff, Int.reduceAdd, Int.reduceSub, Int.reduceMul, Int.reduceNeg, Int.reduceLT, Int.reduceLE, Int.reduceEq, Int.reduceNe, Int.reduceToNat, t_6_endSpread X, sxC hG, n1, hh])
  repeat' (first | assumption | with_reducible apply And.intro | with_reducible intro _)
  all_goals (try omega)
  refine ms_carriedFrom (f := 142) hG (fS hG (by omega)) (fvr_B hV hF hAb) (by unfold StK; rw [e17]; exact hK) (Or.inl rfl) ?_
  rw [carr_eq (Or.inl rfl) hF e17]
  simp (maxSteps := 4000000) only [blk_s, blk_z, a_const, a_iload, a_aload, a_istore, a_astore, a_iinc, a_add, a_sub, a_mul, a_div, a_rem, a_dup, a_dup2, a_goto, a_ifnull, a_tsw, a_gi, a_gr, a_pi, a_ald, a_sld, a_ast, a_aald, a_len, a_gst, a_copy, a_max, a_min, a_iret, a_zret, a_aret, a_ret, a_cv, a_cn, a_sv, a_sn, icmp_t, icmp_f, aif_t, aif_f, lget, lset, fget, rget, apop, isO, Kv, Kn, fitb0, cmp, swl, InR, up, cpy, ↓reduceIte, if_true, if_false, Nat.left_eq_add, Nat.add_eq_left, Nat.add_left_cancel_iff, Nat.reduceEqDiff, Nat.zero_le, true_and, and_true, true_or, or_true, not_true_eq_false, not_false_eq_true, false_and, and_false, false_implies, true_implies, forall_const, ne_eq, Decidable.not_not, List.length_cons, List.length_nil, reduceCtorEq, Int.toNat_zero, Int.toNat_one, Int.cast_ofNat_Int, Nat.reduceAdd, Nat.reduceSub, Nat.reduceMul, Nat.reduceLT, Nat.reduceLeDiff, Nat.reduceEqDiff, Int.reduceAdd, Int.reduceSub, Int.reduceMul, Int.reduceNeg, Int.reduceLT, Int.reduceLE, Int.reduceEq, Int.reduceNe, Int.reduceToNat, t_6_endSpread X, sxC hG, e17]
  repeat (simp only [icmp_b, aif_b, cmp]; simp (maxSteps := 4000000) only [blk_s, blk_z, a_const, a_iload, a_aload, a_istore, a_astore, a_iinc, a_add, a_sub, a_mul, a_div, a_rem, a_dup, a_dup2, a_goto, a_ifnull, a_tsw, a_gi, a_gr, a_pi, a_ald, a_sld, a_ast, a_aald, a_len, a_gst, a_copy, a_max, a_min, a_iret, a_zret, a_aret, a_ret, a_cv, a_cn, a_sv, a_sn, icmp_t, icmp_f, aif_t, aif_f, lget, lset, fget, rget, apop, isO, Kv, Kn, fitb0, cmp, swl, InR, up, cpy, ↓reduceIte, if_true, if_false, Nat.left_eq_add, Nat.add_eq_left, Nat.add_left_cancel_iff, Nat.reduceEqDiff, Nat.zero_le, true_and, and_true, true_or, or_true, not_true_eq_false, not_false_eq_true, false_and, and_false, false_implies, true_implies, forall_const, ne_eq, Decidable.not_not, List.length_cons, List.length_nil, reduceCtorEq, Int.toNat_zero, Int.toNat_one, Int.cast_ofNat_Int, Nat.reduceAdd, Nat.reduceSub, Nat.reduceMul, Nat.reduceLT, Nat.reduceLeDiff, Nat.reduceEqDiff, Int.reduceAdd, Int.reduceSub, Int.reduceMul, Int.reduceNeg, Int.reduceLT, Int.reduceLE, Int.reduceEq, Int.reduceNe, Int.reduceToNat, t_6_endSpread X, sxC hG, e17])
  repeat' (first | assumption | with_reducible apply And.intro | with_reducible intro _)
  all_goals (try omega)
  refine ms_noteRows (f := 142) (fS hG (by omega)) (by omega) (by omega) (by rw [u3]; omega) (by rw [u6]; omega) ?_
  rw [← e17, nrow_eq (Or.inl rfl) hF e17]
  have n12 : (nbS 0) = 7 := rfl
  have l0 := (nbO hV (s := 0) (Or.inl rfl)).1.1
  simp (maxSteps := 4000000) only [blk_s, blk_z, a_const, a_iload, a_aload, a_istore, a_astore, a_iinc, a_add, a_sub, a_mul, a_div, a_rem, a_dup, a_dup2, a_goto, a_ifnull, a_tsw, a_gi, a_gr, a_pi, a_ald, a_sld, a_ast, a_aald, a_len, a_gst, a_copy, a_max, a_min, a_iret, a_zret, a_aret, a_ret, a_cv, a_cn, a_sv, a_sn, icmp_t, icmp_f, aif_t, aif_f, lget, lset, fget, rget, apop, isO, Kv, Kn, fitb0, cmp, swl, InR, up, cpy, ↓reduceIte, if_true, if_false, Nat.left_eq_add, Nat.add_eq_left, Nat.add_left_cancel_iff, Nat.reduceEqDiff, Nat.zero_le, true_and, and_true, true_or, or_true, not_true_eq_false, not_false_eq_true, false_and, and_false, false_implies, true_implies, forall_const, ne_eq, Decidable.not_not, List.length_cons, List.length_nil, reduceCtorEq, Int.toNat_zero, Int.toNat_one, Int.cast_ofNat_Int, Nat.reduceAdd, Nat.reduceSub, Nat.reduceMul, Nat.reduceLT, Nat.reduceLeDiff, Nat.reduceEqDiff, Int.reduceAdd, Int.reduceSub, Int.reduceMul, Int.reduceNeg, Int.reduceLT, Int.reduceLE, Int.reduceEq, Int.reduceNe, Int.reduceToNat, t_6_endSpread X, sxC hG, hh, u1, u2, u3, u4, u5, show σ 143 0 = A 1 0 from u1, show σ 145 0 = A 3 0 from u3, show σ 146 0 = A 4 0 from u4, show σ 147 0 = A 5 0 - A 4 0 from u5]
  repeat (simp only [icmp_b, aif_b, cmp]; simp (maxSteps := 4000000) only [blk_s, blk_z, a_const, a_iload, a_aload, a_istore, a_astore, a_iinc, a_add, a_sub, a_mul, a_div, a_rem, a_dup, a_dup2, a_goto, a_ifnull, a_tsw, a_gi, a_gr, a_pi, a_ald, a_sld, a_ast, a_aald, a_len, a_gst, a_copy, a_max, a_min, a_iret, a_zret, a_aret, a_ret, a_cv, a_cn, a_sv, a_sn, icmp_t, icmp_f, aif_t, aif_f, lget, lset, fget, rget, apop, isO, Kv, Kn, fitb0, cmp, swl, InR, up, cpy, ↓reduceIte, if_true, if_false, Nat.left_eq_add, Nat.add_eq_left, Nat.add_left_cancel_iff, Nat.reduceEqDiff, Nat.zero_le, true_and, and_true, true_or, or_true, not_true_eq_false, not_false_eq_true, false_and, and_false, false_implies, true_implies, forall_const, ne_eq, Decidable.not_not, List.length_cons, List.length_nil, reduceCtorEq, Int.toNat_zero, Int.toNat_one, Int.cast_ofNat_Int, Nat.reduceAdd, Nat.reduceSub, Nat.reduceMul, Nat.reduceLT, Nat.reduceLeDiff, Nat.reduceEqDiff, Int.reduceAdd, Int.reduceSub, Int.reduceMul, Int.reduceNeg, Int.reduceLT, Int.reduceLE, Int.reduceEq, Int.reduceNe, Int.reduceToNat, t_6_endSpread X, sxC hG, hh, u1, u2, u3, u4, u5, show σ 143 0 = A 1 0 from u1, show σ 145 0 = A 3 0 from u3, show σ 146 0 = A 4 0 from u4, show σ 147 0 = A 5 0 - A 4 0 from u5])
  repeat' (first | assumption | with_reducible apply And.intro | with_reducible intro _)
  all_goals (try omega)
  refine ms_turn (f := 142) (fS hG (by omega)) (by omega) ?_
  rw [show A 4 0 + (A 5 0 - A 4 0) = A 5 0 by omega]
  show Kn _ _ _ _ _ _ _ (turnF (clsS σ (2 * A 0 2 + 0) (A 1 0) (nrA V A h 0) (max 0 (h - A 1 0 - nrA V A h 0)) (A 3 0) (cA V A h 0) (A 5 0 - A 4 0) (A 4 0)) 142 0 (cA V A h 0) (A 5 0))
  obtain ⟨σ1, E1⟩ : ∃ s, s = turnF (clsS σ (2 * A 0 2 + 0) (A 1 0) (nrA V A h 0) (max 0 (h - A 1 0 - nrA V A h 0)) (A 3 0) (cA V A h 0) (A 5 0 - A 4 0) (A 4 0)) 142 0 (cA V A h 0) (A 5 0) := ⟨_, rfl⟩
  rw [← E1]
  obtain ⟨F1, g1, k1⟩ := end_side (Or.inl rfl) hF σ1 E1
  obtain ⟨B, hB⟩ : ∃ B, B = endS V A h 0 := ⟨_, rfl⟩
  have hB' := endS_v V A h 0
  rw [← hB] at F1 hB'
  obtain ⟨a0, a1, a2, a3, a4, a5, a6, a7, a8⟩ := hB'
  have z2 : B 0 2 = A 0 2 := by rw [a0]
  have m1 : σ1 122 1 = B 0 2 := by rw [k1 122 (by omega), z2]; exact n1
  have mh : σ1 122 0 = h := by rw [k1 122 (by omega)]; exact hh
  have m17 : σ1 17 = V 17 := by rw [k1 17 (by omega)]; exact e17
  have hBb : ∀ s, (s = 0 ∨ s = 1) → (0 ≤ B 1 s ∧ B 1 s ≤ 1000) ∧ (0 ≤ B 3 s ∧ B 3 s ≤ 5) ∧ (0 ≤ B 4 s ∧ B 4 s ≤ B 5 s) ∧ B 5 s ≤ V (nbS s) 0 := by
    intro s hs
    rw [a1, a3, a4, a5]
    have q := hAb s hs
    split
    · rename_i q2
      subst q2
      omega
    · exact q
  obtain ⟨v1, v2, v3, v4, v5, v6, v7⟩ := F1 1 (Or.inr rfl)
  have b1 := hBb 1 (Or.inr rfl)
  have c1 := hcb B 1
  have r1 := hnb B 1 (Or.inr rfl) b1.2.1 b1.2.2.1 b1.2.2.2
  have s1 := SLv_b (s := 1) (a := B 4 1) (b := B 5 1) hV (Or.inr rfl) (by omega) (by omega) (by omega)
  have l1 := (nbO hV (s := 1) (Or.inr rfl)).1.1
  simp (maxSteps := 4000000) only [blk_s, blk_z, a_const, a_iload, a_aload, a_istore, a_astore, a_iinc, a_add, a_sub, a_mul, a_div, a_rem, a_dup, a_dup2, a_goto, a_ifnull, a_tsw, a_gi, a_gr, a_pi, a_ald, a_sld, a_ast, a_aald, a_len, a_gst, a_copy, a_max, a_min, a_iret, a_zret, a_aret, a_ret, a_cv, a_cn, a_sv, a_sn, icmp_t, icmp_f, aif_t, aif_f, lget, lset, fget, rget, apop, isO, Kv, Kn, fitb0, cmp, swl, InR, up, cpy, ↓reduceIte, if_true, if_false, Nat.left_eq_add, Nat.add_eq_left, Nat.add_left_cancel_iff, Nat.reduceEqDiff, Nat.zero_le, true_and, and_true, true_or, or_true, not_true_eq_false, not_false_eq_true, false_and, and_false, false_implies, true_implies, forall_const, ne_eq, Decidable.not_not, List.length_cons, List.length_nil, reduceCtorEq, Int.toNat_zero, Int.toNat_one, Int.cast_ofNat_Int, Nat.reduceAdd, Nat.reduceSub, Nat.reduceMul, Nat.reduceLT, Nat.reduceLeDiff, Nat.reduceEqDiff, Int.reduceAdd, Int.reduceSub, Int.reduceMul, Int.reduceNeg, Int.reduceLT, Int.reduceLE, Int.reduceEq, Int.reduceNe, Int.reduceToNat, t_6_endSpread X, sxC hG, m1, mh]
  repeat (simp only [icmp_b, aif_b, cmp]; simp (maxSteps := 4000000) only [blk_s, blk_z, a_const, a_iload, a_aload, a_istore, a_astore, a_iinc, a_add, a_sub, a_mul, a_div, a_rem, a_dup, a_dup2, a_goto, a_ifnull, a_tsw, a_gi, a_gr, a_pi, a_ald, a_sld, a_ast, a_aald, a_len, a_gst, a_copy, a_max, a_min, a_iret, a_zret, a_aret, a_ret, a_cv, a_cn, a_sv, a_sn, icmp_t, icmp_f, aif_t, aif_f, lget, lset, fget, rget, apop, isO, Kv, Kn, fitb0, cmp, swl, InR, up, cpy, ↓reduceIte, if_true, if_false, Nat.left_eq_add, Nat.add_eq_left, Nat.add_left_cancel_iff, Nat.reduceEqDiff, Nat.zero_le, true_and, and_true, true_or, or_true, not_true_eq_false, not_false_eq_true, false_and, and_false, false_implies, true_implies, forall_const, ne_eq, Decidable.not_not, List.length_cons, List.length_nil, reduceCtorEq, Int.toNat_zero, Int.toNat_one, Int.cast_ofNat_Int, Nat.reduceAdd, Nat.reduceSub, Nat.reduceMul, Nat.reduceLT, Nat.reduceLeDiff, Nat.reduceEqDiff, Int.reduceAdd, Int.reduceSub, Int.reduceMul, Int.reduceNeg, Int.reduceLT, Int.reduceLE, Int.reduceEq, Int.reduceNe, Int.reduceToNat, t_6_endSpread X, sxC hG, m1, mh])
  repeat' (first | assumption | with_reducible apply And.intro | with_reducible intro _)
  all_goals (try omega)
  refine ms_carriedFrom (f := 142) hG (fS hG (by omega)) (fvr_B hV F1 hBb) (by unfold StK; rw [m17]; exact hK) (Or.inr rfl) ?_
  rw [carr_eq (Or.inr rfl) F1 m17]
  simp (maxSteps := 4000000) only [blk_s, blk_z, a_const, a_iload, a_aload, a_istore, a_astore, a_iinc, a_add, a_sub, a_mul, a_div, a_rem, a_dup, a_dup2, a_goto, a_ifnull, a_tsw, a_gi, a_gr, a_pi, a_ald, a_sld, a_ast, a_aald, a_len, a_gst, a_copy, a_max, a_min, a_iret, a_zret, a_aret, a_ret, a_cv, a_cn, a_sv, a_sn, icmp_t, icmp_f, aif_t, aif_f, lget, lset, fget, rget, apop, isO, Kv, Kn, fitb0, cmp, swl, InR, up, cpy, ↓reduceIte, if_true, if_false, Nat.left_eq_add, Nat.add_eq_left, Nat.add_left_cancel_iff, Nat.reduceEqDiff, Nat.zero_le, true_and, and_true, true_or, or_true, not_true_eq_false, not_false_eq_true, false_and, and_false, false_implies, true_implies, forall_const, ne_eq, Decidable.not_not, List.length_cons, List.length_nil, reduceCtorEq, Int.toNat_zero, Int.toNat_one, Int.cast_ofNat_Int, Nat.reduceAdd, Nat.reduceSub, Nat.reduceMul, Nat.reduceLT, Nat.reduceLeDiff, Nat.reduceEqDiff, Int.reduceAdd, Int.reduceSub, Int.reduceMul, Int.reduceNeg, Int.reduceLT, Int.reduceLE, Int.reduceEq, Int.reduceNe, Int.reduceToNat, t_6_endSpread X, sxC hG, m17]
  repeat (simp only [icmp_b, aif_b, cmp]; simp (maxSteps := 4000000) only [blk_s, blk_z, a_const, a_iload, a_aload, a_istore, a_astore, a_iinc, a_add, a_sub, a_mul, a_div, a_rem, a_dup, a_dup2, a_goto, a_ifnull, a_tsw, a_gi, a_gr, a_pi, a_ald, a_sld, a_ast, a_aald, a_len, a_gst, a_copy, a_max, a_min, a_iret, a_zret, a_aret, a_ret, a_cv, a_cn, a_sv, a_sn, icmp_t, icmp_f, aif_t, aif_f, lget, lset, fget, rget, apop, isO, Kv, Kn, fitb0, cmp, swl, InR, up, cpy, ↓reduceIte, if_true, if_false, Nat.left_eq_add, Nat.add_eq_left, Nat.add_left_cancel_iff, Nat.reduceEqDiff, Nat.zero_le, true_and, and_true, true_or, or_true, not_true_eq_false, not_false_eq_true, false_and, and_false, false_implies, true_implies, forall_const, ne_eq, Decidable.not_not, List.length_cons, List.length_nil, reduceCtorEq, Int.toNat_zero, Int.toNat_one, Int.cast_ofNat_Int, Nat.reduceAdd, Nat.reduceSub, Nat.reduceMul, Nat.reduceLT, Nat.reduceLeDiff, Nat.reduceEqDiff, Int.reduceAdd, Int.reduceSub, Int.reduceMul, Int.reduceNeg, Int.reduceLT, Int.reduceLE, Int.reduceEq, Int.reduceNe, Int.reduceToNat, t_6_endSpread X, sxC hG, m17])
  repeat' (first | assumption | with_reducible apply And.intro | with_reducible intro _)
  all_goals (try omega)
  refine ms_noteRows (f := 142) (fS hG (by omega)) (by omega) (by omega) (by rw [v3]; omega) (by rw [v6]; omega) ?_
  rw [← m17, nrow_eq (Or.inr rfl) F1 m17]
  simp (maxSteps := 4000000) only [blk_s, blk_z, a_const, a_iload, a_aload, a_istore, a_astore, a_iinc, a_add, a_sub, a_mul, a_div, a_rem, a_dup, a_dup2, a_goto, a_ifnull, a_tsw, a_gi, a_gr, a_pi, a_ald, a_sld, a_ast, a_aald, a_len, a_gst, a_copy, a_max, a_min, a_iret, a_zret, a_aret, a_ret, a_cv, a_cn, a_sv, a_sn, icmp_t, icmp_f, aif_t, aif_f, lget, lset, fget, rget, apop, isO, Kv, Kn, fitb0, cmp, swl, InR, up, cpy, ↓reduceIte, if_true, if_false, Nat.left_eq_add, Nat.add_eq_left, Nat.add_left_cancel_iff, Nat.reduceEqDiff, Nat.zero_le, true_and, and_true, true_or, or_true, not_true_eq_false, not_false_eq_true, false_and, and_false, false_implies, true_implies, forall_const, ne_eq, Decidable.not_not, List.length_cons, List.length_nil, reduceCtorEq, Int.toNat_zero, Int.toNat_one, Int.cast_ofNat_Int, Nat.reduceAdd, Nat.reduceSub, Nat.reduceMul, Nat.reduceLT, Nat.reduceLeDiff, Nat.reduceEqDiff, Int.reduceAdd, Int.reduceSub, Int.reduceMul, Int.reduceNeg, Int.reduceLT, Int.reduceLE, Int.reduceEq, Int.reduceNe, Int.reduceToNat, t_6_endSpread X, sxC hG, mh, show σ1 143 1 = B 1 1 from v1, show σ1 145 1 = B 3 1 from v3, show σ1 146 1 = B 4 1 from v4, show σ1 147 1 = B 5 1 - B 4 1 from v5]
  repeat (simp only [icmp_b, aif_b, cmp]; simp (maxSteps := 4000000) only [blk_s, blk_z, a_const, a_iload, a_aload, a_istore, a_astore, a_iinc, a_add, a_sub, a_mul, a_div, a_rem, a_dup, a_dup2, a_goto, a_ifnull, a_tsw, a_gi, a_gr, a_pi, a_ald, a_sld, a_ast, a_aald, a_len, a_gst, a_copy, a_max, a_min, a_iret, a_zret, a_aret, a_ret, a_cv, a_cn, a_sv, a_sn, icmp_t, icmp_f, aif_t, aif_f, lget, lset, fget, rget, apop, isO, Kv, Kn, fitb0, cmp, swl, InR, up, cpy, ↓reduceIte, if_true, if_false, Nat.left_eq_add, Nat.add_eq_left, Nat.add_left_cancel_iff, Nat.reduceEqDiff, Nat.zero_le, true_and, and_true, true_or, or_true, not_true_eq_false, not_false_eq_true, false_and, and_false, false_implies, true_implies, forall_const, ne_eq, Decidable.not_not, List.length_cons, List.length_nil, reduceCtorEq, Int.toNat_zero, Int.toNat_one, Int.cast_ofNat_Int, Nat.reduceAdd, Nat.reduceSub, Nat.reduceMul, Nat.reduceLT, Nat.reduceLeDiff, Nat.reduceEqDiff, Int.reduceAdd, Int.reduceSub, Int.reduceMul, Int.reduceNeg, Int.reduceLT, Int.reduceLE, Int.reduceEq, Int.reduceNe, Int.reduceToNat, t_6_endSpread X, sxC hG, mh, show σ1 143 1 = B 1 1 from v1, show σ1 145 1 = B 3 1 from v3, show σ1 146 1 = B 4 1 from v4, show σ1 147 1 = B 5 1 - B 4 1 from v5])
  repeat' (first | assumption | with_reducible apply And.intro | with_reducible intro _)
  all_goals (try omega)
  refine ms_turn (f := 142) (fS hG (by omega)) (by omega) ?_
  rw [show B 4 1 + (B 5 1 - B 4 1) = B 5 1 by omega]
  show Kn _ _ _ _ _ _ _ (turnF (clsS σ1 (2 * B 0 2 + 1) (B 1 1) (nrA V B h 1) (max 0 (h - B 1 1 - nrA V B h 1)) (B 3 1) (cA V B h 1) (B 5 1 - B 4 1) (B 4 1)) 142 1 (cA V B h 1) (B 5 1))
  obtain ⟨σ2, E2⟩ : ∃ s, s = turnF (clsS σ1 (2 * B 0 2 + 1) (B 1 1) (nrA V B h 1) (max 0 (h - B 1 1 - nrA V B h 1)) (B 3 1) (cA V B h 1) (B 5 1 - B 4 1) (B 4 1)) 142 1 (cA V B h 1) (B 5 1) := ⟨_, rfl⟩
  rw [← E2]
  obtain ⟨F2, g2, k2⟩ := end_side (Or.inr rfl) F1 σ2 E2
  have k3 : ∀ a, (a < 135 ∨ 149 < a ∨ a = 142) → σ2 a = σ a := fun a ha => by rw [k2 a ha, k1 a ha]
  have p1 : σ2 122 1 = A 0 2 := by rw [k3 122 (by omega)]; exact n1
  have p6 : σ2 122 6 = A 0 1 := by rw [k3 122 (by omega)]; exact n6
  have hsg := hA.2.2.1
  simp (maxSteps := 4000000) only [blk_s, blk_z, a_const, a_iload, a_aload, a_istore, a_astore, a_iinc, a_add, a_sub, a_mul, a_div, a_rem, a_dup, a_dup2, a_goto, a_ifnull, a_tsw, a_gi, a_gr, a_pi, a_ald, a_sld, a_ast, a_aald, a_len, a_gst, a_copy, a_max, a_min, a_iret, a_zret, a_aret, a_ret, a_cv, a_cn, a_sv, a_sn, icmp_t, icmp_f, aif_t, aif_f, lget, lset, fget, rget, apop, isO, Kv, Kn, fitb0, cmp, swl, InR, up, cpy, ↓reduceIte, if_true, if_false, Nat.left_eq_add, Nat.add_eq_left, Nat.add_left_cancel_iff, Nat.reduceEqDiff, Nat.zero_le, true_and, and_true, true_or, or_true, not_true_eq_false, not_false_eq_true, false_and, and_false, false_implies, true_implies, forall_const, ne_eq, Decidable.not_not, List.length_cons, List.length_nil, reduceCtorEq, Int.toNat_zero, Int.toNat_one, Int.cast_ofNat_Int, Nat.reduceAdd, Nat.reduceSub, Nat.reduceMul, Nat.reduceLT, Nat.reduceLeDiff, Nat.reduceEqDiff, Int.reduceAdd, Int.reduceSub, Int.reduceMul, Int.reduceNeg, Int.reduceLT, Int.reduceLE, Int.reduceEq, Int.reduceNe, Int.reduceToNat, t_6_endSpread X, sxC hG, p1, p6]
  repeat (simp only [icmp_b, aif_b, cmp]; simp (maxSteps := 4000000) only [blk_s, blk_z, a_const, a_iload, a_aload, a_istore, a_astore, a_iinc, a_add, a_sub, a_mul, a_div, a_rem, a_dup, a_dup2, a_goto, a_ifnull, a_tsw, a_gi, a_gr, a_pi, a_ald, a_sld, a_ast, a_aald, a_len, a_gst, a_copy, a_max, a_min, a_iret, a_zret, a_aret, a_ret, a_cv, a_cn, a_sv, a_sn, icmp_t, icmp_f, aif_t, aif_f, lget, lset, fget, rget, apop, isO, Kv, Kn, fitb0, cmp, swl, InR, up, cpy, ↓reduceIte, if_true, if_false, Nat.left_eq_add, Nat.add_eq_left, Nat.add_left_cancel_iff, Nat.reduceEqDiff, Nat.zero_le, true_and, and_true, true_or, or_true, not_true_eq_false, not_false_eq_true, false_and, and_false, false_implies, true_implies, forall_const, ne_eq, Decidable.not_not, List.length_cons, List.length_nil, reduceCtorEq, Int.toNat_zero, Int.toNat_one, Int.cast_ofNat_Int, Nat.reduceAdd, Nat.reduceSub, Nat.reduceMul, Nat.reduceLT, Nat.reduceLeDiff, Nat.reduceEqDiff, Int.reduceAdd, Int.reduceSub, Int.reduceMul, Int.reduceNeg, Int.reduceLT, Int.reduceLE, Int.reduceEq, Int.reduceNe, Int.reduceToNat, t_6_endSpread X, sxC hG, p1, p6])
  repeat' (first | assumption | with_reducible apply And.intro | with_reducible intro _)
  all_goals (try omega)
  obtain ⟨⟨x1, x2, x3⟩, -, x6, x123, x124, -⟩ := endA_v V A h
  have eA : endA V A h = up (up (endS V B h 1) 0 2 (A 0 2 + 1)) 123 (A 0 2 + 1) (A 0 1) := by rw [hB]; rfl
  obtain ⟨d1, d2, d3, d4, d5, d6⟩ := hC
  refine hQ _ ⟨fun a q1 q2 => by rw [up_other (by omega), up_other (by omega), k3 a (by omega)]; exact hv a q1 q2, by rw [up_other (by omega)]; simp only [up, Int.reduceEq, and_false, if_false]; rw [k3 122 (by omega)]; exact hh, ⟨?_, ?_, fun j j0 j1 => ?_, fun j j0 j1 => ?_, fun w k w0 w1 q0 q1 => ?_, fun w k w0 w1 q0 q1 => ?_⟩, ?_, ?_⟩ (fun a ha => by rw [up_other (by omega), up_other (by omega), k3 a (by omega)])
  · rw [x3, up_other (by omega)]
    simp [up]
  · rw [x2, up_other (by omega)]
    simp [up, p6]
  · rw [x123]
    rw [x3] at j1
    by_cases c : j = A 0 2 + 1
    · rw [if_pos c, c]
      simp [up]
    · rw [if_neg c]
      simp only [up, c, and_false, if_false, Nat.reduceEqDiff, false_and]
      rw [k3 123 (by omega)]
      exact d3 j j0 (by omega)
  · rw [x124 124 (by omega), up_other (by omega), up_other (by omega), k3 124 (by omega)]
    exact d4 j j0 (by omega)
  · rw [x124 w (by omega), up_other (by omega), up_other (by omega), k3 w (by omega)]
    rw [x2] at q1
    exact d5 w k w0 w1 q0 q1
  · rw [x3] at q1
    rw [eA, up_other (by omega), up_other (by omega), up_other (by omega), up_other (by omega), g2 w k w0 w1, z2]
    by_cases y1 : k = 2 * A 0 2 + 1
    · rw [if_pos y1]
    · rw [if_neg y1, endS_o w0 w1 (by rw [z2]; exact y1), g1 w k w0 w1]
      by_cases y0 : k = 2 * A 0 2 + 0
      · rw [if_pos y0, hB]
      · rw [if_neg y0, hB, endS_o w0 w1 y0]
        exact d6 w k w0 w1 q0 (by omega)
  · rw [eA]
    exact fvr_b (fvr_c F2 (fun a q1 q2 => by rw [up_other (by omega), up_other (by omega)])) (fun s hs => by simp [up])
  · obtain ⟨y1, y2⟩ := hP
    refine ⟨by rw [x1, up_other (by omega), up_other (by omega), k3 158 (by omega)]; exact y1, fun s hs => ?_⟩
    rw [x1, x6, up_other (by omega), up_other (by omega), up_other (by omega), up_other (by omega), k3 159 (by omega), k3 160 (by omega)]
    have : pL V (endA V A h) s = pL V A s := by
      unfold pL
      rw [x1, x6]
    rw [this]
    exact y2 s hs
set_option maxRecDepth 40000 in
theorem ms_isCarried (hG : CSh G) (hb : (0 ≤ σ 145 0 ∧ σ 145 0 ≤ 5) ∧ (0 ≤ σ 145 1 ∧ σ 145 1 ≤ 5)) (h : Q (some (.inl (if 0 < σ 145 0 + σ 145 1 then 1 else 0))) G σ) : MS X M_6_isCarried [.inr 122] G σ Q := by
  refine MS_in [some (.inr 122)] mok_6_isCarried (Nat.le_of_ble_eq_true rfl) rfl ?_
  refine blk_wp (tok_6_isCarried X) 1000 _ _ _ _ _ ?_
  simp (maxSteps := 4000000) only [blk_s, blk_z, a_const, a_iload, a_aload, a_istore, a_astore, a_iinc, a_add, a_sub, a_mul, a_div, a_rem, a_dup, a_dup2, a_goto, a_ifnull, a_tsw, a_gi, a_gr, a_pi, a_ald, a_sld, a_ast, a_aald, a_len, a_gst, a_copy, a_max, a_min, a_iret, a_zret, a_aret, a_ret, a_cv, a_cn, a_sv, a_sn, icmp_t, icmp_f, aif_t, aif_f, lget, lset, fget, rget, apop, isO, Kv, Kn, fitb0, cmp, swl, InR, up, cpy, ↓reduceIte, if_true, if_false, Nat.left_eq_add, Nat.add_eq_left, Nat.add_left_cancel_iff, Nat.reduceEqDiff, Nat.zero_le, true_and, and_true, true_or, or_true, not_true_eq_false, not_false_eq_true, false_and, and_false, false_implies, true_implies, forall_const, ne_eq, Decidable.not_not, List.length_cons, List.length_nil, reduceCtorEq, Int.toNat_zero, Int.toNat_one, Int.cast_ofNat_Int, Nat.reduceAdd, Nat.reduceSub, Nat.reduceMul, Nat.reduceLT, Nat.reduceLeDiff, Nat.reduceEqDiff, Int.reduceAdd, Int.reduceSub, Int.reduceMul, Int.reduceNeg, Int.reduceLT, Int.reduceLE, Int.reduceEq, Int.reduceNe, Int.reduceToNat, t_6_isCarried X, sxC hG]
  repeat (simp only [icmp_b, aif_b, cmp]; simp (maxSteps := 4000000) only [blk_s, blk_z, a_const, a_iload, a_aload, a_istore, a_astore, a_iinc, a_add, a_sub, a_mul, a_div, a_rem, a_dup, a_dup2, a_goto, a_ifnull, a_tsw, a_gi, a_gr, a_pi, a_ald, a_sld, a_ast, a_aald, a_len, a_gst, a_copy, a_max, a_min, a_iret, a_zret, a_aret, a_ret, a_cv, a_cn, a_sv, a_sn, icmp_t, icmp_f, aif_t, aif_f, lget, lset, fget, rget, apop, isO, Kv, Kn, fitb0, cmp, swl, InR, up, cpy, ↓reduceIte, if_true, if_false, Nat.left_eq_add, Nat.add_eq_left, Nat.add_left_cancel_iff, Nat.reduceEqDiff, Nat.zero_le, true_and, and_true, true_or, or_true, not_true_eq_false, not_false_eq_true, false_and, and_false, false_implies, true_implies, forall_const, ne_eq, Decidable.not_not, List.length_cons, List.length_nil, reduceCtorEq, Int.toNat_zero, Int.toNat_one, Int.cast_ofNat_Int, Nat.reduceAdd, Nat.reduceSub, Nat.reduceMul, Nat.reduceLT, Nat.reduceLeDiff, Nat.reduceEqDiff, Int.reduceAdd, Int.reduceSub, Int.reduceMul, Int.reduceNeg, Int.reduceLT, Int.reduceLE, Int.reduceEq, Int.reduceNe, Int.reduceToNat, t_6_isCarried X, sxC hG])
  by_cases c : 0 < σ 145 0 + σ 145 1
  · rw [if_pos c] at h
    repeat' (first | assumption | with_reducible apply And.intro | with_reducible intro _)
    all_goals (try omega)
  · rw [if_neg c] at h
    repeat' (first | assumption | with_reducible apply And.intro | with_reducible intro _)
    all_goals (try omega)
end
