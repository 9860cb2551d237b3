theorem ds_O {σ σ' : Sto} {nb : Nat} {j b : Int} (hN : NtO σ nb) (h : dsR σ σ' nb j b) (hj : 0 ≤ j ∧ j ≤ b ∧ b ≤ σ nb 0) : NtO σ' nb := by
  obtain ⟨-, h0, h2, h3, -⟩ := h
  obtain ⟨hc, hs⟩ := hN
  refine ⟨by omega, fun i k k1 k2 k3 => ?_⟩
  rw [h2 i (by omega) (by omega), h2 k (by omega) (by omega), h3 i (by omega) (by omega), h3 k (by omega) (by omega)]
  have s1 := hs i k (by omega) k2 (by omega)
  have s2 := hs i (k + (b - j)) (by omega) (by omega) (by omega)
  have s3 := hs (i + (b - j)) (k + (b - j)) (by omega) (by omega) (by omega)
  by_cases e1 : i < j <;> by_cases e2 : k < j <;> simp only [e1, e2, if_true, if_false] <;> omega
theorem ds_step {σ σ1 σ2 : Sto} {nb : Nat} {j b : Int} (h : dsR σ σ1 nb j b) (h' : dsR σ1 σ2 nb (j - 1) j) (hj : 1 ≤ j ∧ j ≤ b ∧ b ≤ σ nb 0) : dsR σ σ2 nb (j - 1) b := by
  obtain ⟨a0, a1, a2, a3, a4⟩ := h
  obtain ⟨b0, b1, b2, b3, b4⟩ := h'
  refine ⟨fun a p1 p2 p3 p4 => (b0 a p1 p2 p3 p4).trans (a0 a p1 p2 p3 p4), by omega, fun k k1 k2 => ?_, fun k k1 k2 => ?_, fun k k1 k2 => ?_⟩
  · rw [b2 k k1 (by omega), a2 k k1 (by omega), a2 (k + (j - (j - 1))) (by omega) (by omega)]
    grind
  · rw [b3 k k1 (by omega), a3 k k1 (by omega), a3 (k + (j - (j - 1))) (by omega) (by omega)]
    grind
  · rw [b4 k k1 (by omega), a4 k k1 (by omega), a4 (k + (j - (j - 1))) (by omega) (by omega)]
    grind
theorem ds_0 {σ : Sto} {nb : Nat} {b : Int} : dsR σ σ nb b b := by
  refine ⟨fun _ _ _ _ _ => rfl, by omega, fun k k1 k2 => ?_, fun k k1 k2 => ?_, fun k k1 k2 => ?_⟩ <;> grind
/-- the notes of [a, b) gone, those behind them a pair lower -/
def dpR (σ σ' : Sto) (nb : Nat) (a b : Int) : Prop := (∀ i, i ≠ nb → i ≠ nb + 2 → i ≠ nb + 3 → i ≠ nb + 4 → σ' i = σ i) ∧ σ' nb 0 = σ nb 0 - (b - a) ∧
  (∀ k, 0 ≤ k → k < σ nb 0 - (b - a) → σ' (nb + 2) k = (if k < a then σ (nb + 2) k else σ (nb + 2) (k + (b - a)) - 1)) ∧
  (∀ k, 0 ≤ k → k < σ nb 0 - (b - a) → σ' (nb + 3) k = (if k < a then σ (nb + 3) k else σ (nb + 3) (k + (b - a)))) ∧
  (∀ k, 0 ≤ k → k < σ nb 0 - (b - a) → σ' (nb + 4) k = (if k < a then σ (nb + 4) k else σ (nb + 4) (k + (b - a))))
theorem dp_of {σ σ1 : Sto} {nb : Nat} {a b : Int} (h : dsR σ σ1 nb a b) (ha : 0 ≤ a) : dpR σ (mvF σ1 nb a (σ1 nb 0) (-1)) nb a b := by
  obtain ⟨a0, a1, a2, a3, a4⟩ := h
  refine ⟨fun i p1 p2 p3 p4 => ?_, ?_, fun k k1 k2 => ?_, fun k k1 k2 => ?_, fun k k1 k2 => ?_⟩
  · funext k
    have := a0 i p1 p2 p3 p4
    grind [mvF]
  · simp [mvF, a1]
  · have := a2 k k1 k2
    grind [mvF]
  · have := a3 k k1 k2
    grind [mvF]
  · have := a4 k k1 k2
    grind [mvF]
theorem nA_le {σ : Sto} {nb : Nat} (hN : NtO σ nb) (p : Int) : nA σ nb p 0 ≤ nA σ nb (p + 1) 0 := by
  obtain ⟨a1, a2, a3, a4⟩ := nA_is hN p 0
  obtain ⟨b1, b2, b3, b4⟩ := nA_is hN (p + 1) 0
  rcases (show nA σ nb p 0 ≤ nA σ nb (p + 1) 0 ∨ nA σ nb (p + 1) 0 < nA σ nb p 0 by omega) with h | h
  · exact h
  · have h1 := a3 _ b1 h
    have h2 := b4 _ (Int.le_refl _) (by omega)
    unfold bef at h1 h2
    omega
theorem ds_A {σ σ1 : Sto} {nb : Nat} {p : Int} (hN : NtO σ nb) (h : dsR σ σ1 nb (nA σ nb p 0) (nA σ nb (p + 1) 0)) (hr : ∀ k, 0 ≤ k → k < σ nb 0 → 0 ≤ σ (nb + 3) k) : nA σ1 nb p 0 = nA σ nb p 0 := by
  obtain ⟨a1, a2, a3, a4⟩ := nA_is hN p 0
  obtain ⟨b1, b2, b3, b4⟩ := nA_is hN (p + 1) 0
  have hle := nA_le hN p
  have hO := ds_O hN h ⟨a1, hle, b2⟩
  refine nA_eq hO ?_
  obtain ⟨-, h0, h2, h3, -⟩ := h
  refine ⟨a1, by omega, fun k k1 k2 => ?_, fun k k1 k2 => ?_⟩
  · have := a3 k k1 k2
    unfold bef at *
    rw [h2 k k1 (by omega), h3 k k1 (by omega), if_pos k2, if_pos k2]
    exact this
  · have e1 := b4 (k + (nA σ nb (p + 1) 0 - nA σ nb p 0)) (by omega) (by omega)
    have e2 := hr (k + (nA σ nb (p + 1) 0 - nA σ nb p 0)) (by omega) (by omega)
    unfold bef at *
    rw [h2 k (by omega) (by omega), h3 k (by omega) (by omega), if_neg (by omega), if_neg (by omega)]
    omega
section
variable {X : XT} {G : List Sh} {σ : Sto} {Q : QT} {nb : Nat}
theorem lp_dropPairN (hS : NtS G nb) (hN : NtO σ nb) {p a b : Int} (hp : 0 ≤ p ∧ p ≤ 30) (ha : a = nA σ nb p 0) (hb : b = nA σ nb (p + 1) 0) (hr : ∀ k, 0 ≤ k → k < σ nb 0 → (0 ≤ σ (nb + 2) k ∧ σ (nb + 2) k ≤ 30) ∧ 0 ≤ σ (nb + 3) k) (h : ∀ σ', dpR σ σ' nb a b → Q none G σ') : ∀ (n : Nat) (j : Int) (σ1 : Sto), a ≤ j → j ≤ b → j - a ≤ n → dsR σ σ1 nb j b → WPc X M_4_dropPair Q 18 [some (.inr nb), some (.inl p), some (.inl a), some (.inl (j - 1))] [] (G, 0, 0) σ1 := by
  have hA := nA_is hN p 0
  have hB := nA_is hN (p + 1) 0
  have hle := nA_le hN p
  rw [← ha] at hA hle
  rw [← hb] at hB hle
  have hA1 := hA.1
  have hB2 := hB.2.1
  have hc := hN.1
  obtain ⟨s0, s1, s2, s3, s4, hbb⟩ := id hS
  intro n
  have fin : ∀ (j : Int) (σ1 : Sto), j = a → dsR σ σ1 nb j b → WPc X M_4_dropPair Q 18 [some (.inr nb), some (.inl p), some (.inl a), some (.inl (j - 1))] [] (G, 0, 0) σ1 := by
    intro j σ1 e hd
    subst e
    have hO := ds_O hN hd ⟨hA1, hle, hB2⟩
    have hAe : nA σ1 nb p 0 = j := by
      rw [ha]
      refine ds_A hN ?_ (fun k k1 k2 => (hr k k1 k2).2)
      rw [← ha, ← hb]
      exact hd
    refine blk_at (tok_4_dropPair X) 1000 rfl ?_
    simp only [blk_s, a_const, a_iload, a_aload, a_istore, a_astore, a_iinc, a_add, a_sub, a_mul, a_div, a_rem, a_dup, a_dup2, a_goto, a_icmp, a_if, a_ifnull, a_tsw, a_gi, a_gr, a_pi, a_ald, a_sld, a_ast, a_aald, a_len, a_gst, a_copy, a_max, a_min, a_iret, a_zret, a_aret, a_ret, a_cv, a_cn, a_sv, a_sn, lget, lset, fget, rget, apop, isO, Kv, Kn, fitb0, cmp, swl, InR, up, cpy, ↓reduceIte, if_true, if_false, Nat.left_eq_add, Nat.add_eq_left, Nat.add_left_cancel_iff, Nat.reduceEqDiff, Nat.zero_le, true_and, and_true, true_or, or_true, not_true_eq_false, not_false_eq_true, false_and, and_false, false_implies, true_implies, forall_const, ne_eq, Decidable.not_not, List.length_cons, List.length_nil, reduceCtorEq, Int.toNat_zero, Int.toNat_one, Int.cast_ofNat_Int, Nat.reduceAdd, Nat.reduceSub, Nat.reduceMul, Nat.reduceLT, Nat.reduceLeDiff, Nat.reduceEqDiff, Int.reduceAdd, Int.reduceSub, Int.reduceMul, Int.reduceNeg, Int.reduceLT, Int.reduceLE, Int.reduceEq, Int.reduceNe, Int.reduceToNat, t_4_dropPair X, s0]
    repeat' (first | assumption | with_reducible apply And.intro | with_reducible intro _)
    all_goals (try omega)
    refine ms_movePairs hS hO (by omega) (fun k k1 k2 => ?_) ?_
    · have e := hd.2.1
      have e2 := hd.2.2.1 k k1 (by omega)
      have r1 := hr k (by omega) (by omega)
      have r2 := hr (k + (b - j)) (by omega) (by omega)
      rw [e2]
      split <;> omega
    · simp only [blk_s, a_const, a_iload, a_aload, a_istore, a_astore, a_iinc, a_add, a_sub, a_mul, a_div, a_rem, a_dup, a_dup2, a_goto, a_icmp, a_if, a_ifnull, a_tsw, a_gi, a_gr, a_pi, a_ald, a_sld, a_ast, a_aald, a_len, a_gst, a_copy, a_max, a_min, a_iret, a_zret, a_aret, a_ret, a_cv, a_cn, a_sv, a_sn, lget, lset, fget, rget, apop, isO, Kv, Kn, fitb0, cmp, swl, InR, up, cpy, ↓reduceIte, if_true, if_false, Nat.left_eq_add, Nat.add_eq_left, Nat.add_left_cancel_iff, Nat.reduceEqDiff, Nat.zero_le, true_and, and_true, true_or, or_true, not_true_eq_false, not_false_eq_true, false_and, and_false, false_implies, true_implies, forall_const, ne_eq, Decidable.not_not, List.length_cons, List.length_nil, reduceCtorEq, Int.toNat_zero, Int.toNat_one, Int.cast_ofNat_Int, Nat.reduceAdd, Nat.reduceSub, Nat.reduceMul, Nat.reduceLT, Nat.reduceLeDiff, Nat.reduceEqDiff, Int.reduceAdd, Int.reduceSub, Int.reduceMul, Int.reduceNeg, Int.reduceLT, Int.reduceLE, Int.reduceEq, Int.reduceNe, Int.reduceToNat, t_4_dropPair X]
      rw [hAe]
      exact h _ (dp_of hd hA1)
  induction n with
  | zero =>
    intro j σ1 h0 h1 h2 hd
    exact fin j σ1 (by omega) hd
  | succ n ih =>
    intro j σ1 h0 h1 h2 hd
    by_cases e : j = a
    · exact fin j σ1 e hd
    · have e1 := hd.2.1
      refine blk_at (tok_4_dropPair X) 1000 rfl ?_
      simp only [blk_s, a_const, a_iload, a_aload, a_istore, a_astore, a_iinc, a_add, a_sub, a_mul, a_div, a_rem, a_dup, a_dup2, a_goto, a_icmp, a_if, a_ifnull, a_tsw, a_gi, a_gr, a_pi, a_ald, a_sld, a_ast, a_aald, a_len, a_gst, a_copy, a_max, a_min, a_iret, a_zret, a_aret, a_ret, a_cv, a_cn, a_sv, a_sn, lget, lset, fget, rget, apop, isO, Kv, Kn, fitb0, cmp, swl, InR, up, cpy, ↓reduceIte, if_true, if_false, Nat.left_eq_add, Nat.add_eq_left, Nat.add_left_cancel_iff, Nat.reduceEqDiff, Nat.zero_le, true_and, and_true, true_or, or_true, not_true_eq_false, not_false_eq_true, false_and, and_false, false_implies, true_implies, forall_const, ne_eq, Decidable.not_not, List.length_cons, List.length_nil, reduceCtorEq, Int.toNat_zero, Int.toNat_one, Int.cast_ofNat_Int, Nat.reduceAdd, Nat.reduceSub, Nat.reduceMul, Nat.reduceLT, Nat.reduceLeDiff, Nat.reduceEqDiff, Int.reduceAdd, Int.reduceSub, Int.reduceMul, Int.reduceNeg, Int.reduceLT, Int.reduceLE, Int.reduceEq, Int.reduceNe, Int.reduceToNat, t_4_dropPair X, s0]
      repeat' (first | assumption | with_reducible apply And.intro | with_reducible intro _)
      all_goals (try omega)
      refine ms_drop hS (by omega) (by omega) (fun σ2 h2' => ?_)
      have ih := ih (j - 1) σ2 (by omega) (by omega) (by omega) (ds_step hd (by rw [show j - 1 + 1 = j by omega] at h2'; exact h2') (by omega))
      rw [show j - 1 - 1 = j - 1 + -1 by omega] at ih
      simp only [blk_s, a_const, a_iload, a_aload, a_istore, a_astore, a_iinc, a_add, a_sub, a_mul, a_div, a_rem, a_dup, a_dup2, a_goto, a_icmp, a_if, a_ifnull, a_tsw, a_gi, a_gr, a_pi, a_ald, a_sld, a_ast, a_aald, a_len, a_gst, a_copy, a_max, a_min, a_iret, a_zret, a_aret, a_ret, a_cv, a_cn, a_sv, a_sn, lget, lset, fget, rget, apop, isO, Kv, Kn, fitb0, cmp, swl, InR, up, cpy, ↓reduceIte, if_true, if_false, Nat.left_eq_add, Nat.add_eq_left, Nat.add_left_cancel_iff, Nat.reduceEqDiff, Nat.zero_le, true_and, and_true, true_or, or_true, not_true_eq_false, not_false_eq_true, false_and, and_false, false_implies, true_implies, forall_const, ne_eq, Decidable.not_not, List.length_cons, List.length_nil, reduceCtorEq, Int.toNat_zero, Int.toNat_one, Int.cast_ofNat_Int, Nat.reduceAdd, Nat.reduceSub, Nat.reduceMul, Nat.reduceLT, Nat.reduceLeDiff, Nat.reduceEqDiff, Int.reduceAdd, Int.reduceSub, Int.reduceMul, Int.reduceNeg, Int.reduceLT, Int.reduceLE, Int.reduceEq, Int.reduceNe, Int.reduceToNat, t_4_dropPair X]
      repeat' (first | assumption | with_reducible apply And.intro | with_reducible intro _)
      all_goals (try omega)
theorem ms_dropPairN (hS : NtS G nb) (hN : NtO σ nb) {p : Int} (hp : 0 ≤ p ∧ p ≤ 30) (hr : ∀ k, 0 ≤ k → k < σ nb 0 → (0 ≤ σ (nb + 2) k ∧ σ (nb + 2) k ≤ 30) ∧ 0 ≤ σ (nb + 3) k) (h : ∀ σ', dpR σ σ' nb (nA σ nb p 0) (nA σ nb (p + 1) 0) → Q none G σ') : MS X M_4_dropPair [.inr nb, .inl p] G σ Q := by
  obtain ⟨s0, s1, s2, s3, s4, hbb⟩ := id hS
  have hle := nA_le hN p
  have hA := (nA_is hN p 0).1
  have hB := (nA_is hN (p + 1) 0).2.1
  have hc := hN.1
  have lp := lp_dropPairN (X := X) hS hN hp rfl rfl hr h (nA σ nb (p + 1) 0 - nA σ nb p 0).toNat (nA σ nb (p + 1) 0) σ hle (Int.le_refl _) (by omega) ds_0
  refine MS_in [some (.inr nb), some (.inl p), none, none] mok_4_dropPair (Nat.le_of_ble_eq_true rfl) rfl ?_
  refine blk_wp (tok_4_dropPair X) 1000 _ _ _ _ _ ?_
  simp only [blk_s, a_const, a_iload, a_aload, a_istore, a_astore, a_iinc, a_add, a_sub, a_mul, a_div, a_rem, a_dup, a_dup2, a_goto, a_icmp, a_if, a_ifnull, a_tsw, a_gi, a_gr, a_pi, a_ald, a_sld, a_ast, a_aald, a_len, a_gst, a_copy, a_max, a_min, a_iret, a_zret, a_aret, a_ret, a_cv, a_cn, a_sv, a_sn, lget, lset, fget, rget, apop, isO, Kv, Kn, fitb0, cmp, swl, InR, up, cpy, ↓reduceIte, if_true, if_false, Nat.left_eq_add, Nat.add_eq_left, Nat.add_left_cancel_iff, Nat.reduceEqDiff, Nat.zero_le, true_and, and_true, true_or, or_true, not_true_eq_false, not_false_eq_true, false_and, and_false, false_implies, true_implies, forall_const, ne_eq, Decidable.not_not, List.length_cons, List.length_nil, reduceCtorEq, Int.toNat_zero, Int.toNat_one, Int.cast_ofNat_Int, Nat.reduceAdd, Nat.reduceSub, Nat.reduceMul, Nat.reduceLT, Nat.reduceLeDiff, Nat.reduceEqDiff, Int.reduceAdd, Int.reduceSub, Int.reduceMul, Int.reduceNeg, Int.reduceLT, Int.reduceLE, Int.reduceEq, Int.reduceNe, Int.reduceToNat, t_4_dropPair X, s0]
  refine ⟨by omega, ?_⟩
  apply ms_before hS hN
  simp only [blk_s, a_const, a_iload, a_aload, a_istore, a_astore, a_iinc, a_add, a_sub, a_mul, a_div, a_rem, a_dup, a_dup2, a_goto, a_icmp, a_if, a_ifnull, a_tsw, a_gi, a_gr, a_pi, a_ald, a_sld, a_ast, a_aald, a_len, a_gst, a_copy, a_max, a_min, a_iret, a_zret, a_aret, a_ret, a_cv, a_cn, a_sv, a_sn, lget, lset, fget, rget, apop, isO, Kv, Kn, fitb0, cmp, swl, InR, up, cpy, ↓reduceIte, if_true, if_false, Nat.left_eq_add, Nat.add_eq_left, Nat.add_left_cancel_iff, Nat.reduceEqDiff, Nat.zero_le, true_and, and_true, true_or, or_true, not_true_eq_false, not_false_eq_true, false_and, and_false, false_implies, true_implies, forall_const, ne_eq, Decidable.not_not, List.length_cons, List.length_nil, reduceCtorEq, Int.toNat_zero, Int.toNat_one, Int.cast_ofNat_Int, Nat.reduceAdd, Nat.reduceSub, Nat.reduceMul, Nat.reduceLT, Nat.reduceLeDiff, Nat.reduceEqDiff, Int.reduceAdd, Int.reduceSub, Int.reduceMul, Int.reduceNeg, Int.reduceLT, Int.reduceLE, Int.reduceEq, Int.reduceNe, Int.reduceToNat, t_4_dropPair X, s0]
  refine ⟨by omega, by omega, ?_⟩
  apply ms_before hS hN
  simp only [blk_s, a_const, a_iload, a_aload, a_istore, a_astore, a_iinc, a_add, a_sub, a_mul, a_div, a_rem, a_dup, a_dup2, a_goto, a_icmp, a_if, a_ifnull, a_tsw, a_gi, a_gr, a_pi, a_ald, a_sld, a_ast, a_aald, a_len, a_gst, a_copy, a_max, a_min, a_iret, a_zret, a_aret, a_ret, a_cv, a_cn, a_sv, a_sn, lget, lset, fget, rget, apop, isO, Kv, Kn, fitb0, cmp, swl, InR, up, cpy, ↓reduceIte, if_true, if_false, Nat.left_eq_add, Nat.add_eq_left, Nat.add_left_cancel_iff, Nat.reduceEqDiff, Nat.zero_le, true_and, and_true, true_or, or_true, not_true_eq_false, not_false_eq_true, false_and, and_false, false_implies, true_implies, forall_const, ne_eq, Decidable.not_not, List.length_cons, List.length_nil, reduceCtorEq, Int.toNat_zero, Int.toNat_one, Int.cast_ofNat_Int, Nat.reduceAdd, Nat.reduceSub, Nat.reduceMul, Nat.reduceLT, Nat.reduceLeDiff, Nat.reduceEqDiff, Int.reduceAdd, Int.reduceSub, Int.reduceMul, Int.reduceNeg, Int.reduceLT, Int.reduceLE, Int.reduceEq, Int.reduceNe, Int.reduceToNat, t_4_dropPair X, s0]
  repeat' (first | assumption | with_reducible apply And.intro | with_reducible intro _)
  all_goals (try omega)
end
