/-- a note more -/
def plR (σ σ' : Sto) (nb : Nat) (at' p x l : Int) : Prop := (∀ a, a ≠ nb → a ≠ nb + 2 → a ≠ nb + 3 → a ≠ nb + 4 → σ' a = σ a) ∧ σ' nb 0 = σ nb 0 + 1 ∧
  (∀ k, 0 ≤ k → k ≤ σ nb 0 → σ' (nb + 2) k = (if k < at' then σ (nb + 2) k else if k = at' then p else σ (nb + 2) (k - 1))) ∧
  (∀ k, 0 ≤ k → k ≤ σ nb 0 → σ' (nb + 3) k = (if k < at' then σ (nb + 3) k else if k = at' then x else σ (nb + 3) (k - 1))) ∧
  (∀ k, 0 ≤ k → k ≤ σ nb 0 → σ' (nb + 4) k = (if k < at' then σ (nb + 4) k else if k = at' then l else σ (nb + 4) (k - 1)))
section
variable {X : XT} {G : List Sh} {σ : Sto} {Q : QT} {nb : Nat}
theorem ms_place (hS : NtS G nb) (hN : NtO σ nb) {p x l : Int} (hc : σ nb 0 < 40) (hx : 0 ≤ x ∧ x < 30) (h : ∀ σ', plR σ σ' nb (nA σ nb p (x + 1)) p x l → Q (some (.inl (nA σ nb p (x + 1)))) G σ') : MS X M_4_place [.inr nb, .inl p, .inl x, .inl l] G σ Q := by
  obtain ⟨s0, s1, s2, s3, s4, hb⟩ := id hS
  have hA := nA_is hN p (x + 1)
  have hA1 := hA.1
  have hA2 := hA.2.1
  obtain ⟨m, hm⟩ : ∃ m, nA σ nb p (x + 1) = m := ⟨_, rfl⟩
  rw [hm] at hA1 hA2 h
  refine MS_in [some (.inr nb), some (.inl p), some (.inl x), some (.inl l), none, none] mok_4_place (Nat.le_of_ble_eq_true rfl) rfl ?_
  refine blk_wp (tok_4_place X) 1000 _ _ _ _ _ ?_
  simp only [blk_s, a_const, a_iload, a_aload, a_istore, a_astore, a_iinc, a_add, a_sub, a_mul, a_div, a_rem, a_dup, a_dup2, a_goto, a_icmp, a_if, a_ifnull, a_tsw, a_gi, a_gr, a_pi, a_ald, a_sld, a_ast, a_aald, a_len, a_gst, a_copy, a_max, a_min, a_iret, a_zret, a_aret, a_ret, a_cv, a_cn, a_sv, a_sn, lget, lset, fget, rget, apop, isO, Kv, Kn, fitb0, cmp, swl, InR, up, cpy, ↓reduceIte, if_true, if_false, Nat.left_eq_add, Nat.add_eq_left, Nat.add_left_cancel_iff, Nat.reduceEqDiff, Nat.zero_le, true_and, and_true, true_or, or_true, not_true_eq_false, not_false_eq_true, false_and, and_false, false_implies, true_implies, forall_const, ne_eq, Decidable.not_not, List.length_cons, List.length_nil, reduceCtorEq, Int.toNat_zero, Int.toNat_one, Int.cast_ofNat_Int, Nat.reduceAdd, Nat.reduceSub, Nat.reduceMul, Nat.reduceLT, Nat.reduceLeDiff, Nat.reduceEqDiff, Int.reduceAdd, Int.reduceSub, Int.reduceMul, Int.reduceNeg, Int.reduceLT, Int.reduceLE, Int.reduceEq, Int.reduceNe, Int.reduceToNat, t_4_place X, s0]
  refine ⟨by omega, by omega, ?_⟩
  apply ms_before hS hN
  rw [hm]
  simp only [blk_s, a_const, a_iload, a_aload, a_istore, a_astore, a_iinc, a_add, a_sub, a_mul, a_div, a_rem, a_dup, a_dup2, a_goto, a_icmp, a_if, a_ifnull, a_tsw, a_gi, a_gr, a_pi, a_ald, a_sld, a_ast, a_aald, a_len, a_gst, a_copy, a_max, a_min, a_iret, a_zret, a_aret, a_ret, a_cv, a_cn, a_sv, a_sn, lget, lset, fget, rget, apop, isO, Kv, Kn, fitb0, cmp, swl, InR, up, cpy, ↓reduceIte, if_true, if_false, Nat.left_eq_add, Nat.add_eq_left, Nat.add_left_cancel_iff, Nat.reduceEqDiff, Nat.zero_le, true_and, and_true, true_or, or_true, not_true_eq_false, not_false_eq_true, false_and, and_false, false_implies, true_implies, forall_const, ne_eq, Decidable.not_not, List.length_cons, List.length_nil, reduceCtorEq, Int.toNat_zero, Int.toNat_one, Int.cast_ofNat_Int, Nat.reduceAdd, Nat.reduceSub, Nat.reduceMul, Nat.reduceLT, Nat.reduceLeDiff, Nat.reduceEqDiff, Int.reduceAdd, Int.reduceSub, Int.reduceMul, Int.reduceNeg, Int.reduceLT, Int.reduceLE, Int.reduceEq, Int.reduceNe, Int.reduceToNat, t_4_place X, s0, s1]
  repeat' (first | assumption | with_reducible apply And.intro | with_reducible intro _)
  all_goals (try omega)
  refine ms_openPlace s2 (by omega) (by omega) (by omega) ?_
  simp only [blk_s, a_const, a_iload, a_aload, a_istore, a_astore, a_iinc, a_add, a_sub, a_mul, a_div, a_rem, a_dup, a_dup2, a_goto, a_icmp, a_if, a_ifnull, a_tsw, a_gi, a_gr, a_pi, a_ald, a_sld, a_ast, a_aald, a_len, a_gst, a_copy, a_max, a_min, a_iret, a_zret, a_aret, a_ret, a_cv, a_cn, a_sv, a_sn, lget, lset, fget, rget, apop, isO, Kv, Kn, fitb0, cmp, swl, InR, up, cpy, ↓reduceIte, if_true, if_false, Nat.left_eq_add, Nat.add_eq_left, Nat.add_left_cancel_iff, Nat.reduceEqDiff, Nat.zero_le, true_and, and_true, true_or, or_true, not_true_eq_false, not_false_eq_true, false_and, and_false, false_implies, true_implies, forall_const, ne_eq, Decidable.not_not, List.length_cons, List.length_nil, reduceCtorEq, Int.toNat_zero, Int.toNat_one, Int.cast_ofNat_Int, Nat.reduceAdd, Nat.reduceSub, Nat.reduceMul, Nat.reduceLT, Nat.reduceLeDiff, Nat.reduceEqDiff, Int.reduceAdd, Int.reduceSub, Int.reduceMul, Int.reduceNeg, Int.reduceLT, Int.reduceLE, Int.reduceEq, Int.reduceNe, Int.reduceToNat, t_4_place X, s0, s1]
  repeat' (first | assumption | with_reducible apply And.intro | with_reducible intro _)
  all_goals (try omega)
  refine ms_openPlace s3 (by omega) (by omega) (by omega) ?_
  simp only [blk_s, a_const, a_iload, a_aload, a_istore, a_astore, a_iinc, a_add, a_sub, a_mul, a_div, a_rem, a_dup, a_dup2, a_goto, a_icmp, a_if, a_ifnull, a_tsw, a_gi, a_gr, a_pi, a_ald, a_sld, a_ast, a_aald, a_len, a_gst, a_copy, a_max, a_min, a_iret, a_zret, a_aret, a_ret, a_cv, a_cn, a_sv, a_sn, lget, lset, fget, rget, apop, isO, Kv, Kn, fitb0, cmp, swl, InR, up, cpy, ↓reduceIte, if_true, if_false, Nat.left_eq_add, Nat.add_eq_left, Nat.add_left_cancel_iff, Nat.reduceEqDiff, Nat.zero_le, true_and, and_true, true_or, or_true, not_true_eq_false, not_false_eq_true, false_and, and_false, false_implies, true_implies, forall_const, ne_eq, Decidable.not_not, List.length_cons, List.length_nil, reduceCtorEq, Int.toNat_zero, Int.toNat_one, Int.cast_ofNat_Int, Nat.reduceAdd, Nat.reduceSub, Nat.reduceMul, Nat.reduceLT, Nat.reduceLeDiff, Nat.reduceEqDiff, Int.reduceAdd, Int.reduceSub, Int.reduceMul, Int.reduceNeg, Int.reduceLT, Int.reduceLE, Int.reduceEq, Int.reduceNe, Int.reduceToNat, t_4_place X, s0, s1]
  repeat' (first | assumption | with_reducible apply And.intro | with_reducible intro _)
  all_goals (try omega)
  refine ms_openPlace s4 (by omega) (by omega) (by omega) ?_
  simp only [blk_s, a_const, a_iload, a_aload, a_istore, a_astore, a_iinc, a_add, a_sub, a_mul, a_div, a_rem, a_dup, a_dup2, a_goto, a_icmp, a_if, a_ifnull, a_tsw, a_gi, a_gr, a_pi, a_ald, a_sld, a_ast, a_aald, a_len, a_gst, a_copy, a_max, a_min, a_iret, a_zret, a_aret, a_ret, a_cv, a_cn, a_sv, a_sn, lget, lset, fget, rget, apop, isO, Kv, Kn, fitb0, cmp, swl, InR, up, cpy, ↓reduceIte, if_true, if_false, Nat.left_eq_add, Nat.add_eq_left, Nat.add_left_cancel_iff, Nat.reduceEqDiff, Nat.zero_le, true_and, and_true, true_or, or_true, not_true_eq_false, not_false_eq_true, false_and, and_false, false_implies, true_implies, forall_const, ne_eq, Decidable.not_not, List.length_cons, List.length_nil, reduceCtorEq, Int.toNat_zero, Int.toNat_one, Int.cast_ofNat_Int, Nat.reduceAdd, Nat.reduceSub, Nat.reduceMul, Nat.reduceLT, Nat.reduceLeDiff, Nat.reduceEqDiff, Int.reduceAdd, Int.reduceSub, Int.reduceMul, Int.reduceNeg, Int.reduceLT, Int.reduceLE, Int.reduceEq, Int.reduceNe, Int.reduceToNat, t_4_place X, s0, s1, s2, s3, s4]
  repeat' (first | assumption | with_reducible apply And.intro | with_reducible intro _)
  all_goals (try omega)
  apply h
  refine ⟨fun a h1 h2 h3 h4 => ?_, ?_, ?_, ?_, ?_⟩
  · funext i
    grind [up, cpy]
  · grind [up, cpy]
  · intro k k1 k2
    grind [up, cpy]
  · intro k k1 k2
    grind [up, cpy]
  · intro k k1 k2
    grind [up, cpy]
/-- the notes of [j, b) gone -/
def dsR (σ σ' : Sto) (nb : Nat) (j b : Int) : Prop := (∀ a, a ≠ nb → a ≠ nb + 2 → a ≠ nb + 3 → a ≠ nb + 4 → σ' a = σ a) ∧ σ' nb 0 = σ nb 0 - (b - j) ∧
  (∀ k, 0 ≤ k → k < σ nb 0 - (b - j) → σ' (nb + 2) k = (if k < j then σ (nb + 2) k else σ (nb + 2) (k + (b - j)))) ∧
  (∀ k, 0 ≤ k → k < σ nb 0 - (b - j) → σ' (nb + 3) k = (if k < j then σ (nb + 3) k else σ (nb + 3) (k + (b - j)))) ∧
  (∀ k, 0 ≤ k → k < σ nb 0 - (b - j) → σ' (nb + 4) k = (if k < j then σ (nb + 4) k else σ (nb + 4) (k + (b - j))))
theorem ms_drop (hS : NtS G nb) {k : Int} (hc : σ nb 0 ≤ 40) (hk : 0 ≤ k ∧ k < σ nb 0) (h : ∀ σ', dsR σ σ' nb k (k + 1) → Q none G σ') : MS X M_4_drop [.inr nb, .inl k] G σ Q := by
  obtain ⟨s0, s1, s2, s3, s4, hb⟩ := id hS
  refine MS_in [some (.inr nb), some (.inl k), none] mok_4_drop (Nat.le_of_ble_eq_true rfl) rfl ?_
  refine blk_wp (tok_4_drop X) 1000 _ _ _ _ _ ?_
  simp only [blk_s, a_const, a_iload, a_aload, a_istore, a_astore, a_iinc, a_add, a_sub, a_mul, a_div, a_rem, a_dup, a_dup2, a_goto, a_icmp, a_if, a_ifnull, a_tsw, a_gi, a_gr, a_pi, a_ald, a_sld, a_ast, a_aald, a_len, a_gst, a_copy, a_max, a_min, a_iret, a_zret, a_aret, a_ret, a_cv, a_cn, a_sv, a_sn, lget, lset, fget, rget, apop, isO, Kv, Kn, fitb0, cmp, swl, InR, up, cpy, ↓reduceIte, if_true, if_false, Nat.left_eq_add, Nat.add_eq_left, Nat.add_left_cancel_iff, Nat.reduceEqDiff, Nat.zero_le, true_and, and_true, true_or, or_true, not_true_eq_false, not_false_eq_true, false_and, and_false, false_implies, true_implies, forall_const, ne_eq, Decidable.not_not, List.length_cons, List.length_nil, reduceCtorEq, Int.toNat_zero, Int.toNat_one, Int.cast_ofNat_Int, Nat.reduceAdd, Nat.reduceSub, Nat.reduceMul, Nat.reduceLT, Nat.reduceLeDiff, Nat.reduceEqDiff, Int.reduceAdd, Int.reduceSub, Int.reduceMul, Int.reduceNeg, Int.reduceLT, Int.reduceLE, Int.reduceEq, Int.reduceNe, Int.reduceToNat, t_4_drop X, s0, s1]
  repeat' (first | assumption | with_reducible apply And.intro | with_reducible intro _)
  all_goals (try omega)
  refine ms_closePlace s2 (by omega) (by omega) (by omega) ?_
  simp only [blk_s, a_const, a_iload, a_aload, a_istore, a_astore, a_iinc, a_add, a_sub, a_mul, a_div, a_rem, a_dup, a_dup2, a_goto, a_icmp, a_if, a_ifnull, a_tsw, a_gi, a_gr, a_pi, a_ald, a_sld, a_ast, a_aald, a_len, a_gst, a_copy, a_max, a_min, a_iret, a_zret, a_aret, a_ret, a_cv, a_cn, a_sv, a_sn, lget, lset, fget, rget, apop, isO, Kv, Kn, fitb0, cmp, swl, InR, up, cpy, ↓reduceIte, if_true, if_false, Nat.left_eq_add, Nat.add_eq_left, Nat.add_left_cancel_iff, Nat.reduceEqDiff, Nat.zero_le, true_and, and_true, true_or, or_true, not_true_eq_false, not_false_eq_true, false_and, and_false, false_implies, true_implies, forall_const, ne_eq, Decidable.not_not, List.length_cons, List.length_nil, reduceCtorEq, Int.toNat_zero, Int.toNat_one, Int.cast_ofNat_Int, Nat.reduceAdd, Nat.reduceSub, Nat.reduceMul, Nat.reduceLT, Nat.reduceLeDiff, Nat.reduceEqDiff, Int.reduceAdd, Int.reduceSub, Int.reduceMul, Int.reduceNeg, Int.reduceLT, Int.reduceLE, Int.reduceEq, Int.reduceNe, Int.reduceToNat, t_4_drop X, s0, s1]
  repeat' (first | assumption | with_reducible apply And.intro | with_reducible intro _)
  all_goals (try omega)
  refine ms_closePlace s3 (by omega) (by omega) (by omega) ?_
  simp only [blk_s, a_const, a_iload, a_aload, a_istore, a_astore, a_iinc, a_add, a_sub, a_mul, a_div, a_rem, a_dup, a_dup2, a_goto, a_icmp, a_if, a_ifnull, a_tsw, a_gi, a_gr, a_pi, a_ald, a_sld, a_ast, a_aald, a_len, a_gst, a_copy, a_max, a_min, a_iret, a_zret, a_aret, a_ret, a_cv, a_cn, a_sv, a_sn, lget, lset, fget, rget, apop, isO, Kv, Kn, fitb0, cmp, swl, InR, up, cpy, ↓reduceIte, if_true, if_false, Nat.left_eq_add, Nat.add_eq_left, Nat.add_left_cancel_iff, Nat.reduceEqDiff, Nat.zero_le, true_and, and_true, true_or, or_true, not_true_eq_false, not_false_eq_true, false_and, and_false, false_implies, true_implies, forall_const, ne_eq, Decidable.not_not, List.length_cons, List.length_nil, reduceCtorEq, Int.toNat_zero, Int.toNat_one, Int.cast_ofNat_Int, Nat.reduceAdd, Nat.reduceSub, Nat.reduceMul, Nat.reduceLT, Nat.reduceLeDiff, Nat.reduceEqDiff, Int.reduceAdd, Int.reduceSub, Int.reduceMul, Int.reduceNeg, Int.reduceLT, Int.reduceLE, Int.reduceEq, Int.reduceNe, Int.reduceToNat, t_4_drop X, s0, s1]
  repeat' (first | assumption | with_reducible apply And.intro | with_reducible intro _)
  all_goals (try omega)
  refine ms_closePlace s4 (by omega) (by omega) (by omega) ?_
  simp only [blk_s, a_const, a_iload, a_aload, a_istore, a_astore, a_iinc, a_add, a_sub, a_mul, a_div, a_rem, a_dup, a_dup2, a_goto, a_icmp, a_if, a_ifnull, a_tsw, a_gi, a_gr, a_pi, a_ald, a_sld, a_ast, a_aald, a_len, a_gst, a_copy, a_max, a_min, a_iret, a_zret, a_aret, a_ret, a_cv, a_cn, a_sv, a_sn, lget, lset, fget, rget, apop, isO, Kv, Kn, fitb0, cmp, swl, InR, up, cpy, ↓reduceIte, if_true, if_false, Nat.left_eq_add, Nat.add_eq_left, Nat.add_left_cancel_iff, Nat.reduceEqDiff, Nat.zero_le, true_and, and_true, true_or, or_true, not_true_eq_false, not_false_eq_true, false_and, and_false, false_implies, true_implies, forall_const, ne_eq, Decidable.not_not, List.length_cons, List.length_nil, reduceCtorEq, Int.toNat_zero, Int.toNat_one, Int.cast_ofNat_Int, Nat.reduceAdd, Nat.reduceSub, Nat.reduceMul, Nat.reduceLT, Nat.reduceLeDiff, Nat.reduceEqDiff, Int.reduceAdd, Int.reduceSub, Int.reduceMul, Int.reduceNeg, Int.reduceLT, Int.reduceLE, Int.reduceEq, Int.reduceNe, Int.reduceToNat, t_4_drop X, s0, s1, s2, s3, s4]
  repeat' (first | assumption | with_reducible apply And.intro | with_reducible intro _)
  all_goals (try omega)
  apply h
  refine ⟨fun a h1 h2 h3 h4 => ?_, ?_, ?_, ?_, ?_⟩
  · funext i
    grind [up, cpy]
  · grind [up, cpy]
  · intro k k1 k2
    grind [up, cpy]
  · intro k k1 k2
    grind [up, cpy]
  · intro k k1 k2
    grind [up, cpy]
/-- pairs of the notes of [m, i) moved -/
def mvF (σ : Sto) (nb : Nat) (m i d : Int) (b : Nat) (k : Int) : Int := if b = nb + 2 ∧ m ≤ k ∧ k < i then σ b k + d else σ b k
theorem lp_movePairs (hS : NtS G nb) {m f d : Int} (hc : 0 ≤ m ∧ m ≤ σ nb 0 ∧ σ nb 0 ≤ 40) (hd : -1 ≤ d ∧ d ≤ 1) (hr : ∀ k, 0 ≤ k → k < σ nb 0 → 0 ≤ σ (nb + 2) k ∧ σ (nb + 2) k ≤ 30) (h : Q none G (mvF σ nb m (σ nb 0) d)) : ∀ (n : Nat) (i : Int), m ≤ i → i ≤ σ nb 0 → σ nb 0 - i ≤ n → WPc X M_4_movePairs Q 7 [some (.inr nb), some (.inl f), some (.inl d), some (.inl i)] [] (G, 0, 0) (mvF σ nb m i d) := by
  obtain ⟨s0, s1, s2, s3, s4, hb⟩ := id hS
  have hz : ∀ i, mvF σ nb m i d nb 0 = σ nb 0 := fun i => by simp [mvF]
  intro n
  induction n with
  | zero =>
    intro i h0 h1 h2
    have e : i = σ nb 0 := by omega
    subst e
    refine blk_at (tok_4_movePairs X) 1000 rfl ?_
    simp only [blk_s, a_const, a_iload, a_aload, a_istore, a_astore, a_iinc, a_add, a_sub, a_mul, a_div, a_rem, a_dup, a_dup2, a_goto, a_icmp, a_if, a_ifnull, a_tsw, a_gi, a_gr, a_pi, a_ald, a_sld, a_ast, a_aald, a_len, a_gst, a_copy, a_max, a_min, a_iret, a_zret, a_aret, a_ret, a_cv, a_cn, a_sv, a_sn, lget, lset, fget, rget, apop, isO, Kv, Kn, fitb0, cmp, swl, InR, up, cpy, ↓reduceIte, if_true, if_false, Nat.left_eq_add, Nat.add_eq_left, Nat.add_left_cancel_iff, Nat.reduceEqDiff, Nat.zero_le, true_and, and_true, true_or, or_true, not_true_eq_false, not_false_eq_true, false_and, and_false, false_implies, true_implies, forall_const, ne_eq, Decidable.not_not, List.length_cons, List.length_nil, reduceCtorEq, Int.toNat_zero, Int.toNat_one, Int.cast_ofNat_Int, Nat.reduceAdd, Nat.reduceSub, Nat.reduceMul, Nat.reduceLT, Nat.reduceLeDiff, Nat.reduceEqDiff, Int.reduceAdd, Int.reduceSub, Int.reduceMul, Int.reduceNeg, Int.reduceLT, Int.reduceLE, Int.reduceEq, Int.reduceNe, Int.reduceToNat, t_4_movePairs X, s0, s1, s2, s3, s4, hz]
    repeat' (first | assumption | with_reducible apply And.intro | with_reducible intro _)
    all_goals (try omega)
  | succ n ih =>
    intro i h0 h1 h2
    by_cases e : i = σ nb 0
    · subst e
      refine blk_at (tok_4_movePairs X) 1000 rfl ?_
      simp only [blk_s, a_const, a_iload, a_aload, a_istore, a_astore, a_iinc, a_add, a_sub, a_mul, a_div, a_rem, a_dup, a_dup2, a_goto, a_icmp, a_if, a_ifnull, a_tsw, a_gi, a_gr, a_pi, a_ald, a_sld, a_ast, a_aald, a_len, a_gst, a_copy, a_max, a_min, a_iret, a_zret, a_aret, a_ret, a_cv, a_cn, a_sv, a_sn, lget, lset, fget, rget, apop, isO, Kv, Kn, fitb0, cmp, swl, InR, up, cpy, ↓reduceIte, if_true, if_false, Nat.left_eq_add, Nat.add_eq_left, Nat.add_left_cancel_iff, Nat.reduceEqDiff, Nat.zero_le, true_and, and_true, true_or, or_true, not_true_eq_false, not_false_eq_true, false_and, and_false, false_implies, true_implies, forall_const, ne_eq, Decidable.not_not, List.length_cons, List.length_nil, reduceCtorEq, Int.toNat_zero, Int.toNat_one, Int.cast_ofNat_Int, Nat.reduceAdd, Nat.reduceSub, Nat.reduceMul, Nat.reduceLT, Nat.reduceLeDiff, Nat.reduceEqDiff, Int.reduceAdd, Int.reduceSub, Int.reduceMul, Int.reduceNeg, Int.reduceLT, Int.reduceLE, Int.reduceEq, Int.reduceNe, Int.reduceToNat, t_4_movePairs X, s0, s1, s2, s3, s4, hz]
      repeat' (first | assumption | with_reducible apply And.intro | with_reducible intro _)
      all_goals (try omega)
    · have ih := ih (i + 1) (by omega) (by omega) (by omega)
      have hi := hr i (by omega) (by omega)
      have hv : mvF σ nb m i d (nb + 2) i = σ (nb + 2) i := by simp [mvF]
      have hu : up (mvF σ nb m i d) (nb + 2) i (σ (nb + 2) i + d) = mvF σ nb m (i + 1) d := by
        funext b k
        grind [up, mvF]
      rw [← hu] at ih
      refine blk_at (tok_4_movePairs X) 1000 rfl ?_
      simp only [blk_s, a_const, a_iload, a_aload, a_istore, a_astore, a_iinc, a_add, a_sub, a_mul, a_div, a_rem, a_dup, a_dup2, a_goto, a_icmp, a_if, a_ifnull, a_tsw, a_gi, a_gr, a_pi, a_ald, a_sld, a_ast, a_aald, a_len, a_gst, a_copy, a_max, a_min, a_iret, a_zret, a_aret, a_ret, a_cv, a_cn, a_sv, a_sn, lget, lset, fget, rget, apop, isO, Kv, Kn, fitb0, cmp, swl, InR, up, cpy, ↓reduceIte, if_true, if_false, Nat.left_eq_add, Nat.add_eq_left, Nat.add_left_cancel_iff, Nat.reduceEqDiff, Nat.zero_le, true_and, and_true, true_or, or_true, not_true_eq_false, not_false_eq_true, false_and, and_false, false_implies, true_implies, forall_const, ne_eq, Decidable.not_not, List.length_cons, List.length_nil, reduceCtorEq, Int.toNat_zero, Int.toNat_one, Int.cast_ofNat_Int, Nat.reduceAdd, Nat.reduceSub, Nat.reduceMul, Nat.reduceLT, Nat.reduceLeDiff, Nat.reduceEqDiff, Int.reduceAdd, Int.reduceSub, Int.reduceMul, Int.reduceNeg, Int.reduceLT, Int.reduceLE, Int.reduceEq, Int.reduceNe, Int.reduceToNat, t_4_movePairs X, s0, s1, s2, s3, s4, hz, hv]
      repeat' (first | assumption | with_reducible apply And.intro | with_reducible intro _)
      all_goals (try omega)
theorem ms_movePairs (hS : NtS G nb) (hN : NtO σ nb) {f d : Int} (hd : -1 ≤ d ∧ d ≤ 1) (hr : ∀ k, 0 ≤ k → k < σ nb 0 → 0 ≤ σ (nb + 2) k ∧ σ (nb + 2) k ≤ 30) (h : Q none G (mvF σ nb (nA σ nb f 0) (σ nb 0) d)) : MS X M_4_movePairs [.inr nb, .inl f, .inl d] G σ Q := by
  obtain ⟨s0, s1, s2, s3, s4, hb⟩ := id hS
  have hA := nA_is hN f 0
  have lp := lp_movePairs (X := X) (f := f) hS (m := nA σ nb f 0) ⟨hA.1, hA.2.1, hN.1.2⟩ hd hr h (σ nb 0 - nA σ nb f 0).toNat (nA σ nb f 0) (Int.le_refl _) hA.2.1 (by omega)
  have e0 : mvF σ nb (nA σ nb f 0) (nA σ nb f 0) d = σ := by
    funext b k
    grind [mvF]
  rw [e0] at lp
  refine MS_in [some (.inr nb), some (.inl f), some (.inl d), none] mok_4_movePairs (Nat.le_of_ble_eq_true rfl) rfl ?_
  refine blk_wp (tok_4_movePairs X) 1000 _ _ _ _ _ ?_
  simp only [blk_s, a_const, a_iload, a_aload, a_istore, a_astore, a_iinc, a_add, a_sub, a_mul, a_div, a_rem, a_dup, a_dup2, a_goto, a_icmp, a_if, a_ifnull, a_tsw, a_gi, a_gr, a_pi, a_ald, a_sld, a_ast, a_aald, a_len, a_gst, a_copy, a_max, a_min, a_iret, a_zret, a_aret, a_ret, a_cv, a_cn, a_sv, a_sn, lget, lset, fget, rget, apop, isO, Kv, Kn, fitb0, cmp, swl, InR, up, cpy, ↓reduceIte, if_true, if_false, Nat.left_eq_add, Nat.add_eq_left, Nat.add_left_cancel_iff, Nat.reduceEqDiff, Nat.zero_le, true_and, and_true, true_or, or_true, not_true_eq_false, not_false_eq_true, false_and, and_false, false_implies, true_implies, forall_const, ne_eq, Decidable.not_not, List.length_cons, List.length_nil, reduceCtorEq, Int.toNat_zero, Int.toNat_one, Int.cast_ofNat_Int, Nat.reduceAdd, Nat.reduceSub, Nat.reduceMul, Nat.reduceLT, Nat.reduceLeDiff, Nat.reduceEqDiff, Int.reduceAdd, Int.reduceSub, Int.reduceMul, Int.reduceNeg, Int.reduceLT, Int.reduceLE, Int.reduceEq, Int.reduceNe, Int.reduceToNat, t_4_movePairs X, s0]
  refine ⟨by omega, ?_⟩
  apply ms_before hS hN
  simp only [blk_s, a_const, a_iload, a_aload, a_istore, a_astore, a_iinc, a_add, a_sub, a_mul, a_div, a_rem, a_dup, a_dup2, a_goto, a_icmp, a_if, a_ifnull, a_tsw, a_gi, a_gr, a_pi, a_ald, a_sld, a_ast, a_aald, a_len, a_gst, a_copy, a_max, a_min, a_iret, a_zret, a_aret, a_ret, a_cv, a_cn, a_sv, a_sn, lget, lset, fget, rget, apop, isO, Kv, Kn, fitb0, cmp, swl, InR, up, cpy, ↓reduceIte, if_true, if_false, Nat.left_eq_add, Nat.add_eq_left, Nat.add_left_cancel_iff, Nat.reduceEqDiff, Nat.zero_le, true_and, and_true, true_or, or_true, not_true_eq_false, not_false_eq_true, false_and, and_false, false_implies, true_implies, forall_const, ne_eq, Decidable.not_not, List.length_cons, List.length_nil, reduceCtorEq, Int.toNat_zero, Int.toNat_one, Int.cast_ofNat_Int, Nat.reduceAdd, Nat.reduceSub, Nat.reduceMul, Nat.reduceLT, Nat.reduceLeDiff, Nat.reduceEqDiff, Int.reduceAdd, Int.reduceSub, Int.reduceMul, Int.reduceNeg, Int.reduceLT, Int.reduceLE, Int.reduceEq, Int.reduceNe, Int.reduceToNat, t_4_movePairs X, s0]
  exact lp
end
