/-! ===== the notes of a side ===== -/
def bef (E : Sto) (nb : Nat) (k p x : Int) : Prop := E (nb + 2) k < p ∨ E (nb + 2) k = p ∧ E (nb + 3) k < x
def isA (E : Sto) (nb : Nat) (p x m : Int) : Prop := 0 ≤ m ∧ m ≤ E nb 0 ∧ (∀ k, 0 ≤ k → k < m → bef E nb k p x) ∧ (∀ k, m ≤ k → k < E nb 0 → ¬ bef E nb k p x)
theorem isA_uniq {E : Sto} {nb : Nat} {p x m m' : Int} (h : isA E nb p x m) (h' : isA E nb p x m') : m = m' := by
  obtain ⟨a1, a2, a3, a4⟩ := h
  obtain ⟨b1, b2, b3, b4⟩ := h'
  rcases Int.lt_trichotomy m m' with q | q | q
  · exact absurd (b3 m a1 q) (a4 m (Int.le_refl m) (by omega))
  · exact q
  · exact absurd (a3 m' b1 q) (b4 m' (Int.le_refl m') (by omega))
/-- the order of notes -/
def NtO (E : Sto) (nb : Nat) : Prop := (0 ≤ E nb 0 ∧ E nb 0 ≤ 40) ∧ (∀ i j, 0 ≤ i → i < j → j < E nb 0 → E (nb + 2) i < E (nb + 2) j ∨ E (nb + 2) i = E (nb + 2) j ∧ E (nb + 3) i ≤ E (nb + 3) j)
/-- their ranges (lb: the row of the side's lines) -/
def NtR (E : Sto) (nb lb : Nat) : Prop := ∀ k, 0 ≤ k → k < E nb 0 → (0 ≤ E (nb + 2) k ∧ E (nb + 2) k < E 1 0) ∧ (0 ≤ E (nb + 3) k ∧ E (nb + 3) k < E lb (E (nb + 2) k)) ∧ 1 ≤ E (nb + 4) k ∧ E (nb + 4) k ≤ 10
theorem bef_down {E : Sto} {nb : Nat} (h : NtO E nb) {i j p x : Int} (hi : 0 ≤ i) (hij : i < j) (hj : j < E nb 0) (hb : bef E nb j p x) : bef E nb i p x := by
  have := h.2 i j hi hij hj
  unfold bef at *
  omega
theorem isA_ex {E : Sto} {nb : Nat} (h : NtO E nb) (p x : Int) : ∃ m, isA E nb p x m := by
  have key : ∀ n : Nat, (n : Int) ≤ E nb 0 → ∃ m, 0 ≤ m ∧ m ≤ (n : Int) ∧ (∀ k, 0 ≤ k → k < m → bef E nb k p x) ∧ (∀ k, m ≤ k → k < (n : Int) → ¬ bef E nb k p x) := by
    intro n
    induction n with
    | zero => intro _; exact ⟨0, by omega, by omega, fun k _ _ => by omega, fun k _ _ => by omega⟩
    | succ n ih =>
      intro hn
      obtain ⟨m, m1, m2, m3, m4⟩ := ih (by omega)
      by_cases hb : bef E nb (n : Int) p x
      · have hm : m = (n : Int) := by
          rcases (show m < (n : Int) ∨ (n : Int) ≤ m by omega) with q | q
          · exact absurd (bef_down h m1 q (by omega) hb) (m4 m (Int.le_refl m) q)
          · omega
        refine ⟨(n : Int) + 1, by omega, by omega, fun k k1 k2 => ?_, fun k k1 k2 => by omega⟩
        by_cases e : k = (n : Int)
        · rw [e]; exact hb
        · exact m3 k k1 (by omega)
      · refine ⟨m, m1, by omega, m3, fun k k1 k2 => ?_⟩
        by_cases e : k = (n : Int)
        · rw [e]; exact hb
        · exact m4 k k1 (by omega)
  have h1 := h.1
  obtain ⟨m, m1, m2, m3, m4⟩ := key (E nb 0).toNat (by omega)
  exact ⟨m, m1, by omega, m3, fun k k1 k2 => m4 k k1 (by omega)⟩
noncomputable def nA (E : Sto) (nb : Nat) (p x : Int) : Int := @dite _ (∃ m, isA E nb p x m) (Classical.propDecidable _) (fun h => Classical.choose h) (fun _ => 0)
theorem nA_is {E : Sto} {nb : Nat} (h : NtO E nb) (p x : Int) : isA E nb p x (nA E nb p x) := by
  unfold nA
  rw [dif_pos (isA_ex h p x)]
  exact Classical.choose_spec (isA_ex h p x)
theorem nA_eq {E : Sto} {nb : Nat} (h : NtO E nb) {p x m : Int} (hm : isA E nb p x m) : nA E nb p x = m := isA_uniq (nA_is h p x) hm
/-- the shapes of a side's notes -/
def NtS (G : List Sh) (nb : Nat) : Prop := shp (G, 0, 0) nb = some (.inl (4, [none, some (some (nb + 1))])) ∧ shp (G, 0, 0) (nb + 1) = some (.inr (.inr (false, [some (nb + 2), some (nb + 3), some (nb + 4)]))) ∧ shp (G, 0, 0) (nb + 2) = some (.inr (.inl (false, 40))) ∧ shp (G, 0, 0) (nb + 3) = some (.inr (.inl (false, 40))) ∧ shp (G, 0, 0) (nb + 4) = some (.inr (.inl (false, 40))) ∧ nb < 1000
theorem ntS7 {G : List Sh} (h : CSh G) : NtS G 7 := ⟨csh h (by decide) rfl, csh h (by decide) rfl, csh h (by decide) rfl, csh h (by decide) rfl, csh h (by decide) rfl, by decide⟩
theorem ntS12 {G : List Sh} (h : CSh G) : NtS G 12 := ⟨csh h (by decide) rfl, csh h (by decide) rfl, csh h (by decide) rfl, csh h (by decide) rfl, csh h (by decide) rfl, by decide⟩
section
variable {X : XT} {G : List Sh} {σ : Sto} {Q : QT} {nb : Nat}
theorem lp_endBefore (hS : NtS G nb) (hN : NtO σ nb) {kn p x m : Int} (hm : isA σ nb p x m) (h : Q (some (.inl m)) G σ) : ∀ (n : Nat) (i : Int), 0 ≤ i → i ≤ m → m - i ≤ n → WPc X M_4_endBefore Q 11 [some (.inr nb), some (.inl kn), some (.inl p), some (.inl x), some (.inr (nb + 2)), some (.inl i)] [] (G, 0, 0) σ := by
  obtain ⟨s0, s1, s2, s3, s4, hb⟩ := id hS
  obtain ⟨m1, m2, m3, m4⟩ := id hm
  have hc := hN.1
  intro n
  induction n with
  | zero =>
    intro i h0 h1 h2
    have e : i = m := by omega
    subst e
    have e2 := m4 i (Int.le_refl i)
    unfold bef at e2
    refine blk_at (tok_4_endBefore X) 1000 rfl ?_
    simp only [blk_s, a_const, a_iload, a_aload, a_istore, a_astore, a_iinc, a_add, a_sub, a_mul, a_div, a_rem, a_dup, a_dup2, a_goto, a_icmp, a_if, a_ifnull, a_tsw, a_gi, a_gr, a_pi, a_ald, a_sld, a_ast, a_aald, a_len, a_gst, a_copy, a_max, a_min, a_iret, a_zret, a_aret, a_ret, a_cv, a_cn, a_sv, a_sn, lget, lset, fget, rget, apop, isO, Kv, Kn, fitb0, cmp, swl, InR, up, cpy, ↓reduceIte, if_true, if_false, Nat.left_eq_add, Nat.add_eq_left, Nat.add_left_cancel_iff, Nat.reduceEqDiff, Nat.zero_le, true_and, and_true, true_or, or_true, not_true_eq_false, not_false_eq_true, false_and, and_false, false_implies, true_implies, forall_const, ne_eq, Decidable.not_not, List.length_cons, List.length_nil, reduceCtorEq, Int.toNat_zero, Int.toNat_one, Int.cast_ofNat_Int, Nat.reduceAdd, Nat.reduceSub, Nat.reduceMul, Nat.reduceLT, Nat.reduceLeDiff, Nat.reduceEqDiff, Int.reduceAdd, Int.reduceSub, Int.reduceMul, Int.reduceNeg, Int.reduceLT, Int.reduceLE, Int.reduceEq, Int.reduceNe, Int.reduceToNat, t_4_endBefore X, s0, s1, s2, s3, s4]
    repeat' (first | assumption | with_reducible apply And.intro | with_reducible intro _)
    all_goals (try omega)
  | succ n ih =>
    intro i h0 h1 h2
    by_cases e : i = m
    · subst e
      have e2 := m4 i (Int.le_refl i)
      unfold bef at e2
      refine blk_at (tok_4_endBefore X) 1000 rfl ?_
      simp only [blk_s, a_const, a_iload, a_aload, a_istore, a_astore, a_iinc, a_add, a_sub, a_mul, a_div, a_rem, a_dup, a_dup2, a_goto, a_icmp, a_if, a_ifnull, a_tsw, a_gi, a_gr, a_pi, a_ald, a_sld, a_ast, a_aald, a_len, a_gst, a_copy, a_max, a_min, a_iret, a_zret, a_aret, a_ret, a_cv, a_cn, a_sv, a_sn, lget, lset, fget, rget, apop, isO, Kv, Kn, fitb0, cmp, swl, InR, up, cpy, ↓reduceIte, if_true, if_false, Nat.left_eq_add, Nat.add_eq_left, Nat.add_left_cancel_iff, Nat.reduceEqDiff, Nat.zero_le, true_and, and_true, true_or, or_true, not_true_eq_false, not_false_eq_true, false_and, and_false, false_implies, true_implies, forall_const, ne_eq, Decidable.not_not, List.length_cons, List.length_nil, reduceCtorEq, Int.toNat_zero, Int.toNat_one, Int.cast_ofNat_Int, Nat.reduceAdd, Nat.reduceSub, Nat.reduceMul, Nat.reduceLT, Nat.reduceLeDiff, Nat.reduceEqDiff, Int.reduceAdd, Int.reduceSub, Int.reduceMul, Int.reduceNeg, Int.reduceLT, Int.reduceLE, Int.reduceEq, Int.reduceNe, Int.reduceToNat, t_4_endBefore X, s0, s1, s2, s3, s4]
      repeat' (first | assumption | with_reducible apply And.intro | with_reducible intro _)
      all_goals (try omega)
    · have e1 := m3 i h0 (by omega)
      unfold bef at e1
      have ih := ih (i + 1) (by omega) (by omega) (by omega)
      refine blk_at (tok_4_endBefore X) 1000 rfl ?_
      simp only [blk_s, a_const, a_iload, a_aload, a_istore, a_astore, a_iinc, a_add, a_sub, a_mul, a_div, a_rem, a_dup, a_dup2, a_goto, a_icmp, a_if, a_ifnull, a_tsw, a_gi, a_gr, a_pi, a_ald, a_sld, a_ast, a_aald, a_len, a_gst, a_copy, a_max, a_min, a_iret, a_zret, a_aret, a_ret, a_cv, a_cn, a_sv, a_sn, lget, lset, fget, rget, apop, isO, Kv, Kn, fitb0, cmp, swl, InR, up, cpy, ↓reduceIte, if_true, if_false, Nat.left_eq_add, Nat.add_eq_left, Nat.add_left_cancel_iff, Nat.reduceEqDiff, Nat.zero_le, true_and, and_true, true_or, or_true, not_true_eq_false, not_false_eq_true, false_and, and_false, false_implies, true_implies, forall_const, ne_eq, Decidable.not_not, List.length_cons, List.length_nil, reduceCtorEq, Int.toNat_zero, Int.toNat_one, Int.cast_ofNat_Int, Nat.reduceAdd, Nat.reduceSub, Nat.reduceMul, Nat.reduceLT, Nat.reduceLeDiff, Nat.reduceEqDiff, Int.reduceAdd, Int.reduceSub, Int.reduceMul, Int.reduceNeg, Int.reduceLT, Int.reduceLE, Int.reduceEq, Int.reduceNe, Int.reduceToNat, t_4_endBefore X, s0, s1, s2, s3, s4]
      repeat' (first | assumption | with_reducible apply And.intro | with_reducible intro _)
      all_goals (try omega)
theorem ms_endBefore (hS : NtS G nb) (hN : NtO σ nb) {kn p x : Int} (hk : 0 ≤ kn ∧ kn ≤ nA σ nb p x) (h : Q (some (.inl (nA σ nb p x))) G σ) : MS X M_4_endBefore [.inr nb, .inl kn, .inl p, .inl x] G σ Q := by
  have lp := lp_endBefore (X := X) hS hN (kn := kn) (nA_is hN p x) h (nA σ nb p x - kn).toNat kn hk.1 hk.2 (by omega)
  obtain ⟨s0, s1, s2, s3, s4, hb⟩ := id hS
  refine MS_in [some (.inr nb), some (.inl kn), some (.inl p), some (.inl x), none, none] mok_4_endBefore (Nat.le_of_ble_eq_true rfl) rfl ?_
  refine blk_wp (tok_4_endBefore X) 1000 _ _ _ _ _ ?_
  simp only [blk_s, a_const, a_iload, a_aload, a_istore, a_astore, a_iinc, a_add, a_sub, a_mul, a_div, a_rem, a_dup, a_dup2, a_goto, a_icmp, a_if, a_ifnull, a_tsw, a_gi, a_gr, a_pi, a_ald, a_sld, a_ast, a_aald, a_len, a_gst, a_copy, a_max, a_min, a_iret, a_zret, a_aret, a_ret, a_cv, a_cn, a_sv, a_sn, lget, lset, fget, rget, apop, isO, Kv, Kn, fitb0, cmp, swl, InR, up, cpy, ↓reduceIte, if_true, if_false, Nat.left_eq_add, Nat.add_eq_left, Nat.add_left_cancel_iff, Nat.reduceEqDiff, Nat.zero_le, true_and, and_true, true_or, or_true, not_true_eq_false, not_false_eq_true, false_and, and_false, false_implies, true_implies, forall_const, ne_eq, Decidable.not_not, List.length_cons, List.length_nil, reduceCtorEq, Int.toNat_zero, Int.toNat_one, Int.cast_ofNat_Int, Nat.reduceAdd, Nat.reduceSub, Nat.reduceMul, Nat.reduceLT, Nat.reduceLeDiff, Nat.reduceEqDiff, Int.reduceAdd, Int.reduceSub, Int.reduceMul, Int.reduceNeg, Int.reduceLT, Int.reduceLE, Int.reduceEq, Int.reduceNe, Int.reduceToNat, t_4_endBefore X, s0, s1, s2, s3, s4]
  repeat' (first | assumption | with_reducible apply And.intro | with_reducible intro _)
  all_goals (try omega)
theorem ms_before (hS : NtS G nb) (hN : NtO σ nb) {p x : Int} (h : Q (some (.inl (nA σ nb p x))) G σ) : MS X M_4_before [.inr nb, .inl p, .inl x] G σ Q := by
  obtain ⟨s0, s1, s2, s3, s4, hb⟩ := id hS
  refine MS_in [some (.inr nb), some (.inl p), some (.inl x)] mok_4_before (Nat.le_of_ble_eq_true rfl) rfl ?_
  refine blk_wp (tok_4_before X) 1000 _ _ _ _ _ ?_
  simp only [blk_s, a_const, a_iload, a_aload, a_istore, a_astore, a_iinc, a_add, a_sub, a_mul, a_div, a_rem, a_dup, a_dup2, a_goto, a_icmp, a_if, a_ifnull, a_tsw, a_gi, a_gr, a_pi, a_ald, a_sld, a_ast, a_aald, a_len, a_gst, a_copy, a_max, a_min, a_iret, a_zret, a_aret, a_ret, a_cv, a_cn, a_sv, a_sn, lget, lset, fget, rget, apop, isO, Kv, Kn, fitb0, cmp, swl, InR, up, cpy, ↓reduceIte, if_true, if_false, Nat.left_eq_add, Nat.add_eq_left, Nat.add_left_cancel_iff, Nat.reduceEqDiff, Nat.zero_le, true_and, and_true, true_or, or_true, not_true_eq_false, not_false_eq_true, false_and, and_false, false_implies, true_implies, forall_const, ne_eq, Decidable.not_not, List.length_cons, List.length_nil, reduceCtorEq, Int.toNat_zero, Int.toNat_one, Int.cast_ofNat_Int, Nat.reduceAdd, Nat.reduceSub, Nat.reduceMul, Nat.reduceLT, Nat.reduceLeDiff, Nat.reduceEqDiff, Int.reduceAdd, Int.reduceSub, Int.reduceMul, Int.reduceNeg, Int.reduceLT, Int.reduceLE, Int.reduceEq, Int.reduceNe, Int.reduceToNat, t_4_before X, s0]
  refine ⟨by omega, ?_⟩
  apply ms_endBefore hS hN ⟨by omega, (nA_is hN p x).1⟩
  simp only [blk_s, a_const, a_iload, a_aload, a_istore, a_astore, a_iinc, a_add, a_sub, a_mul, a_div, a_rem, a_dup, a_dup2, a_goto, a_icmp, a_if, a_ifnull, a_tsw, a_gi, a_gr, a_pi, a_ald, a_sld, a_ast, a_aald, a_len, a_gst, a_copy, a_max, a_min, a_iret, a_zret, a_aret, a_ret, a_cv, a_cn, a_sv, a_sn, lget, lset, fget, rget, apop, isO, Kv, Kn, fitb0, cmp, swl, InR, up, cpy, ↓reduceIte, if_true, if_false, Nat.left_eq_add, Nat.add_eq_left, Nat.add_left_cancel_iff, Nat.reduceEqDiff, Nat.zero_le, true_and, and_true, true_or, or_true, not_true_eq_false, not_false_eq_true, false_and, and_false, false_implies, true_implies, forall_const, ne_eq, Decidable.not_not, List.length_cons, List.length_nil, reduceCtorEq, Int.toNat_zero, Int.toNat_one, Int.cast_ofNat_Int, Nat.reduceAdd, Nat.reduceSub, Nat.reduceMul, Nat.reduceLT, Nat.reduceLeDiff, Nat.reduceEqDiff, Int.reduceAdd, Int.reduceSub, Int.reduceMul, Int.reduceNeg, Int.reduceLT, Int.reduceLE, Int.reduceEq, Int.reduceNe, Int.reduceToNat, t_4_before X]
  exact h
end
