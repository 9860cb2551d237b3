theorem SLn_c {E E' : Sto} {nb : Nat} (h : E' (nb + 4) = E (nb + 4)) (a : Int) : ∀ n : Nat, SLn E' nb a n = SLn E nb a n
  | 0 => rfl
  | n + 1 => by
    show SLn E' nb a n + E' (nb + 4) (a + n) = SLn E nb a n + E (nb + 4) (a + n)
    rw [SLn_c h a n, h]
theorem SL_c {E E' : Sto} {nb : Nat} (h : E' (nb + 4) = E (nb + 4)) (a b : Int) : SL E' nb a b = SL E nb a b := SLn_c h a _
theorem up_self (σ : Sto) (a : Nat) (j : Int) : up σ a j (σ a j) = σ := by
  funext b i
  unfold up
  split
  · rename_i h
    rw [h.1, h.2]
  · rfl
/-- the row of a side's notes -/
def nbS (s : Int) : Nat := 7 + 5 * s.toNat
theorem nbS0 : nbS 0 = 7 := rfl
theorem nbS1 : nbS 1 = 12 := rfl
def putL (σ : Sto) (f nb : Nat) (s fr i : Int) : Sto := up (up σ (f + 7) s (if i = fr then σ (f + 7) s else σ (nb + 4) (i - 1))) (f + 6) s (σ (f + 6) s + SL σ nb fr i)
theorem putL_0 (σ : Sto) (f nb : Nat) (s fr : Int) : putL σ f nb s fr fr = σ := by
  unfold putL
  rw [if_pos rfl, SL_0, Int.add_zero, up_self, up_self]
theorem putL_s {σ : Sto} {f nb : Nat} {s fr i : Int} (h : fr ≤ i) : up (up (putL σ f nb s fr i) (f + 7) s (σ (nb + 4) i)) (f + 6) s (σ (f + 6) s + SL σ nb fr i + σ (nb + 4) i) = putL σ f nb s fr (i + 1) := by
  unfold putL
  rw [SL_s σ nb h, if_neg (show ¬ (i + 1 = fr) by omega), show i + 1 - 1 = i by omega]
  funext b k
  simp only [up]
  grind
theorem putL_o {σ : Sto} {f nb : Nat} {s fr i : Int} {a : Nat} (h : a ≠ f + 6) (h' : a ≠ f + 7) : putL σ f nb s fr i a = σ a := by
  unfold putL
  rw [up_other h, up_other h']
theorem putL_6 {σ : Sto} {f nb : Nat} {s fr i : Int} : putL σ f nb s fr i (f + 6) s = σ (f + 6) s + SL σ nb fr i := by simp [putL, up]
theorem putL_7 {σ : Sto} {f nb : Nat} {s fr i : Int} : putL σ f nb s fr i (f + 7) s = if i = fr then σ (f + 7) s else σ (nb + 4) (i - 1) := by simp [putL, up]
theorem putL_6' {σ : Sto} {f nb : Nat} {s t fr i : Int} (h : t ≠ s) : putL σ f nb s fr i (f + 6) t = σ (f + 6) t := by simp [putL, up, h]
theorem putL_7' {σ : Sto} {f nb : Nat} {s t fr i : Int} (h : t ≠ s) : putL σ f nb s fr i (f + 7) t = σ (f + 7) t := by simp [putL, up, h]
section
variable {X : XT} {G : List Sh} {σ : Sto} {Q : QT} {f pb : Nat}
set_option maxRecDepth 40000 in
theorem lp_put {nb : Nat} (hF : FS G f) (hS : NtS G nb) (hnb : nb < 90) {s fr e : Int} (hs : 0 ≤ s ∧ s ≤ 1) (h0 : 0 ≤ fr ∧ fr ≤ e ∧ e ≤ 40) (hr : ∀ k, 0 ≤ k → k < e → 1 ≤ σ (nb + 4) k ∧ σ (nb + 4) k ≤ 10) (hb : 0 ≤ σ (f + 6) s ∧ σ (f + 6) s ≤ 1000) (hE : WPc X M_2_put Q 78 [some (.inr f), some (.inr 1), some (.inr pb), some (.inl s), some (.inr nb), some (.inl fr), some (.inl e), some (.inl e)] [] (G, 0, 0) (putL σ f nb s fr e)) : ∀ (n : Nat) (i : Int), fr ≤ i → i ≤ e → e - i ≤ n → WPc X M_2_put Q 78 [some (.inr f), some (.inr 1), some (.inr pb), some (.inl s), some (.inr nb), some (.inl fr), some (.inl e), some (.inl i)] [] (G, 0, 0) (putL σ f nb s fr i) := by
  obtain ⟨f0, f1, f2, f3, f4, f5, f6, f7, fa, fb⟩ := hF
  obtain ⟨s0, s1, s2, s3, s4, sb⟩ := hS
  intro n
  induction n with
  | zero =>
    intro i h1 h2 h3
    rw [show i = e by omega]
    exact hE
  | succ n ih =>
    intro i h1 h2 h3
    by_cases c : i = e
    · rw [c]
      exact hE
    · have ih := ih (i + 1) (by omega) (by omega) (by omega)
      rw [← putL_s h1] at ih
      have hri := hr i (by omega) (by omega)
      have hSL := SL_b (E := σ) (nb := nb) (c := e) h1 h0.1 (by omega) hr
      have r4 : putL σ f nb s fr i (nb + 4) = σ (nb + 4) := putL_o (by omega) (by omega)
      have r6 := putL_6 (σ := σ) (f := f) (nb := nb) (s := s) (fr := fr) (i := i)
      refine blk_at (tok_2_put X) 1000 rfl ?_
      simp (maxSteps := 4000000) only [blk_s, blk_z, a_const, a_iload, a_aload, a_istore, a_astore, a_iinc, a_add, a_sub, a_mul, a_div, a_rem, a_dup, a_dup2, a_goto, a_ifnull, a_tsw, a_gi, a_gr, a_pi, a_ald, a_sld, a_ast, a_aald, a_len, a_gst, a_copy, a_max, a_min, a_iret, a_zret, a_aret, a_ret, a_cv, a_cn, a_sv, a_sn, icmp_t, icmp_f, aif_t, aif_f, lget, lset, fget, rget, apop, isO, Kv, Kn, fitb0, cmp, swl, InR, up, cpy, ↓reduceIte, if_true, if_false, Nat.left_eq_add, Nat.add_eq_left, Nat.add_left_cancel_iff, Nat.reduceEqDiff, Nat.zero_le, true_and, and_true, true_or, or_true, not_true_eq_false, not_false_eq_true, false_and, and_false, false_implies, true_implies, forall_const, ne_eq, Decidable.not_not, List.length_cons, List.length_nil, reduceCtorEq, Int.toNat_zero, Int.toNat_one, Int.cast_ofNat_Int, Nat.reduceAdd, Nat.reduceSub, Nat.reduceMul, Nat.reduceLT, Nat.reduceLeDiff, Nat.reduceEqDiff, Int.reduceAdd, Int.reduceSub, Int.reduceMul, Int.reduceNeg, Int.reduceLT, Int.reduceLE, Int.reduceEq, Int.reduceNe, Int.reduceToNat, t_2_put X, f0, f1, f2, f3, f4, f5, f6, f7, s0, s1, s2, s3, s4, r4, r6]
      repeat (simp only [icmp_b, aif_b, cmp]; simp (maxSteps := 4000000) only [blk_s, blk_z, a_const, a_iload, a_aload, a_istore, a_astore, a_iinc, a_add, a_sub, a_mul, a_div, a_rem, a_dup, a_dup2, a_goto, a_ifnull, a_tsw, a_gi, a_gr, a_pi, a_ald, a_sld, a_ast, a_aald, a_len, a_gst, a_copy, a_max, a_min, a_iret, a_zret, a_aret, a_ret, a_cv, a_cn, a_sv, a_sn, icmp_t, icmp_f, aif_t, aif_f, lget, lset, fget, rget, apop, isO, Kv, Kn, fitb0, cmp, swl, InR, up, cpy, ↓reduceIte, if_true, if_false, Nat.left_eq_add, Nat.add_eq_left, Nat.add_left_cancel_iff, Nat.reduceEqDiff, Nat.zero_le, true_and, and_true, true_or, or_true, not_true_eq_false, not_false_eq_true, false_and, and_false, false_implies, true_implies, forall_const, ne_eq, Decidable.not_not, List.length_cons, List.length_nil, reduceCtorEq, Int.toNat_zero, Int.toNat_one, Int.cast_ofNat_Int, Nat.reduceAdd, Nat.reduceSub, Nat.reduceMul, Nat.reduceLT, Nat.reduceLeDiff, Nat.reduceEqDiff, Int.reduceAdd, Int.reduceSub, Int.reduceMul, Int.reduceNeg, Int.reduceLT, Int.reduceLE, Int.reduceEq, Int.reduceNe, Int.reduceToNat, t_2_put X, f0, f1, f2, f3, f4, f5, f6, f7, s0, s1, s2, s3, s4, r4, r6])
      repeat' (first | assumption | with_reducible apply And.intro | with_reducible intro _)
      all_goals (try omega)
/-- a part put on pages f -/
def PutR (σ σ' : Sto) (f pb : Nat) : Prop := (∀ a, (a < f + 1 ∨ f + 7 < a) → σ' a = σ a) ∧ ∀ s, (s = 0 ∨ s = 1) →
  σ' (f + 1) s = σ (f + 2) s + σ (pb + 2) s ∧ σ' (f + 2) s = (if σ 17 5 = 1 then max (σ (f + 2) 0 + σ (pb + 2) 0) (σ (f + 2) 1 + σ (pb + 2) 1) else σ (f + 2) s + σ (pb + 2) s) + σ 17 1 ∧ σ' (f + 3) s = σ (f + 3) s ∧ σ' (f + 4) s = σ (f + 4) s ∧
  σ' (f + 5) s = nA σ (nbS s) (σ pb 0) (σ (pb + 1) s + σ (pb + 2) s) - σ (f + 4) s ∧ σ' (f + 6) s = σ (f + 6) s + SL σ (nbS s) (σ (f + 4) s + σ (f + 5) s) (nA σ (nbS s) (σ pb 0) (σ (pb + 1) s + σ (pb + 2) s)) ∧
  σ' (f + 7) s = if nA σ (nbS s) (σ pb 0) (σ (pb + 1) s + σ (pb + 2) s) = σ (f + 4) s + σ (f + 5) s then σ (f + 7) s else σ (nbS s + 4) (nA σ (nbS s) (σ pb 0) (σ (pb + 1) s + σ (pb + 2) s) - 1)
/-- what a part and pages must be -/
def PutB (σ : Sto) (f pb : Nat) : Prop := ∀ s, (s = 0 ∨ s = 1) → (0 ≤ σ (f + 2) s ∧ σ (f + 2) s ≤ 700) ∧ (0 ≤ σ (pb + 1) s ∧ σ (pb + 1) s ≤ 30) ∧ (0 ≤ σ (pb + 2) s ∧ σ (pb + 2) s ≤ 30) ∧ (0 ≤ σ (f + 4) s ∧ σ (f + 4) s ≤ 40) ∧ (0 ≤ σ (f + 5) s ∧ σ (f + 5) s ≤ 40) ∧ (0 ≤ σ (f + 6) s ∧ σ (f + 6) s ≤ 400) ∧ σ (f + 4) s + σ (f + 5) s ≤ nA σ (nbS s) (σ pb 0) (σ (pb + 1) s + σ (pb + 2) s)
set_option maxRecDepth 40000 in
theorem ms_put (hG : CSh G) (hF : FS G f) (hP : PS G pb) (hE : EdOK σ) (hB : PutB σ f pb) (hd : f + 7 < pb ∨ pb + 2 < f) (h : ∀ σ', PutR σ σ' f pb → Q none G σ') : MS X M_2_put [.inr f, .inr 1, .inr pb] G σ Q := by
  obtain ⟨f0, f1, f2, f3, f4, f5, f6, f7, fa, fb⟩ := id hF
  obtain ⟨p0, p1, p2, pa, pc⟩ := id hP
  obtain ⟨-, -, o7, o12, r7, r12, -, hK⟩ := id hE
  obtain ⟨b1, b2, b3, b4, b5, b6, b7⟩ := hB 0 (Or.inl rfl)
  obtain ⟨c1, c2, c3, c4, c5, c6, c7⟩ := hB 1 (Or.inr rfl)
  rw [nbS0] at b7
  rw [nbS1] at c7
  have A7 := nA_is o7 (σ pb 0) (σ (pb + 1) 0 + σ (pb + 2) 0)
  have A12 := nA_is o12 (σ pb 0) (σ (pb + 1) 1 + σ (pb + 2) 1)
  have A7b := A7.2.1
  have A12b := A12.2.1
  have l7 := o7.1.2
  have l12 := o12.1.2
  obtain ⟨e7, he7⟩ : ∃ e, nA σ 7 (σ pb 0) (σ (pb + 1) 0 + σ (pb + 2) 0) = e := ⟨_, rfl⟩
  obtain ⟨e12, he12⟩ : ∃ e, nA σ 12 (σ pb 0) (σ (pb + 1) 1 + σ (pb + 2) 1) = e := ⟨_, rfl⟩
  rw [he7] at b7 A7b
  rw [he12] at c7 A12b
  refine MS_in [some (.inr f), some (.inr 1), some (.inr pb), none, none, none, none, none] mok_2_put (Nat.le_of_ble_eq_true rfl) rfl ?_
  refine blk_wp (tok_2_put X) 1000 _ _ _ _ _ ?_
  simp (maxSteps := 4000000) only [blk_s, blk_z, a_const, a_iload, a_aload, a_istore, a_astore, a_iinc, a_add, a_sub, a_mul, a_div, a_rem, a_dup, a_dup2, a_goto, a_ifnull, a_tsw, a_gi, a_gr, a_pi, a_ald, a_sld, a_ast, a_aald, a_len, a_gst, a_copy, a_max, a_min, a_iret, a_zret, a_aret, a_ret, a_cv, a_cn, a_sv, a_sn, icmp_t, icmp_f, aif_t, aif_f, lget, lset, fget, rget, apop, isO, Kv, Kn, fitb0, cmp, swl, InR, up, cpy, ↓reduceIte, if_true, if_false, Nat.left_eq_add, Nat.add_eq_left, Nat.add_left_cancel_iff, Nat.reduceEqDiff, Nat.zero_le, true_and, and_true, true_or, or_true, not_true_eq_false, not_false_eq_true, false_and, and_false, false_implies, true_implies, forall_const, ne_eq, Decidable.not_not, List.length_cons, List.length_nil, reduceCtorEq, Int.toNat_zero, Int.toNat_one, Int.cast_ofNat_Int, Nat.reduceAdd, Nat.reduceSub, Nat.reduceMul, Nat.reduceLT, Nat.reduceLeDiff, Nat.reduceEqDiff, Int.reduceAdd, Int.reduceSub, Int.reduceMul, Int.reduceNeg, Int.reduceLT, Int.reduceLE, Int.reduceEq, Int.reduceNe, Int.reduceToNat, t_2_put X, sxC hG, f0, f1, f2, f3, f4, f5, f6, f7, p0, p1, p2]
  repeat (simp only [icmp_b, aif_b, cmp]; simp (maxSteps := 4000000) only [blk_s, blk_z, a_const, a_iload, a_aload, a_istore, a_astore, a_iinc, a_add, a_sub, a_mul, a_div, a_rem, a_dup, a_dup2, a_goto, a_ifnull, a_tsw, a_gi, a_gr, a_pi, a_ald, a_sld, a_ast, a_aald, a_len, a_gst, a_copy, a_max, a_min, a_iret, a_zret, a_aret, a_ret, a_cv, a_cn, a_sv, a_sn, icmp_t, icmp_f, aif_t, aif_f, lget, lset, fget, rget, apop, isO, Kv, Kn, fitb0, cmp, swl, InR, up, cpy, ↓reduceIte, if_true, if_false, Nat.left_eq_add, Nat.add_eq_left, Nat.add_left_cancel_iff, Nat.reduceEqDiff, Nat.zero_le, true_and, and_true, true_or, or_true, not_true_eq_false, not_false_eq_true, false_and, and_false, false_implies, true_implies, forall_const, ne_eq, Decidable.not_not, List.length_cons, List.length_nil, reduceCtorEq, Int.toNat_zero, Int.toNat_one, Int.cast_ofNat_Int, Nat.reduceAdd, Nat.reduceSub, Nat.reduceMul, Nat.reduceLT, Nat.reduceLeDiff, Nat.reduceEqDiff, Int.reduceAdd, Int.reduceSub, Int.reduceMul, Int.reduceNeg, Int.reduceLT, Int.reduceLE, Int.reduceEq, Int.reduceNe, Int.reduceToNat, t_2_put X, sxC hG, f0, f1, f2, f3, f4, f5, f6, f7, p0, p1, p2])
  repeat' (first | assumption | with_reducible apply And.intro | with_reducible intro _)
  all_goals (try omega)
  apply ms_notes hG
  obtain ⟨σ1, E1⟩ : ∃ s, s = up σ (f + 1) 0 (σ (f + 2) 0 + σ (pb + 2) 0) := ⟨_, rfl⟩
  rw [← E1]
  have k1 : ∀ a, a ≠ f + 1 → σ1 a = σ a := fun a ha => by rw [E1, up_other ha]
  obtain ⟨O7, N7⟩ := nt_eq o7 (k1 7 (by omega)) (k1 (7 + 2) (by omega)) (k1 (7 + 3) (by omega))
  simp (maxSteps := 4000000) only [blk_s, blk_z, a_const, a_iload, a_aload, a_istore, a_astore, a_iinc, a_add, a_sub, a_mul, a_div, a_rem, a_dup, a_dup2, a_goto, a_ifnull, a_tsw, a_gi, a_gr, a_pi, a_ald, a_sld, a_ast, a_aald, a_len, a_gst, a_copy, a_max, a_min, a_iret, a_zret, a_aret, a_ret, a_cv, a_cn, a_sv, a_sn, icmp_t, icmp_f, aif_t, aif_f, lget, lset, fget, rget, apop, isO, Kv, Kn, fitb0, cmp, swl, InR, up, cpy, ↓reduceIte, if_true, if_false, Nat.left_eq_add, Nat.add_eq_left, Nat.add_left_cancel_iff, Nat.reduceEqDiff, Nat.zero_le, true_and, and_true, true_or, or_true, not_true_eq_false, not_false_eq_true, false_and, and_false, false_implies, true_implies, forall_const, ne_eq, Decidable.not_not, List.length_cons, List.length_nil, reduceCtorEq, Int.toNat_zero, Int.toNat_one, Int.cast_ofNat_Int, Nat.reduceAdd, Nat.reduceSub, Nat.reduceMul, Nat.reduceLT, Nat.reduceLeDiff, Nat.reduceEqDiff, Int.reduceAdd, Int.reduceSub, Int.reduceMul, Int.reduceNeg, Int.reduceLT, Int.reduceLE, Int.reduceEq, Int.reduceNe, Int.reduceToNat, t_2_put X, sxC hG, f0, f1, f2, f3, f4, f5, f6, f7, p0, p1, p2, k1 (f + 4) (by omega), k1 (f + 5) (by omega), k1 pb (by omega), k1 (pb + 1) (by omega), k1 (pb + 2) (by omega)]
  repeat (simp only [icmp_b, aif_b, cmp]; simp (maxSteps := 4000000) only [blk_s, blk_z, a_const, a_iload, a_aload, a_istore, a_astore, a_iinc, a_add, a_sub, a_mul, a_div, a_rem, a_dup, a_dup2, a_goto, a_ifnull, a_tsw, a_gi, a_gr, a_pi, a_ald, a_sld, a_ast, a_aald, a_len, a_gst, a_copy, a_max, a_min, a_iret, a_zret, a_aret, a_ret, a_cv, a_cn, a_sv, a_sn, icmp_t, icmp_f, aif_t, aif_f, lget, lset, fget, rget, apop, isO, Kv, Kn, fitb0, cmp, swl, InR, up, cpy, ↓reduceIte, if_true, if_false, Nat.left_eq_add, Nat.add_eq_left, Nat.add_left_cancel_iff, Nat.reduceEqDiff, Nat.zero_le, true_and, and_true, true_or, or_true, not_true_eq_false, not_false_eq_true, false_and, and_false, false_implies, true_implies, forall_const, ne_eq, Decidable.not_not, List.length_cons, List.length_nil, reduceCtorEq, Int.toNat_zero, Int.toNat_one, Int.cast_ofNat_Int, Nat.reduceAdd, Nat.reduceSub, Nat.reduceMul, Nat.reduceLT, Nat.reduceLeDiff, Nat.reduceEqDiff, Int.reduceAdd, Int.reduceSub, Int.reduceMul, Int.reduceNeg, Int.reduceLT, Int.reduceLE, Int.reduceEq, Int.reduceNe, Int.reduceToNat, t_2_put X, sxC hG, f0, f1, f2, f3, f4, f5, f6, f7, p0, p1, p2, k1 (f + 4) (by omega), k1 (f + 5) (by omega), k1 pb (by omega), k1 (pb + 1) (by omega), k1 (pb + 2) (by omega)])
  repeat' (first | assumption | with_reducible apply And.intro | with_reducible intro _)
  all_goals (try omega)
  refine ms_endBefore (ntS7 hG) O7 (by rw [N7, he7]; omega) ?_
  rw [N7, he7]
  simp (maxSteps := 4000000) only [blk_s, blk_z, a_const, a_iload, a_aload, a_istore, a_astore, a_iinc, a_add, a_sub, a_mul, a_div, a_rem, a_dup, a_dup2, a_goto, a_ifnull, a_tsw, a_gi, a_gr, a_pi, a_ald, a_sld, a_ast, a_aald, a_len, a_gst, a_copy, a_max, a_min, a_iret, a_zret, a_aret, a_ret, a_cv, a_cn, a_sv, a_sn, icmp_t, icmp_f, aif_t, aif_f, lget, lset, fget, rget, apop, isO, Kv, Kn, fitb0, cmp, swl, InR, up, cpy, ↓reduceIte, if_true, if_false, Nat.left_eq_add, Nat.add_eq_left, Nat.add_left_cancel_iff, Nat.reduceEqDiff, Nat.zero_le, true_and, and_true, true_or, or_true, not_true_eq_false, not_false_eq_true, false_and, and_false, false_implies, true_implies, forall_const, ne_eq, Decidable.not_not, List.length_cons, List.length_nil, reduceCtorEq, Int.toNat_zero, Int.toNat_one, Int.cast_ofNat_Int, Nat.reduceAdd, Nat.reduceSub, Nat.reduceMul, Nat.reduceLT, Nat.reduceLeDiff, Nat.reduceEqDiff, Int.reduceAdd, Int.reduceSub, Int.reduceMul, Int.reduceNeg, Int.reduceLT, Int.reduceLE, Int.reduceEq, Int.reduceNe, Int.reduceToNat, t_2_put X, sxC hG]
  repeat (simp only [icmp_b, aif_b, cmp]; simp (maxSteps := 4000000) only [blk_s, blk_z, a_const, a_iload, a_aload, a_istore, a_astore, a_iinc, a_add, a_sub, a_mul, a_div, a_rem, a_dup, a_dup2, a_goto, a_ifnull, a_tsw, a_gi, a_gr, a_pi, a_ald, a_sld, a_ast, a_aald, a_len, a_gst, a_copy, a_max, a_min, a_iret, a_zret, a_aret, a_ret, a_cv, a_cn, a_sv, a_sn, icmp_t, icmp_f, aif_t, aif_f, lget, lset, fget, rget, apop, isO, Kv, Kn, fitb0, cmp, swl, InR, up, cpy, ↓reduceIte, if_true, if_false, Nat.left_eq_add, Nat.add_eq_left, Nat.add_left_cancel_iff, Nat.reduceEqDiff, Nat.zero_le, true_and, and_true, true_or, or_true, not_true_eq_false, not_false_eq_true, false_and, and_false, false_implies, true_implies, forall_const, ne_eq, Decidable.not_not, List.length_cons, List.length_nil, reduceCtorEq, Int.toNat_zero, Int.toNat_one, Int.cast_ofNat_Int, Nat.reduceAdd, Nat.reduceSub, Nat.reduceMul, Nat.reduceLT, Nat.reduceLeDiff, Nat.reduceEqDiff, Int.reduceAdd, Int.reduceSub, Int.reduceMul, Int.reduceNeg, Int.reduceLT, Int.reduceLE, Int.reduceEq, Int.reduceNe, Int.reduceToNat, t_2_put X, sxC hG])
  have g6 := k1 (f + 6) (by omega)
  have L1 := lp_put (X := X) (Q := Q) (pb := pb) (σ := σ1) hF (ntS7 hG) (by decide) (s := 0) (fr := σ (f + 4) 0 + σ (f + 5) 0) (e := e7) (by omega) (by omega) (fun k k0 k2 => by rw [k1 (7 + 4) (by omega)]; exact (r7 k k0 (by omega)).2.2) (by rw [g6]; omega) ?_ (e7 - (σ (f + 4) 0 + σ (f + 5) 0)).toNat (σ (f + 4) 0 + σ (f + 5) 0) (Int.le_refl _) b7 (by omega)
  · rw [putL_0] at L1
    exact L1
  have k2 : ∀ a, a ≠ f + 1 → a ≠ f + 6 → a ≠ f + 7 → putL σ1 f 7 0 (σ (f + 4) 0 + σ (f + 5) 0) e7 a = σ a := fun a ha hb hc => by rw [putL_o hb hc, k1 a ha]
  refine blk_at (tok_2_put X) 1000 rfl ?_
  simp (maxSteps := 4000000) only [blk_s, blk_z, a_const, a_iload, a_aload, a_istore, a_astore, a_iinc, a_add, a_sub, a_mul, a_div, a_rem, a_dup, a_dup2, a_goto, a_ifnull, a_tsw, a_gi, a_gr, a_pi, a_ald, a_sld, a_ast, a_aald, a_len, a_gst, a_copy, a_max, a_min, a_iret, a_zret, a_aret, a_ret, a_cv, a_cn, a_sv, a_sn, icmp_t, icmp_f, aif_t, aif_f, lget, lset, fget, rget, apop, isO, Kv, Kn, fitb0, cmp, swl, InR, up, cpy, ↓reduceIte, if_true, if_false, Nat.left_eq_add, Nat.add_eq_left, Nat.add_left_cancel_iff, Nat.reduceEqDiff, Nat.zero_le, true_and, and_true, true_or, or_true, not_true_eq_false, not_false_eq_true, false_and, and_false, false_implies, true_implies, forall_const, ne_eq, Decidable.not_not, List.length_cons, List.length_nil, reduceCtorEq, Int.toNat_zero, Int.toNat_one, Int.cast_ofNat_Int, Nat.reduceAdd, Nat.reduceSub, Nat.reduceMul, Nat.reduceLT, Nat.reduceLeDiff, Nat.reduceEqDiff, Int.reduceAdd, Int.reduceSub, Int.reduceMul, Int.reduceNeg, Int.reduceLT, Int.reduceLE, Int.reduceEq, Int.reduceNe, Int.reduceToNat, t_2_put X, sxC hG, f0, f1, f2, f3, f4, f5, f6, f7, p0, p1, p2, k2 (f + 4) (by omega) (by omega) (by omega), k2 (f + 2) (by omega) (by omega) (by omega), k2 (pb + 2) (by omega) (by omega) (by omega)]
  repeat (simp only [icmp_b, aif_b, cmp]; simp (maxSteps := 4000000) only [blk_s, blk_z, a_const, a_iload, a_aload, a_istore, a_astore, a_iinc, a_add, a_sub, a_mul, a_div, a_rem, a_dup, a_dup2, a_goto, a_ifnull, a_tsw, a_gi, a_gr, a_pi, a_ald, a_sld, a_ast, a_aald, a_len, a_gst, a_copy, a_max, a_min, a_iret, a_zret, a_aret, a_ret, a_cv, a_cn, a_sv, a_sn, icmp_t, icmp_f, aif_t, aif_f, lget, lset, fget, rget, apop, isO, Kv, Kn, fitb0, cmp, swl, InR, up, cpy, ↓reduceIte, if_true, if_false, Nat.left_eq_add, Nat.add_eq_left, Nat.add_left_cancel_iff, Nat.reduceEqDiff, Nat.zero_le, true_and, and_true, true_or, or_true, not_true_eq_false, not_false_eq_true, false_and, and_false, false_implies, true_implies, forall_const, ne_eq, Decidable.not_not, List.length_cons, List.length_nil, reduceCtorEq, Int.toNat_zero, Int.toNat_one, Int.cast_ofNat_Int, Nat.reduceAdd, Nat.reduceSub, Nat.reduceMul, Nat.reduceLT, Nat.reduceLeDiff, Nat.reduceEqDiff, Int.reduceAdd, Int.reduceSub, Int.reduceMul, Int.reduceNeg, Int.reduceLT, Int.reduceLE, Int.reduceEq, Int.reduceNe, Int.reduceToNat, t_2_put X, sxC hG, f0, f1, f2, f3, f4, f5, f6, f7, p0, p1, p2, k2 (f + 4) (by omega) (by omega) (by omega), k2 (f + 2) (by omega) (by omega) (by omega), k2 (pb + 2) (by omega) (by omega) (by omega)])
  repeat' (first | assumption | with_reducible apply And.intro | with_reducible intro _)
  all_goals (try omega)
  apply ms_notes hG
  obtain ⟨σ3, E3⟩ : ∃ s, s = up (up (putL σ1 f 7 0 (σ (f + 4) 0 + σ (f + 5) 0) e7) (f + 5) 0 (e7 - σ (f + 4) 0)) (f + 1) 1 (σ (f + 2) 1 + σ (pb + 2) 1) := ⟨_, rfl⟩
  rw [← E3]
  have k3 : ∀ a, a ≠ f + 1 → a ≠ f + 5 → a ≠ f + 6 → a ≠ f + 7 → σ3 a = σ a := fun a ha hb hc hd => by rw [E3, up_other ha, up_other hb, k2 a ha hc hd]
  have k35 : σ3 (f + 5) 1 = σ (f + 5) 1 := by
    rw [E3, up_other (by omega)]
    simp only [up, true_and]
    rw [if_neg (by omega), k2 _ (by omega) (by omega) (by omega)]
  have k36 : σ3 (f + 6) 1 = σ (f + 6) 1 := by
    rw [E3, up_other (by omega), up_other (by omega), putL_6' (by omega), k1 _ (by omega)]
  obtain ⟨O12, N12⟩ := nt_eq o12 (k3 12 (by omega) (by omega) (by omega) (by omega)) (k3 (12 + 2) (by omega) (by omega) (by omega) (by omega)) (k3 (12 + 3) (by omega) (by omega) (by omega) (by omega))
  simp (maxSteps := 4000000) only [blk_s, blk_z, a_const, a_iload, a_aload, a_istore, a_astore, a_iinc, a_add, a_sub, a_mul, a_div, a_rem, a_dup, a_dup2, a_goto, a_ifnull, a_tsw, a_gi, a_gr, a_pi, a_ald, a_sld, a_ast, a_aald, a_len, a_gst, a_copy, a_max, a_min, a_iret, a_zret, a_aret, a_ret, a_cv, a_cn, a_sv, a_sn, icmp_t, icmp_f, aif_t, aif_f, lget, lset, fget, rget, apop, isO, Kv, Kn, fitb0, cmp, swl, InR, up, cpy, ↓reduceIte, if_true, if_false, Nat.left_eq_add, Nat.add_eq_left, Nat.add_left_cancel_iff, Nat.reduceEqDiff, Nat.zero_le, true_and, and_true, true_or, or_true, not_true_eq_false, not_false_eq_true, false_and, and_false, false_implies, true_implies, forall_const, ne_eq, Decidable.not_not, List.length_cons, List.length_nil, reduceCtorEq, Int.toNat_zero, Int.toNat_one, Int.cast_ofNat_Int, Nat.reduceAdd, Nat.reduceSub, Nat.reduceMul, Nat.reduceLT, Nat.reduceLeDiff, Nat.reduceEqDiff, Int.reduceAdd, Int.reduceSub, Int.reduceMul, Int.reduceNeg, Int.reduceLT, Int.reduceLE, Int.reduceEq, Int.reduceNe, Int.reduceToNat, t_2_put X, sxC hG, f0, f1, f2, f3, f4, f5, f6, f7, p0, p1, p2, k3 (f + 4) (by omega) (by omega) (by omega) (by omega), k35, k3 pb (by omega) (by omega) (by omega) (by omega), k3 (pb + 1) (by omega) (by omega) (by omega) (by omega), k3 (pb + 2) (by omega) (by omega) (by omega) (by omega)]
  repeat (simp only [icmp_b, aif_b, cmp]; simp (maxSteps := 4000000) only [blk_s, blk_z, a_const, a_iload, a_aload, a_istore, a_astore, a_iinc, a_add, a_sub, a_mul, a_div, a_rem, a_dup, a_dup2, a_goto, a_ifnull, a_tsw, a_gi, a_gr, a_pi, a_ald, a_sld, a_ast, a_aald, a_len, a_gst, a_copy, a_max, a_min, a_iret, a_zret, a_aret, a_ret, a_cv, a_cn, a_sv, a_sn, icmp_t, icmp_f, aif_t, aif_f, lget, lset, fget, rget, apop, isO, Kv, Kn, fitb0, cmp, swl, InR, up, cpy, ↓reduceIte, if_true, if_false, Nat.left_eq_add, Nat.add_eq_left, Nat.add_left_cancel_iff, Nat.reduceEqDiff, Nat.zero_le, true_and, and_true, true_or, or_true, not_true_eq_false, not_false_eq_true, false_and, and_false, false_implies, true_implies, forall_const, ne_eq, Decidable.not_not, List.length_cons, List.length_nil, reduceCtorEq, Int.toNat_zero, Int.toNat_one, Int.cast_ofNat_Int, Nat.reduceAdd, Nat.reduceSub, Nat.reduceMul, Nat.reduceLT, Nat.reduceLeDiff, Nat.reduceEqDiff, Int.reduceAdd, Int.reduceSub, Int.reduceMul, Int.reduceNeg, Int.reduceLT, Int.reduceLE, Int.reduceEq, Int.reduceNe, Int.reduceToNat, t_2_put X, sxC hG, f0, f1, f2, f3, f4, f5, f6, f7, p0, p1, p2, k3 (f + 4) (by omega) (by omega) (by omega) (by omega), k35, k3 pb (by omega) (by omega) (by omega) (by omega), k3 (pb + 1) (by omega) (by omega) (by omega) (by omega), k3 (pb + 2) (by omega) (by omega) (by omega) (by omega)])
  repeat' (first | assumption | with_reducible apply And.intro | with_reducible intro _)
  all_goals (try omega)
  refine ms_endBefore (ntS12 hG) O12 (by rw [N12, he12]; omega) ?_
  rw [N12, he12]
  simp (maxSteps := 4000000) only [blk_s, blk_z, a_const, a_iload, a_aload, a_istore, a_astore, a_iinc, a_add, a_sub, a_mul, a_div, a_rem, a_dup, a_dup2, a_goto, a_ifnull, a_tsw, a_gi, a_gr, a_pi, a_ald, a_sld, a_ast, a_aald, a_len, a_gst, a_copy, a_max, a_min, a_iret, a_zret, a_aret, a_ret, a_cv, a_cn, a_sv, a_sn, icmp_t, icmp_f, aif_t, aif_f, lget, lset, fget, rget, apop, isO, Kv, Kn, fitb0, cmp, swl, InR, up, cpy, ↓reduceIte, if_true, if_false, Nat.left_eq_add, Nat.add_eq_left, Nat.add_left_cancel_iff, Nat.reduceEqDiff, Nat.zero_le, true_and, and_true, true_or, or_true, not_true_eq_false, not_false_eq_true, false_and, and_false, false_implies, true_implies, forall_const, ne_eq, Decidable.not_not, List.length_cons, List.length_nil, reduceCtorEq, Int.toNat_zero, Int.toNat_one, Int.cast_ofNat_Int, Nat.reduceAdd, Nat.reduceSub, Nat.reduceMul, Nat.reduceLT, Nat.reduceLeDiff, Nat.reduceEqDiff, Int.reduceAdd, Int.reduceSub, Int.reduceMul, Int.reduceNeg, Int.reduceLT, Int.reduceLE, Int.reduceEq, Int.reduceNe, Int.reduceToNat, t_2_put X, sxC hG]
  repeat (simp only [icmp_b, aif_b, cmp]; simp (maxSteps := 4000000) only [blk_s, blk_z, a_const, a_iload, a_aload, a_istore, a_astore, a_iinc, a_add, a_sub, a_mul, a_div, a_rem, a_dup, a_dup2, a_goto, a_ifnull, a_tsw, a_gi, a_gr, a_pi, a_ald, a_sld, a_ast, a_aald, a_len, a_gst, a_copy, a_max, a_min, a_iret, a_zret, a_aret, a_ret, a_cv, a_cn, a_sv, a_sn, icmp_t, icmp_f, aif_t, aif_f, lget, lset, fget, rget, apop, isO, Kv, Kn, fitb0, cmp, swl, InR, up, cpy, ↓reduceIte, if_true, if_false, Nat.left_eq_add, Nat.add_eq_left, Nat.add_left_cancel_iff, Nat.reduceEqDiff, Nat.zero_le, true_and, and_true, true_or, or_true, not_true_eq_false, not_false_eq_true, false_and, and_false, false_implies, true_implies, forall_const, ne_eq, Decidable.not_not, List.length_cons, List.length_nil, reduceCtorEq, Int.toNat_zero, Int.toNat_one, Int.cast_ofNat_Int, Nat.reduceAdd, Nat.reduceSub, Nat.reduceMul, Nat.reduceLT, Nat.reduceLeDiff, Nat.reduceEqDiff, Int.reduceAdd, Int.reduceSub, Int.reduceMul, Int.reduceNeg, Int.reduceLT, Int.reduceLE, Int.reduceEq, Int.reduceNe, Int.reduceToNat, t_2_put X, sxC hG])
  have L2 := lp_put (X := X) (Q := Q) (pb := pb) (σ := σ3) hF (ntS12 hG) (by decide) (s := 1) (fr := σ (f + 4) 1 + σ (f + 5) 1) (e := e12) (by omega) (by omega) (fun k k0 k2 => by rw [k3 (12 + 4) (by omega) (by omega) (by omega) (by omega)]; exact (r12 k k0 (by omega)).2.2) (by rw [k36]; omega) ?_ (e12 - (σ (f + 4) 1 + σ (f + 5) 1)).toNat (σ (f + 4) 1 + σ (f + 5) 1) (Int.le_refl _) c7 (by omega)
  · rw [putL_0] at L2
    exact L2
  have v1 : ∀ s, (s = 0 ∨ s = 1) → putL σ3 f 12 1 (σ (f + 4) 1 + σ (f + 5) 1) e12 (f + 1) s = σ (f + 2) s + σ (pb + 2) s := by
    intro s hs
    rw [putL_o (by omega) (by omega), E3]
    rcases hs with rfl | rfl
    · simp only [up, true_and]
      rw [if_neg (by omega), if_neg (by omega), putL_o (by omega) (by omega), E1]
      simp [up]
    · simp [up]
  have v10 := v1 0 (Or.inl rfl)
  have v11 := v1 1 (Or.inr rfl)
  have k4 : ∀ a, a ≠ f + 1 → a ≠ f + 5 → a ≠ f + 6 → a ≠ f + 7 → putL σ3 f 12 1 (σ (f + 4) 1 + σ (f + 5) 1) e12 a = σ a := fun a ha hb hc hd => by rw [putL_o hc hd, k3 a ha hb hc hd]
  obtain ⟨σ4, E4⟩ : ∃ s, s = putL σ3 f 12 1 (σ (f + 4) 1 + σ (f + 5) 1) e12 := ⟨_, rfl⟩
  rw [← E4] at v10 v11 k4 ⊢
  have w5 : σ4 (f + 5) 0 = e7 - σ (f + 4) 0 := by
    rw [E4, putL_o (by omega) (by omega), E3, up_other (by omega)]
    simp [up]
  have w6 : ∀ s, (s = 0 ∨ s = 1) → σ4 (f + 6) s = σ (f + 6) s + SL σ (nbS s) (σ (f + 4) s + σ (f + 5) s) (if s = 0 then e7 else e12) := by
    intro s hs
    rw [E4]
    rcases hs with rfl | rfl
    · rw [putL_6' (by omega), E3, up_other (by omega), up_other (by omega), putL_6, k1 _ (by omega), nbS0, SL_c (k1 (7 + 4) (by omega)), if_pos rfl]
    · rw [putL_6, k36, nbS1, SL_c (k3 (12 + 4) (by omega) (by omega) (by omega) (by omega)), if_neg (by omega)]
  have w7 : ∀ s, (s = 0 ∨ s = 1) → σ4 (f + 7) s = if (if s = 0 then e7 else e12) = σ (f + 4) s + σ (f + 5) s then σ (f + 7) s else σ (nbS s + 4) ((if s = 0 then e7 else e12) - 1) := by
    intro s hs
    rw [E4]
    rcases hs with rfl | rfl
    · rw [putL_7' (by omega), E3, up_other (by omega), up_other (by omega), putL_7, k1 _ (by omega), nbS0, k1 _ (by omega), if_pos rfl]
    · rw [putL_7, nbS1, k3 (12 + 4) (by omega) (by omega) (by omega) (by omega), if_neg (show ¬ ((1 : Int) = 0) by omega)]
      have : σ3 (f + 7) 1 = σ (f + 7) 1 := by rw [E3, up_other (by omega), up_other (by omega), putL_7' (by omega), k1 _ (by omega)]
      rw [this]
  have m1 : σ4 17 = σ 17 := k4 17 (by omega) (by omega) (by omega) (by omega)
  refine blk_at (tok_2_put X) 1000 rfl ?_
  simp (maxSteps := 4000000) only [blk_s, blk_z, a_const, a_iload, a_aload, a_istore, a_astore, a_iinc, a_add, a_sub, a_mul, a_div, a_rem, a_dup, a_dup2, a_goto, a_ifnull, a_tsw, a_gi, a_gr, a_pi, a_ald, a_sld, a_ast, a_aald, a_len, a_gst, a_copy, a_max, a_min, a_iret, a_zret, a_aret, a_ret, a_cv, a_cn, a_sv, a_sn, icmp_t, icmp_f, aif_t, aif_f, lget, lset, fget, rget, apop, isO, Kv, Kn, fitb0, cmp, swl, InR, up, cpy, ↓reduceIte, if_true, if_false, Nat.left_eq_add, Nat.add_eq_left, Nat.add_left_cancel_iff, Nat.reduceEqDiff, Nat.zero_le, true_and, and_true, true_or, or_true, not_true_eq_false, not_false_eq_true, false_and, and_false, false_implies, true_implies, forall_const, ne_eq, Decidable.not_not, List.length_cons, List.length_nil, reduceCtorEq, Int.toNat_zero, Int.toNat_one, Int.cast_ofNat_Int, Nat.reduceAdd, Nat.reduceSub, Nat.reduceMul, Nat.reduceLT, Nat.reduceLeDiff, Nat.reduceEqDiff, Int.reduceAdd, Int.reduceSub, Int.reduceMul, Int.reduceNeg, Int.reduceLT, Int.reduceLE, Int.reduceEq, Int.reduceNe, Int.reduceToNat, t_2_put X, sxC hG, f0, f1, f2, f3, f4, f5, f6, f7, p0, p1, p2, v10, v11, m1, k4 (f + 4) (by omega) (by omega) (by omega) (by omega), show ¬ (f = 12) by omega, show ¬ (f = 15) by omega]
  repeat (simp only [icmp_b, aif_b, cmp]; simp (maxSteps := 4000000) only [blk_s, blk_z, a_const, a_iload, a_aload, a_istore, a_astore, a_iinc, a_add, a_sub, a_mul, a_div, a_rem, a_dup, a_dup2, a_goto, a_ifnull, a_tsw, a_gi, a_gr, a_pi, a_ald, a_sld, a_ast, a_aald, a_len, a_gst, a_copy, a_max, a_min, a_iret, a_zret, a_aret, a_ret, a_cv, a_cn, a_sv, a_sn, icmp_t, icmp_f, aif_t, aif_f, lget, lset, fget, rget, apop, isO, Kv, Kn, fitb0, cmp, swl, InR, up, cpy, ↓reduceIte, if_true, if_false, Nat.left_eq_add, Nat.add_eq_left, Nat.add_left_cancel_iff, Nat.reduceEqDiff, Nat.zero_le, true_and, and_true, true_or, or_true, not_true_eq_false, not_false_eq_true, false_and, and_false, false_implies, true_implies, forall_const, ne_eq, Decidable.not_not, List.length_cons, List.length_nil, reduceCtorEq, Int.toNat_zero, Int.toNat_one, Int.cast_ofNat_Int, Nat.reduceAdd, Nat.reduceSub, Nat.reduceMul, Nat.reduceLT, Nat.reduceLeDiff, Nat.reduceEqDiff, Int.reduceAdd, Int.reduceSub, Int.reduceMul, Int.reduceNeg, Int.reduceLT, Int.reduceLE, Int.reduceEq, Int.reduceNe, Int.reduceToNat, t_2_put X, sxC hG, f0, f1, f2, f3, f4, f5, f6, f7, p0, p1, p2, v10, v11, m1, k4 (f + 4) (by omega) (by omega) (by omega) (by omega), show ¬ (f = 12) by omega, show ¬ (f = 15) by omega])
  unfold StK at hK
  have fin : ∀ y0 y1 : Int, y0 = (if σ 17 5 = 1 then max (σ (f + 2) 0 + σ (pb + 2) 0) (σ (f + 2) 1 + σ (pb + 2) 1) else σ (f + 2) 0 + σ (pb + 2) 0) + σ 17 1 → y1 = (if σ 17 5 = 1 then max (σ (f + 2) 0 + σ (pb + 2) 0) (σ (f + 2) 1 + σ (pb + 2) 1) else σ (f + 2) 1 + σ (pb + 2) 1) + σ 17 1 → Q none G (up (up (up σ4 (f + 5) 1 (e12 - σ (f + 4) 1)) (f + 2) 0 y0) (f + 2) 1 y1) := by
    intro y0 y1 hy0 hy1
    apply h
    refine ⟨fun a ha => ?_, fun s hs => ?_⟩
    · rw [up_other (by omega), up_other (by omega), up_other (by omega), k4 a (by omega) (by omega) (by omega) (by omega)]
    · have w6 := w6 s hs
      have w7 := w7 s hs
      have z4 := k4 (f + 4) (by omega) (by omega) (by omega) (by omega)
      have z3 := k4 (f + 3) (by omega) (by omega) (by omega) (by omega)
      rcases hs with rfl | rfl
      · simp only [Int.reduceEq, ↓reduceIte] at w6 w7
        rw [nbS0] at w6 w7 ⊢
        rw [he7]
        simp only [up, Nat.add_left_cancel_iff, Nat.reduceEqDiff, false_and, true_and, if_false, if_true, Int.reduceEq]
        exact ⟨v10, hy0, by rw [z3], by rw [z4], w5, w6, w7⟩
      · simp only [Int.reduceEq, ↓reduceIte] at w6 w7
        rw [nbS1] at w6 w7 ⊢
        rw [he12]
        simp only [up, Nat.add_left_cancel_iff, Nat.reduceEqDiff, false_and, true_and, if_false, if_true, Int.reduceEq]
        exact ⟨v11, hy1, by rw [z3], by rw [z4], w6, w7⟩
  repeat' (first | assumption | with_reducible apply And.intro | with_reducible intro _)
  all_goals (try omega)
  · rename_i c
    exact fin _ _ (by rw [if_neg c]) (by rw [if_neg c])
  · rename_i c
    have c : σ 17 5 = 1 := by omega
    exact fin _ _ (by rw [if_pos c]) (by rw [if_pos c])
end
