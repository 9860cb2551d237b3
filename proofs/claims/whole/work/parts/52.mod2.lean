/-- behind a change: the row d apart -/
def ChM (σ σ' : Sto) : Prop := (∀ a, a ≠ 181 → a ≠ 179 → a ≠ 180 → σ' a = σ a) ∧ (∀ j, j ≠ 2 → σ' 179 j = σ 179 j) ∧ σ' 179 2 = min (σ 179 2 + 1) 6 ∧ (σ 179 2 < 6 → ∀ x, 0 ≤ x → x < 329 * σ 179 2 → σ' 181 x = σ 181 x) ∧ (σ 179 2 = 6 → ∀ x, 0 ≤ x → x < 1645 → σ' 181 x = σ 181 (x + 329)) ∧ ∀ j, 0 ≤ j → j < 329 → σ' 181 (329 * (min (σ 179 2 + 1) 6 - 1) + j) = σ 180 j
theorem chm_of {σ σ1 σ2 : Sto} (h : RecR σ σ1) (hk : ∀ a, a ≠ 180 → σ2 a = σ1 a) : ChM σ σ2 := by
  obtain ⟨h1, h2, h3, h4, h5, h6⟩ := h
  refine ⟨fun a a1 a2 a3 => by rw [hk a a3]; exact h1 a a1 a2, fun j hj => by rw [hk 179 (by omega)]; exact h2 j hj, by rw [hk 179 (by omega)]; exact h3, fun q x x0 x1 => by rw [hk 181 (by omega)]; exact h4 q x x0 x1, fun q x x0 x1 => by rw [hk 181 (by omega)]; exact h5 q x x0 x1, fun j j0 j1 => by rw [hk 181 (by omega)]; exact h6 j j0 j1⟩
theorem rec_d {σ σ1 : Sto} (h : RecR σ σ1) : σ1 180 = σ 180 := h.1 180 (by omega) (by omega)
section
variable {X : XT} {G : List Sh} {σ : Sto} {Q : QT}
/-- places behind one opened -/
def shD (σ : Sto) (base p c : Int) (b : Nat) (i : Int) : Int := if b = 180 ∧ base + p < i ∧ i ≤ base + c then σ 180 (i - 1) else σ b i
theorem shD_s {σ : Sto} {base p c : Int} (hp : p ≤ c) : up (shD σ base p c) 180 (base + p) (σ 180 (base + p - 1)) = shD σ base (p - 1) c := by
  funext b i
  unfold up shD
  by_cases q : b = 180 ∧ i = base + p
  · rw [if_pos q, if_pos (by omega), q.2]
  · rw [if_neg q]
    by_cases q2 : b = 180 ∧ base + p < i ∧ i ≤ base + c
    · rw [if_pos q2, if_pos (by omega)]
    · rw [if_neg q2, if_neg (by omega)]
set_option maxRecDepth 40000 in
theorem lp_ins0 (hG : MSh G) {a l r c : Int} (ha : 0 ≤ a ∧ a ≤ c ∧ c ≤ 19) (hQ : WPc X M_8_insert Q 71 [some (.inr 179), some (.inl a), some (.inl l), some (.inl r), some (.inl 0), some (.inl a)] [] (G, 0, 0) (shD σ 1 a c)) : ∀ (n : Nat) (p : Int), a ≤ p → p ≤ c → p - a ≤ n → WPc X M_8_insert Q 71 [some (.inr 179), some (.inl a), some (.inl l), some (.inl r), some (.inl 0), some (.inl p)] [] (G, 0, 0) (shD σ 1 p c) := by
  intro n
  induction n with
  | zero =>
    intro p p0 p1 p2
    rw [show p = a by omega]
    exact hQ
  | succ n ih =>
    intro p p0 p1 p2
    by_cases c1 : p = a
    · rw [c1]
      exact hQ
    · have ih := ih (p - 1) (by omega) (by omega) (by omega)
      rw [← shD_s p1] at ih
      have e : shD σ 1 p c 180 (1 + p - 1) = σ 180 (1 + p - 1) := by
        unfold shD
        rw [if_neg (by omega)]
      rw [show p - 1 = p + -1 by omega] at ih
      refine blk_at (tok_8_insert X) 1000 rfl ?_
      simp (maxSteps := 4000000) only [blk_s, blk_z, a_const, a_iload, a_aload, a_istore, a_astore, a_iinc, a_add, a_sub, a_mul, a_div, a_rem, a_dup, a_dup2, a_goto, a_ifnull, a_tsw, a_gi, a_gr, a_pi, a_ald, a_sld, a_ast, a_aald, a_len, a_gst, a_copy, a_max, a_min, a_iret, a_zret, a_aret, a_ret, a_cv, a_cn, a_sv, a_sn, icmp_t, icmp_f, aif_t, aif_f, lget, lset, fget, rget, apop, isO, Kv, Kn, fitb0, cmp, swl, InR, up, cpy, ↓reduceIte, if_true, if_false, Nat.left_eq_add, Nat.add_eq_left, Nat.add_left_cancel_iff, Nat.reduceEqDiff, Nat.zero_le, true_and, and_true, true_or, or_true, not_true_eq_false, not_false_eq_true, false_and, and_false, false_implies, true_implies, forall_const, ne_eq, Decidable.not_not, List.length_cons, List.length_nil, reduceCtorEq, Int.toNat_zero, Int.toNat_one, Int.cast_ofNat_Int, Nat.reduceAdd, Nat.reduceSub, Nat.reduceMul, Nat.reduceLT, Nat.reduceLeDiff, Nat.reduceEqDiff, Int.reduceAdd, Int.reduceSub, Int.reduceMul, Int.reduceNeg, Int.reduceLT, Int.reduceLE, Int.reduceEq, Int.reduceNe, Int.reduceToNat, t_8_insert X, sxM hG, show ¬ (p ≤ a) by omega, e]
      repeat (simp only [icmp_b, aif_b, cmp]; simp (maxSteps := 4000000) only [blk_s, blk_z, a_const, a_iload, a_aload, a_istore, a_astore, a_iinc, a_add, a_sub, a_mul, a_div, a_rem, a_dup, a_dup2, a_goto, a_ifnull, a_tsw, a_gi, a_gr, a_pi, a_ald, a_sld, a_ast, a_aald, a_len, a_gst, a_copy, a_max, a_min, a_iret, a_zret, a_aret, a_ret, a_cv, a_cn, a_sv, a_sn, icmp_t, icmp_f, aif_t, aif_f, lget, lset, fget, rget, apop, isO, Kv, Kn, fitb0, cmp, swl, InR, up, cpy, ↓reduceIte, if_true, if_false, Nat.left_eq_add, Nat.add_eq_left, Nat.add_left_cancel_iff, Nat.reduceEqDiff, Nat.zero_le, true_and, and_true, true_or, or_true, not_true_eq_false, not_false_eq_true, false_and, and_false, false_implies, true_implies, forall_const, ne_eq, Decidable.not_not, List.length_cons, List.length_nil, reduceCtorEq, Int.toNat_zero, Int.toNat_one, Int.cast_ofNat_Int, Nat.reduceAdd, Nat.reduceSub, Nat.reduceMul, Nat.reduceLT, Nat.reduceLeDiff, Nat.reduceEqDiff, Int.reduceAdd, Int.reduceSub, Int.reduceMul, Int.reduceNeg, Int.reduceLT, Int.reduceLE, Int.reduceEq, Int.reduceNe, Int.reduceToNat, t_8_insert X, sxM hG, show ¬ (p ≤ a) by omega, e])
      repeat' (first | assumption | with_reducible apply And.intro | with_reducible intro _)
      all_goals (try omega)
set_option maxRecDepth 40000 in
theorem lp_ins1 (hG : MSh G) {a l r c : Int} (ha : 0 ≤ a ∧ a ≤ c ∧ c ≤ 19) (hQ : WPc X M_8_insert Q 71 [some (.inr 179), some (.inl a), some (.inl l), some (.inl r), some (.inl 1), some (.inl a)] [] (G, 0, 0) (shD σ 21 a c)) : ∀ (n : Nat) (p : Int), a ≤ p → p ≤ c → p - a ≤ n → WPc X M_8_insert Q 71 [some (.inr 179), some (.inl a), some (.inl l), some (.inl r), some (.inl 1), some (.inl p)] [] (G, 0, 0) (shD σ 21 p c) := by
  intro n
  induction n with
  | zero =>
    intro p p0 p1 p2
    rw [show p = a by omega]
    exact hQ
  | succ n ih =>
    intro p p0 p1 p2
    by_cases c1 : p = a
    · rw [c1]
      exact hQ
    · have ih := ih (p - 1) (by omega) (by omega) (by omega)
      rw [← shD_s p1] at ih
      have e : shD σ 21 p c 180 (21 + p - 1) = σ 180 (21 + p - 1) := by
        unfold shD
        rw [if_neg (by omega)]
      rw [show p - 1 = p + -1 by omega] at ih
      refine blk_at (tok_8_insert X) 1000 rfl ?_
      simp (maxSteps := 4000000) only [blk_s, blk_z, a_const, a_iload, a_aload, a_istore, a_astore, a_iinc, a_add, a_sub, a_mul, a_div, a_rem, a_dup, a_dup2, a_goto, a_ifnull, a_tsw, a_gi, a_gr, a_pi, a_ald, a_sld, a_ast, a_aald, a_len, a_gst, a_copy, a_max, a_min, a_iret, a_zret, a_aret, a_ret, a_cv, a_cn, a_sv, a_sn, icmp_t, icmp_f, aif_t, aif_f, lget, lset, fget, rget, apop, isO, Kv, Kn, fitb0, cmp, swl, InR, up, cpy, ↓reduceIte, if_true, if_false, Nat.left_eq_add, Nat.add_eq_left, Nat.add_left_cancel_iff, Nat.reduceEqDiff, Nat.zero_le, true_and, and_true, true_or, or_true, not_true_eq_false, not_false_eq_true, false_and, and_false, false_implies, true_implies, forall_const, ne_eq, Decidable.not_not, List.length_cons, List.length_nil, reduceCtorEq, Int.toNat_zero, Int.toNat_one, Int.cast_ofNat_Int, Nat.reduceAdd, Nat.reduceSub, Nat.reduceMul, Nat.reduceLT, Nat.reduceLeDiff, Nat.reduceEqDiff, Int.reduceAdd, Int.reduceSub, Int.reduceMul, Int.reduceNeg, Int.reduceLT, Int.reduceLE, Int.reduceEq, Int.reduceNe, Int.reduceToNat, t_8_insert X, sxM hG, show ¬ (p ≤ a) by omega, e]
      repeat (simp only [icmp_b, aif_b, cmp]; simp (maxSteps := 4000000) only [blk_s, blk_z, a_const, a_iload, a_aload, a_istore, a_astore, a_iinc, a_add, a_sub, a_mul, a_div, a_rem, a_dup, a_dup2, a_goto, a_ifnull, a_tsw, a_gi, a_gr, a_pi, a_ald, a_sld, a_ast, a_aald, a_len, a_gst, a_copy, a_max, a_min, a_iret, a_zret, a_aret, a_ret, a_cv, a_cn, a_sv, a_sn, icmp_t, icmp_f, aif_t, aif_f, lget, lset, fget, rget, apop, isO, Kv, Kn, fitb0, cmp, swl, InR, up, cpy, ↓reduceIte, if_true, if_false, Nat.left_eq_add, Nat.add_eq_left, Nat.add_left_cancel_iff, Nat.reduceEqDiff, Nat.zero_le, true_and, and_true, true_or, or_true, not_true_eq_false, not_false_eq_true, false_and, and_false, false_implies, true_implies, forall_const, ne_eq, Decidable.not_not, List.length_cons, List.length_nil, reduceCtorEq, Int.toNat_zero, Int.toNat_one, Int.cast_ofNat_Int, Nat.reduceAdd, Nat.reduceSub, Nat.reduceMul, Nat.reduceLT, Nat.reduceLeDiff, Nat.reduceEqDiff, Int.reduceAdd, Int.reduceSub, Int.reduceMul, Int.reduceNeg, Int.reduceLT, Int.reduceLE, Int.reduceEq, Int.reduceNe, Int.reduceToNat, t_8_insert X, sxM hG, show ¬ (p ≤ a) by omega, e])
      repeat' (first | assumption | with_reducible apply And.intro | with_reducible intro _)
      all_goals (try omega)
set_option maxRecDepth 40000 in
theorem lp_ins2 (hG : MSh G) {a l r c : Int} (ha : 0 ≤ a ∧ a ≤ c ∧ c ≤ 19) (hQ : WPc X M_8_insert Q 71 [some (.inr 179), some (.inl a), some (.inl l), some (.inl r), some (.inl 2), some (.inl a)] [] (G, 0, 0) (shD σ 41 a c)) : ∀ (n : Nat) (p : Int), a ≤ p → p ≤ c → p - a ≤ n → WPc X M_8_insert Q 71 [some (.inr 179), some (.inl a), some (.inl l), some (.inl r), some (.inl 2), some (.inl p)] [] (G, 0, 0) (shD σ 41 p c) := by
  intro n
  induction n with
  | zero =>
    intro p p0 p1 p2
    rw [show p = a by omega]
    exact hQ
  | succ n ih =>
    intro p p0 p1 p2
    by_cases c1 : p = a
    · rw [c1]
      exact hQ
    · have ih := ih (p - 1) (by omega) (by omega) (by omega)
      rw [← shD_s p1] at ih
      have e : shD σ 41 p c 180 (41 + p - 1) = σ 180 (41 + p - 1) := by
        unfold shD
        rw [if_neg (by omega)]
      rw [show p - 1 = p + -1 by omega] at ih
      refine blk_at (tok_8_insert X) 1000 rfl ?_
      simp (maxSteps := 4000000) only [blk_s, blk_z, a_const, a_iload, a_aload, a_istore, a_astore, a_iinc, a_add, a_sub, a_mul, a_div, a_rem, a_dup, a_dup2, a_goto, a_ifnull, a_tsw, a_gi, a_gr, a_pi, a_ald, a_sld, a_ast, a_aald, a_len, a_gst, a_copy, a_max, a_min, a_iret, a_zret, a_aret, a_ret, a_cv, a_cn, a_sv, a_sn, icmp_t, icmp_f, aif_t, aif_f, lget, lset, fget, rget, apop, isO, Kv, Kn, fitb0, cmp, swl, InR, up, cpy, ↓reduceIte, if_true, if_false, Nat.left_eq_add, Nat.add_eq_left, Nat.add_left_cancel_iff, Nat.reduceEqDiff, Nat.zero_le, true_and, and_true, true_or, or_true, not_true_eq_false, not_false_eq_true, false_and, and_false, false_implies, true_implies, forall_const, ne_eq, Decidable.not_not, List.length_cons, List.length_nil, reduceCtorEq, Int.toNat_zero, Int.toNat_one, Int.cast_ofNat_Int, Nat.reduceAdd, Nat.reduceSub, Nat.reduceMul, Nat.reduceLT, Nat.reduceLeDiff, Nat.reduceEqDiff, Int.reduceAdd, Int.reduceSub, Int.reduceMul, Int.reduceNeg, Int.reduceLT, Int.reduceLE, Int.reduceEq, Int.reduceNe, Int.reduceToNat, t_8_insert X, sxM hG, show ¬ (p ≤ a) by omega, e]
      repeat (simp only [icmp_b, aif_b, cmp]; simp (maxSteps := 4000000) only [blk_s, blk_z, a_const, a_iload, a_aload, a_istore, a_astore, a_iinc, a_add, a_sub, a_mul, a_div, a_rem, a_dup, a_dup2, a_goto, a_ifnull, a_tsw, a_gi, a_gr, a_pi, a_ald, a_sld, a_ast, a_aald, a_len, a_gst, a_copy, a_max, a_min, a_iret, a_zret, a_aret, a_ret, a_cv, a_cn, a_sv, a_sn, icmp_t, icmp_f, aif_t, aif_f, lget, lset, fget, rget, apop, isO, Kv, Kn, fitb0, cmp, swl, InR, up, cpy, ↓reduceIte, if_true, if_false, Nat.left_eq_add, Nat.add_eq_left, Nat.add_left_cancel_iff, Nat.reduceEqDiff, Nat.zero_le, true_and, and_true, true_or, or_true, not_true_eq_false, not_false_eq_true, false_and, and_false, false_implies, true_implies, forall_const, ne_eq, Decidable.not_not, List.length_cons, List.length_nil, reduceCtorEq, Int.toNat_zero, Int.toNat_one, Int.cast_ofNat_Int, Nat.reduceAdd, Nat.reduceSub, Nat.reduceMul, Nat.reduceLT, Nat.reduceLeDiff, Nat.reduceEqDiff, Int.reduceAdd, Int.reduceSub, Int.reduceMul, Int.reduceNeg, Int.reduceLT, Int.reduceLE, Int.reduceEq, Int.reduceNe, Int.reduceToNat, t_8_insert X, sxM hG, show ¬ (p ≤ a) by omega, e])
      repeat' (first | assumption | with_reducible apply And.intro | with_reducible intro _)
      all_goals (try omega)
set_option maxRecDepth 40000 in
theorem lp_ins3 (hG : MSh G) {a l r c : Int} (ha : 0 ≤ a ∧ a ≤ c ∧ c ≤ 19) (hQ : WPc X M_8_insert Q 71 [some (.inr 179), some (.inl a), some (.inl l), some (.inl r), some (.inl 3), some (.inl a)] [] (G, 0, 0) (shD σ 61 a c)) : ∀ (n : Nat) (p : Int), a ≤ p → p ≤ c → p - a ≤ n → WPc X M_8_insert Q 71 [some (.inr 179), some (.inl a), some (.inl l), some (.inl r), some (.inl 3), some (.inl p)] [] (G, 0, 0) (shD σ 61 p c) := by
  intro n
  induction n with
  | zero =>
    intro p p0 p1 p2
    rw [show p = a by omega]
    exact hQ
  | succ n ih =>
    intro p p0 p1 p2
    by_cases c1 : p = a
    · rw [c1]
      exact hQ
    · have ih := ih (p - 1) (by omega) (by omega) (by omega)
      rw [← shD_s p1] at ih
      have e : shD σ 61 p c 180 (61 + p - 1) = σ 180 (61 + p - 1) := by
        unfold shD
        rw [if_neg (by omega)]
      rw [show p - 1 = p + -1 by omega] at ih
      refine blk_at (tok_8_insert X) 1000 rfl ?_
      simp (maxSteps := 4000000) only [blk_s, blk_z, a_const, a_iload, a_aload, a_istore, a_astore, a_iinc, a_add, a_sub, a_mul, a_div, a_rem, a_dup, a_dup2, a_goto, a_ifnull, a_tsw, a_gi, a_gr, a_pi, a_ald, a_sld, a_ast, a_aald, a_len, a_gst, a_copy, a_max, a_min, a_iret, a_zret, a_aret, a_ret, a_cv, a_cn, a_sv, a_sn, icmp_t, icmp_f, aif_t, aif_f, lget, lset, fget, rget, apop, isO, Kv, Kn, fitb0, cmp, swl, InR, up, cpy, ↓reduceIte, if_true, if_false, Nat.left_eq_add, Nat.add_eq_left, Nat.add_left_cancel_iff, Nat.reduceEqDiff, Nat.zero_le, true_and, and_true, true_or, or_true, not_true_eq_false, not_false_eq_true, false_and, and_false, false_implies, true_implies, forall_const, ne_eq, Decidable.not_not, List.length_cons, List.length_nil, reduceCtorEq, Int.toNat_zero, Int.toNat_one, Int.cast_ofNat_Int, Nat.reduceAdd, Nat.reduceSub, Nat.reduceMul, Nat.reduceLT, Nat.reduceLeDiff, Nat.reduceEqDiff, Int.reduceAdd, Int.reduceSub, Int.reduceMul, Int.reduceNeg, Int.reduceLT, Int.reduceLE, Int.reduceEq, Int.reduceNe, Int.reduceToNat, t_8_insert X, sxM hG, show ¬ (p ≤ a) by omega, e]
      repeat (simp only [icmp_b, aif_b, cmp]; simp (maxSteps := 4000000) only [blk_s, blk_z, a_const, a_iload, a_aload, a_istore, a_astore, a_iinc, a_add, a_sub, a_mul, a_div, a_rem, a_dup, a_dup2, a_goto, a_ifnull, a_tsw, a_gi, a_gr, a_pi, a_ald, a_sld, a_ast, a_aald, a_len, a_gst, a_copy, a_max, a_min, a_iret, a_zret, a_aret, a_ret, a_cv, a_cn, a_sv, a_sn, icmp_t, icmp_f, aif_t, aif_f, lget, lset, fget, rget, apop, isO, Kv, Kn, fitb0, cmp, swl, InR, up, cpy, ↓reduceIte, if_true, if_false, Nat.left_eq_add, Nat.add_eq_left, Nat.add_left_cancel_iff, Nat.reduceEqDiff, Nat.zero_le, true_and, and_true, true_or, or_true, not_true_eq_false, not_false_eq_true, false_and, and_false, false_implies, true_implies, forall_const, ne_eq, Decidable.not_not, List.length_cons, List.length_nil, reduceCtorEq, Int.toNat_zero, Int.toNat_one, Int.cast_ofNat_Int, Nat.reduceAdd, Nat.reduceSub, Nat.reduceMul, Nat.reduceLT, Nat.reduceLeDiff, Nat.reduceEqDiff, Int.reduceAdd, Int.reduceSub, Int.reduceMul, Int.reduceNeg, Int.reduceLT, Int.reduceLE, Int.reduceEq, Int.reduceNe, Int.reduceToNat, t_8_insert X, sxM hG, show ¬ (p ≤ a) by omega, e])
      repeat' (first | assumption | with_reducible apply And.intro | with_reducible intro _)
      all_goals (try omega)
/-- the notes' pairs moved -/
def inD (σ : Sto) (a m : Int) (b : Nat) (i : Int) : Int := if (b = 180 ∧ 89 ≤ i ∧ i < 89 + m) ∧ (i - 89) % 40 < σ 180 (87 + (i - 89) / 40) ∧ a ≤ σ 180 i then σ 180 i + 1 else σ b i
set_option maxRecDepth 40000 in
theorem lp_inD (hG : MSh G) {a l r z : Int} (hb : ∀ j, 0 ≤ j → j < 329 → 0 ≤ σ 180 j ∧ σ 180 j ≤ 100) (hQ : WPc X M_8_insert Q 163 [some (.inr 179), some (.inl a), some (.inl l), some (.inl r), some (.inl 80), some (.inl z)] [] (G, 0, 0) (inD σ a 80)) : ∀ (n : Nat) (k : Int), 0 ≤ k → k ≤ 80 → 80 - k ≤ n → WPc X M_8_insert Q 163 [some (.inr 179), some (.inl a), some (.inl l), some (.inl r), some (.inl k), some (.inl z)] [] (G, 0, 0) (inD σ a k) := by
  intro n
  induction n with
  | zero =>
    intro k k0 k1 k2
    rw [show k = 80 by omega]
    exact hQ
  | succ n ih =>
    intro k k0 k1 k2
    by_cases c1 : k = 80
    · rw [c1]
      exact hQ
    · have ih := ih (k + 1) (by omega) (by omega) (by omega)
      have e1 : inD σ a k 180 (89 + k) = σ 180 (89 + k) := by
        unfold inD
        rw [if_neg (by omega)]
      have e2 : inD σ a k 180 (87 + k / 40) = σ 180 (87 + k / 40) := by
        unfold inD
        rw [if_neg (by omega)]
      have b1 := hb (89 + k) (by omega) (by omega)
      have hk : 0 ≤ k / 40 ∧ k / 40 ≤ 1 := by omega
      by_cases c2 : k % 40 < σ 180 (87 + k / 40) ∧ a ≤ σ 180 (89 + k)
      · have e : up (inD σ a k) 180 (89 + k) (σ 180 (89 + k) + 1) = inD σ a (k + 1) := by
          funext b i
          unfold up inD
          by_cases q : b = 180 ∧ i = 89 + k
          · obtain ⟨rfl, rfl⟩ := q
            rw [if_pos ⟨rfl, rfl⟩, show 89 + k - 89 = k by omega, if_pos ⟨by omega, c2⟩]
          · rw [if_neg q]
            by_cases q2 : (b = 180 ∧ 89 ≤ i ∧ i < 89 + k) ∧ (i - 89) % 40 < σ 180 (87 + (i - 89) / 40) ∧ a ≤ σ 180 i
            · rw [if_pos q2, if_pos ⟨by omega, q2.2⟩]
            · rw [if_neg q2, if_neg (fun q3 => q2 ⟨by omega, q3.2⟩)]
        rw [← e] at ih
        refine blk_at (tok_8_insert X) 1000 rfl ?_
        simp (maxSteps := 4000000) only [blk_s, blk_z, a_const, a_iload, a_aload, a_istore, a_astore, a_iinc, a_add, a_sub, a_mul, a_div, a_rem, a_dup, a_dup2, a_goto, a_ifnull, a_tsw, a_gi, a_gr, a_pi, a_ald, a_sld, a_ast, a_aald, a_len, a_gst, a_copy, a_max, a_min, a_iret, a_zret, a_aret, a_ret, a_cv, a_cn, a_sv, a_sn, icmp_t, icmp_f, aif_t, aif_f, lget, lset, fget, rget, apop, isO, Kv, Kn, fitb0, cmp, swl, InR, up, cpy, ↓reduceIte, if_true, if_false, Nat.left_eq_add, Nat.add_eq_left, Nat.add_left_cancel_iff, Nat.reduceEqDiff, Nat.zero_le, true_and, and_true, true_or, or_true, not_true_eq_false, not_false_eq_true, false_and, and_false, false_implies, true_implies, forall_const, ne_eq, Decidable.not_not, List.length_cons, List.length_nil, reduceCtorEq, Int.toNat_zero, Int.toNat_one, Int.cast_ofNat_Int, Nat.reduceAdd, Nat.reduceSub, Nat.reduceMul, Nat.reduceLT, Nat.reduceLeDiff, Nat.reduceEqDiff, Int.reduceAdd, Int.reduceSub, Int.reduceMul, Int.reduceNeg, Int.reduceLT, Int.reduceLE, Int.reduceEq, Int.reduceNe, Int.reduceToNat, t_8_insert X, sxM hG, show ¬ (80 ≤ k) by omega, e1, e2, show ¬ (σ 180 (87 + k / 40) ≤ k % 40) by omega, show ¬ (σ 180 (89 + k) < a) by omega]
        repeat (simp only [icmp_b, aif_b, cmp]; simp (maxSteps := 4000000) only [blk_s, blk_z, a_const, a_iload, a_aload, a_istore, a_astore, a_iinc, a_add, a_sub, a_mul, a_div, a_rem, a_dup, a_dup2, a_goto, a_ifnull, a_tsw, a_gi, a_gr, a_pi, a_ald, a_sld, a_ast, a_aald, a_len, a_gst, a_copy, a_max, a_min, a_iret, a_zret, a_aret, a_ret, a_cv, a_cn, a_sv, a_sn, icmp_t, icmp_f, aif_t, aif_f, lget, lset, fget, rget, apop, isO, Kv, Kn, fitb0, cmp, swl, InR, up, cpy, ↓reduceIte, if_true, if_false, Nat.left_eq_add, Nat.add_eq_left, Nat.add_left_cancel_iff, Nat.reduceEqDiff, Nat.zero_le, true_and, and_true, true_or, or_true, not_true_eq_false, not_false_eq_true, false_and, and_false, false_implies, true_implies, forall_const, ne_eq, Decidable.not_not, List.length_cons, List.length_nil, reduceCtorEq, Int.toNat_zero, Int.toNat_one, Int.cast_ofNat_Int, Nat.reduceAdd, Nat.reduceSub, Nat.reduceMul, Nat.reduceLT, Nat.reduceLeDiff, Nat.reduceEqDiff, Int.reduceAdd, Int.reduceSub, Int.reduceMul, Int.reduceNeg, Int.reduceLT, Int.reduceLE, Int.reduceEq, Int.reduceNe, Int.reduceToNat, t_8_insert X, sxM hG, show ¬ (80 ≤ k) by omega, e1, e2, show ¬ (σ 180 (87 + k / 40) ≤ k % 40) by omega, show ¬ (σ 180 (89 + k) < a) by omega])
        repeat' (first | assumption | with_reducible apply And.intro | with_reducible intro _)
        all_goals (try omega)
      · have e : up (inD σ a k) 180 (89 + k) (σ 180 (89 + k) + 0) = inD σ a (k + 1) := by
          funext b i
          unfold up inD
          by_cases q : b = 180 ∧ i = 89 + k
          · obtain ⟨rfl, rfl⟩ := q
            rw [if_pos ⟨rfl, rfl⟩, show 89 + k - 89 = k by omega, if_neg (fun q3 => c2 q3.2), Int.add_zero]
          · rw [if_neg q]
            by_cases q2 : (b = 180 ∧ 89 ≤ i ∧ i < 89 + k) ∧ (i - 89) % 40 < σ 180 (87 + (i - 89) / 40) ∧ a ≤ σ 180 i
            · rw [if_pos q2, if_pos ⟨by omega, q2.2⟩]
            · rw [if_neg q2, if_neg (fun q3 => q2 ⟨by omega, q3.2⟩)]
        rw [← e] at ih
        by_cases c3 : σ 180 (87 + k / 40) ≤ k % 40
        · refine blk_at (tok_8_insert X) 1000 rfl ?_
          simp (maxSteps := 4000000) only [blk_s, blk_z, a_const, a_iload, a_aload, a_istore, a_astore, a_iinc, a_add, a_sub, a_mul, a_div, a_rem, a_dup, a_dup2, a_goto, a_ifnull, a_tsw, a_gi, a_gr, a_pi, a_ald, a_sld, a_ast, a_aald, a_len, a_gst, a_copy, a_max, a_min, a_iret, a_zret, a_aret, a_ret, a_cv, a_cn, a_sv, a_sn, icmp_t, icmp_f, aif_t, aif_f, lget, lset, fget, rget, apop, isO, Kv, Kn, fitb0, cmp, swl, InR, up, cpy, ↓reduceIte, if_true, if_false, Nat.left_eq_add, Nat.add_eq_left, Nat.add_left_cancel_iff, Nat.reduceEqDiff, Nat.zero_le, true_and, and_true, true_or, or_true, not_true_eq_false, not_false_eq_true, false_and, and_false, false_implies, true_implies, forall_const, ne_eq, Decidable.not_not, List.length_cons, List.length_nil, reduceCtorEq, Int.toNat_zero, Int.toNat_one, Int.cast_ofNat_Int, Nat.reduceAdd, Nat.reduceSub, Nat.reduceMul, Nat.reduceLT, Nat.reduceLeDiff, Nat.reduceEqDiff, Int.reduceAdd, Int.reduceSub, Int.reduceMul, Int.reduceNeg, Int.reduceLT, Int.reduceLE, Int.reduceEq, Int.reduceNe, Int.reduceToNat, t_8_insert X, sxM hG, show ¬ (80 ≤ k) by omega, e1, e2, c3]
          repeat (simp only [icmp_b, aif_b, cmp]; simp (maxSteps := 4000000) only [blk_s, blk_z, a_const, a_iload, a_aload, a_istore, a_astore, a_iinc, a_add, a_sub, a_mul, a_div, a_rem, a_dup, a_dup2, a_goto, a_ifnull, a_tsw, a_gi, a_gr, a_pi, a_ald, a_sld, a_ast, a_aald, a_len, a_gst, a_copy, a_max, a_min, a_iret, a_zret, a_aret, a_ret, a_cv, a_cn, a_sv, a_sn, icmp_t, icmp_f, aif_t, aif_f, lget, lset, fget, rget, apop, isO, Kv, Kn, fitb0, cmp, swl, InR, up, cpy, ↓reduceIte, if_true, if_false, Nat.left_eq_add, Nat.add_eq_left, Nat.add_left_cancel_iff, Nat.reduceEqDiff, Nat.zero_le, true_and, and_true, true_or, or_true, not_true_eq_false, not_false_eq_true, false_and, and_false, false_implies, true_implies, forall_const, ne_eq, Decidable.not_not, List.length_cons, List.length_nil, reduceCtorEq, Int.toNat_zero, Int.toNat_one, Int.cast_ofNat_Int, Nat.reduceAdd, Nat.reduceSub, Nat.reduceMul, Nat.reduceLT, Nat.reduceLeDiff, Nat.reduceEqDiff, Int.reduceAdd, Int.reduceSub, Int.reduceMul, Int.reduceNeg, Int.reduceLT, Int.reduceLE, Int.reduceEq, Int.reduceNe, Int.reduceToNat, t_8_insert X, sxM hG, show ¬ (80 ≤ k) by omega, e1, e2, c3])
          repeat' (first | assumption | with_reducible apply And.intro | with_reducible intro _)
          all_goals (try omega)
        · refine blk_at (tok_8_insert X) 1000 rfl ?_
          simp (maxSteps := 4000000) only [blk_s, blk_z, a_const, a_iload, a_aload, a_istore, a_astore, a_iinc, a_add, a_sub, a_mul, a_div, a_rem, a_dup, a_dup2, a_goto, a_ifnull, a_tsw, a_gi, a_gr, a_pi, a_ald, a_sld, a_ast, a_aald, a_len, a_gst, a_copy, a_max, a_min, a_iret, a_zret, a_aret, a_ret, a_cv, a_cn, a_sv, a_sn, icmp_t, icmp_f, aif_t, aif_f, lget, lset, fget, rget, apop, isO, Kv, Kn, fitb0, cmp, swl, InR, up, cpy, ↓reduceIte, if_true, if_false, Nat.left_eq_add, Nat.add_eq_left, Nat.add_left_cancel_iff, Nat.reduceEqDiff, Nat.zero_le, true_and, and_true, true_or, or_true, not_true_eq_false, not_false_eq_true, false_and, and_false, false_implies, true_implies, forall_const, ne_eq, Decidable.not_not, List.length_cons, List.length_nil, reduceCtorEq, Int.toNat_zero, Int.toNat_one, Int.cast_ofNat_Int, Nat.reduceAdd, Nat.reduceSub, Nat.reduceMul, Nat.reduceLT, Nat.reduceLeDiff, Nat.reduceEqDiff, Int.reduceAdd, Int.reduceSub, Int.reduceMul, Int.reduceNeg, Int.reduceLT, Int.reduceLE, Int.reduceEq, Int.reduceNe, Int.reduceToNat, t_8_insert X, sxM hG, show ¬ (80 ≤ k) by omega, e1, e2, c3, show σ 180 (89 + k) < a by omega]
          repeat (simp only [icmp_b, aif_b, cmp]; simp (maxSteps := 4000000) only [blk_s, blk_z, a_const, a_iload, a_aload, a_istore, a_astore, a_iinc, a_add, a_sub, a_mul, a_div, a_rem, a_dup, a_dup2, a_goto, a_ifnull, a_tsw, a_gi, a_gr, a_pi, a_ald, a_sld, a_ast, a_aald, a_len, a_gst, a_copy, a_max, a_min, a_iret, a_zret, a_aret, a_ret, a_cv, a_cn, a_sv, a_sn, icmp_t, icmp_f, aif_t, aif_f, lget, lset, fget, rget, apop, isO, Kv, Kn, fitb0, cmp, swl, InR, up, cpy, ↓reduceIte, if_true, if_false, Nat.left_eq_add, Nat.add_eq_left, Nat.add_left_cancel_iff, Nat.reduceEqDiff, Nat.zero_le, true_and, and_true, true_or, or_true, not_true_eq_false, not_false_eq_true, false_and, and_false, false_implies, true_implies, forall_const, ne_eq, Decidable.not_not, List.length_cons, List.length_nil, reduceCtorEq, Int.toNat_zero, Int.toNat_one, Int.cast_ofNat_Int, Nat.reduceAdd, Nat.reduceSub, Nat.reduceMul, Nat.reduceLT, Nat.reduceLeDiff, Nat.reduceEqDiff, Int.reduceAdd, Int.reduceSub, Int.reduceMul, Int.reduceNeg, Int.reduceLT, Int.reduceLE, Int.reduceEq, Int.reduceNe, Int.reduceToNat, t_8_insert X, sxM hG, show ¬ (80 ≤ k) by omega, e1, e2, c3, show σ 180 (89 + k) < a by omega])
          repeat' (first | assumption | with_reducible apply And.intro | with_reducible intro _)
          all_goals (try omega)
theorem mm_insert (hG : MSh G) {V : Sto} {a l r : Int} (hV : EdOK V) (hM : MR V σ) (hm : 0 ≤ σ 179 2 ∧ σ 179 2 ≤ 6) (h1 : ¬ ((0 ≤ a ∧ a ≤ V 1 0) ∧ (1 ≤ l ∧ l ≤ 30) ∧ (1 ≤ r ∧ r ≤ 30)) → Q (some (.inl (-1))) G σ) (h2 : ((0 ≤ a ∧ a ≤ V 1 0) ∧ (1 ≤ l ∧ l ≤ 30) ∧ (1 ≤ r ∧ r ≤ 30)) → 20 ≤ V 1 0 → Q (some (.inl (-3))) G σ)
    (h3 : ((0 ≤ a ∧ a ≤ V 1 0) ∧ (1 ≤ l ∧ l ≤ 30) ∧ (1 ≤ r ∧ r ≤ 30)) → V 1 0 < 20 → ∀ σ', ChM σ σ' → (∀ V', inR V V' a l r → MR V' σ') → Q (some (.inl (V 1 0 + 1))) G σ') : MS X M_8_insert [.inr 179, .inl a, .inl l, .inl r] G σ Q := by
  have hn := hV.1
  have hd0 := hM.1
  refine MS_in [some (.inr 179), some (.inl a), some (.inl l), some (.inl r), none, none] mok_8_insert (Nat.le_of_ble_eq_true rfl) rfl ?_
  refine blk_wp (tok_8_insert X) 1000 _ _ _ _ _ ?_
  simp (maxSteps := 4000000) only [blk_s, blk_z, a_const, a_iload, a_aload, a_istore, a_astore, a_iinc, a_add, a_sub, a_mul, a_div, a_rem, a_dup, a_dup2, a_goto, a_ifnull, a_tsw, a_gi, a_gr, a_pi, a_ald, a_sld, a_ast, a_aald, a_len, a_gst, a_copy, a_max, a_min, a_iret, a_zret, a_aret, a_ret, a_cv, a_cn, a_sv, a_sn, icmp_t, icmp_f, aif_t, aif_f, lget, lset, fget, rget, apop, isO, Kv, Kn, fitb0, cmp, swl, InR, up, cpy, ↓reduceIte, if_true, if_false, Nat.left_eq_add, Nat.add_eq_left, Nat.add_left_cancel_iff, Nat.reduceEqDiff, Nat.zero_le, true_and, and_true, true_or, or_true, not_true_eq_false, not_false_eq_true, false_and, and_false, false_implies, true_implies, forall_const, ne_eq, Decidable.not_not, List.length_cons, List.length_nil, reduceCtorEq, Int.toNat_zero, Int.toNat_one, Int.cast_ofNat_Int, Nat.reduceAdd, Nat.reduceSub, Nat.reduceMul, Nat.reduceLT, Nat.reduceLeDiff, Nat.reduceEqDiff, Int.reduceAdd, Int.reduceSub, Int.reduceMul, Int.reduceNeg, Int.reduceLT, Int.reduceLE, Int.reduceEq, Int.reduceNe, Int.reduceToNat, t_8_insert X, sxM hG, hd0]
  repeat (simp only [icmp_b, aif_b, cmp]; simp (maxSteps := 4000000) only [blk_s, blk_z, a_const, a_iload, a_aload, a_istore, a_astore, a_iinc, a_add, a_sub, a_mul, a_div, a_rem, a_dup, a_dup2, a_goto, a_ifnull, a_tsw, a_gi, a_gr, a_pi, a_ald, a_sld, a_ast, a_aald, a_len, a_gst, a_copy, a_max, a_min, a_iret, a_zret, a_aret, a_ret, a_cv, a_cn, a_sv, a_sn, icmp_t, icmp_f, aif_t, aif_f, lget, lset, fget, rget, apop, isO, Kv, Kn, fitb0, cmp, swl, InR, up, cpy, ↓reduceIte, if_true, if_false, Nat.left_eq_add, Nat.add_eq_left, Nat.add_left_cancel_iff, Nat.reduceEqDiff, Nat.zero_le, true_and, and_true, true_or, or_true, not_true_eq_false, not_false_eq_true, false_and, and_false, false_implies, true_implies, forall_const, ne_eq, Decidable.not_not, List.length_cons, List.length_nil, reduceCtorEq, Int.toNat_zero, Int.toNat_one, Int.cast_ofNat_Int, Nat.reduceAdd, Nat.reduceSub, Nat.reduceMul, Nat.reduceLT, Nat.reduceLeDiff, Nat.reduceEqDiff, Int.reduceAdd, Int.reduceSub, Int.reduceMul, Int.reduceNeg, Int.reduceLT, Int.reduceLE, Int.reduceEq, Int.reduceNe, Int.reduceToNat, t_8_insert X, sxM hG, hd0])
  apply mm_in
  by_cases c1 : 0 ≤ a ∧ a ≤ V 1 0
  case neg =>
    rw [if_neg c1]
    simp (maxSteps := 4000000) only [blk_s, blk_z, a_const, a_iload, a_aload, a_istore, a_astore, a_iinc, a_add, a_sub, a_mul, a_div, a_rem, a_dup, a_dup2, a_goto, a_ifnull, a_tsw, a_gi, a_gr, a_pi, a_ald, a_sld, a_ast, a_aald, a_len, a_gst, a_copy, a_max, a_min, a_iret, a_zret, a_aret, a_ret, a_cv, a_cn, a_sv, a_sn, icmp_t, icmp_f, aif_t, aif_f, lget, lset, fget, rget, apop, isO, Kv, Kn, fitb0, cmp, swl, InR, up, cpy, ↓reduceIte, if_true, if_false, Nat.left_eq_add, Nat.add_eq_left, Nat.add_left_cancel_iff, Nat.reduceEqDiff, Nat.zero_le, true_and, and_true, true_or, or_true, not_true_eq_false, not_false_eq_true, false_and, and_false, false_implies, true_implies, forall_const, ne_eq, Decidable.not_not, List.length_cons, List.length_nil, reduceCtorEq, Int.toNat_zero, Int.toNat_one, Int.cast_ofNat_Int, Nat.reduceAdd, Nat.reduceSub, Nat.reduceMul, Nat.reduceLT, Nat.reduceLeDiff, Nat.reduceEqDiff, Int.reduceAdd, Int.reduceSub, Int.reduceMul, Int.reduceNeg, Int.reduceLT, Int.reduceLE, Int.reduceEq, Int.reduceNe, Int.reduceToNat, t_8_insert X]
    repeat (simp only [icmp_b, aif_b, cmp]; simp (maxSteps := 4000000) only [blk_s, blk_z, a_const, a_iload, a_aload, a_istore, a_astore, a_iinc, a_add, a_sub, a_mul, a_div, a_rem, a_dup, a_dup2, a_goto, a_ifnull, a_tsw, a_gi, a_gr, a_pi, a_ald, a_sld, a_ast, a_aald, a_len, a_gst, a_copy, a_max, a_min, a_iret, a_zret, a_aret, a_ret, a_cv, a_cn, a_sv, a_sn, icmp_t, icmp_f, aif_t, aif_f, lget, lset, fget, rget, apop, isO, Kv, Kn, fitb0, cmp, swl, InR, up, cpy, ↓reduceIte, if_true, if_false, Nat.left_eq_add, Nat.add_eq_left, Nat.add_left_cancel_iff, Nat.reduceEqDiff, Nat.zero_le, true_and, and_true, true_or, or_true, not_true_eq_false, not_false_eq_true, false_and, and_false, false_implies, true_implies, forall_const, ne_eq, Decidable.not_not, List.length_cons, List.length_nil, reduceCtorEq, Int.toNat_zero, Int.toNat_one, Int.cast_ofNat_Int, Nat.reduceAdd, Nat.reduceSub, Nat.reduceMul, Nat.reduceLT, Nat.reduceLeDiff, Nat.reduceEqDiff, Int.reduceAdd, Int.reduceSub, Int.reduceMul, Int.reduceNeg, Int.reduceLT, Int.reduceLE, Int.reduceEq, Int.reduceNe, Int.reduceToNat, t_8_insert X])
    exact h1 (fun q => c1 q.1)
  rw [if_pos c1]
  simp (maxSteps := 4000000) only [blk_s, blk_z, a_const, a_iload, a_aload, a_istore, a_astore, a_iinc, a_add, a_sub, a_mul, a_div, a_rem, a_dup, a_dup2, a_goto, a_ifnull, a_tsw, a_gi, a_gr, a_pi, a_ald, a_sld, a_ast, a_aald, a_len, a_gst, a_copy, a_max, a_min, a_iret, a_zret, a_aret, a_ret, a_cv, a_cn, a_sv, a_sn, icmp_t, icmp_f, aif_t, aif_f, lget, lset, fget, rget, apop, isO, Kv, Kn, fitb0, cmp, swl, InR, up, cpy, ↓reduceIte, if_true, if_false, Nat.left_eq_add, Nat.add_eq_left, Nat.add_left_cancel_iff, Nat.reduceEqDiff, Nat.zero_le, true_and, and_true, true_or, or_true, not_true_eq_false, not_false_eq_true, false_and, and_false, false_implies, true_implies, forall_const, ne_eq, Decidable.not_not, List.length_cons, List.length_nil, reduceCtorEq, Int.toNat_zero, Int.toNat_one, Int.cast_ofNat_Int, Nat.reduceAdd, Nat.reduceSub, Nat.reduceMul, Nat.reduceLT, Nat.reduceLeDiff, Nat.reduceEqDiff, Int.reduceAdd, Int.reduceSub, Int.reduceMul, Int.reduceNeg, Int.reduceLT, Int.reduceLE, Int.reduceEq, Int.reduceNe, Int.reduceToNat, t_8_insert X]
  repeat (simp only [icmp_b, aif_b, cmp]; simp (maxSteps := 4000000) only [blk_s, blk_z, a_const, a_iload, a_aload, a_istore, a_astore, a_iinc, a_add, a_sub, a_mul, a_div, a_rem, a_dup, a_dup2, a_goto, a_ifnull, a_tsw, a_gi, a_gr, a_pi, a_ald, a_sld, a_ast, a_aald, a_len, a_gst, a_copy, a_max, a_min, a_iret, a_zret, a_aret, a_ret, a_cv, a_cn, a_sv, a_sn, icmp_t, icmp_f, aif_t, aif_f, lget, lset, fget, rget, apop, isO, Kv, Kn, fitb0, cmp, swl, InR, up, cpy, ↓reduceIte, if_true, if_false, Nat.left_eq_add, Nat.add_eq_left, Nat.add_left_cancel_iff, Nat.reduceEqDiff, Nat.zero_le, true_and, and_true, true_or, or_true, not_true_eq_false, not_false_eq_true, false_and, and_false, false_implies, true_implies, forall_const, ne_eq, Decidable.not_not, List.length_cons, List.length_nil, reduceCtorEq, Int.toNat_zero, Int.toNat_one, Int.cast_ofNat_Int, Nat.reduceAdd, Nat.reduceSub, Nat.reduceMul, Nat.reduceLT, Nat.reduceLeDiff, Nat.reduceEqDiff, Int.reduceAdd, Int.reduceSub, Int.reduceMul, Int.reduceNeg, Int.reduceLT, Int.reduceLE, Int.reduceEq, Int.reduceNe, Int.reduceToNat, t_8_insert X])
  apply mm_in
  by_cases c2 : 1 ≤ l ∧ l ≤ 30
  case neg =>
    rw [if_neg c2]
    simp (maxSteps := 4000000) only [blk_s, blk_z, a_const, a_iload, a_aload, a_istore, a_astore, a_iinc, a_add, a_sub, a_mul, a_div, a_rem, a_dup, a_dup2, a_goto, a_ifnull, a_tsw, a_gi, a_gr, a_pi, a_ald, a_sld, a_ast, a_aald, a_len, a_gst, a_copy, a_max, a_min, a_iret, a_zret, a_aret, a_ret, a_cv, a_cn, a_sv, a_sn, icmp_t, icmp_f, aif_t, aif_f, lget, lset, fget, rget, apop, isO, Kv, Kn, fitb0, cmp, swl, InR, up, cpy, ↓reduceIte, if_true, if_false, Nat.left_eq_add, Nat.add_eq_left, Nat.add_left_cancel_iff, Nat.reduceEqDiff, Nat.zero_le, true_and, and_true, true_or, or_true, not_true_eq_false, not_false_eq_true, false_and, and_false, false_implies, true_implies, forall_const, ne_eq, Decidable.not_not, List.length_cons, List.length_nil, reduceCtorEq, Int.toNat_zero, Int.toNat_one, Int.cast_ofNat_Int, Nat.reduceAdd, Nat.reduceSub, Nat.reduceMul, Nat.reduceLT, Nat.reduceLeDiff, Nat.reduceEqDiff, Int.reduceAdd, Int.reduceSub, Int.reduceMul, Int.reduceNeg, Int.reduceLT, Int.reduceLE, Int.reduceEq, Int.reduceNe, Int.reduceToNat, t_8_insert X]
    repeat (simp only [icmp_b, aif_b, cmp]; simp (maxSteps := 4000000) only [blk_s, blk_z, a_const, a_iload, a_aload, a_istore, a_astore, a_iinc, a_add, a_sub, a_mul, a_div, a_rem, a_dup, a_dup2, a_goto, a_ifnull, a_tsw, a_gi, a_gr, a_pi, a_ald, a_sld, a_ast, a_aald, a_len, a_gst, a_copy, a_max, a_min, a_iret, a_zret, a_aret, a_ret, a_cv, a_cn, a_sv, a_sn, icmp_t, icmp_f, aif_t, aif_f, lget, lset, fget, rget, apop, isO, Kv, Kn, fitb0, cmp, swl, InR, up, cpy, ↓reduceIte, if_true, if_false, Nat.left_eq_add, Nat.add_eq_left, Nat.add_left_cancel_iff, Nat.reduceEqDiff, Nat.zero_le, true_and, and_true, true_or, or_true, not_true_eq_false, not_false_eq_true, false_and, and_false, false_implies, true_implies, forall_const, ne_eq, Decidable.not_not, List.length_cons, List.length_nil, reduceCtorEq, Int.toNat_zero, Int.toNat_one, Int.cast_ofNat_Int, Nat.reduceAdd, Nat.reduceSub, Nat.reduceMul, Nat.reduceLT, Nat.reduceLeDiff, Nat.reduceEqDiff, Int.reduceAdd, Int.reduceSub, Int.reduceMul, Int.reduceNeg, Int.reduceLT, Int.reduceLE, Int.reduceEq, Int.reduceNe, Int.reduceToNat, t_8_insert X])
    exact h1 (fun q => c2 q.2.1)
  rw [if_pos c2]
  simp (maxSteps := 4000000) only [blk_s, blk_z, a_const, a_iload, a_aload, a_istore, a_astore, a_iinc, a_add, a_sub, a_mul, a_div, a_rem, a_dup, a_dup2, a_goto, a_ifnull, a_tsw, a_gi, a_gr, a_pi, a_ald, a_sld, a_ast, a_aald, a_len, a_gst, a_copy, a_max, a_min, a_iret, a_zret, a_aret, a_ret, a_cv, a_cn, a_sv, a_sn, icmp_t, icmp_f, aif_t, aif_f, lget, lset, fget, rget, apop, isO, Kv, Kn, fitb0, cmp, swl, InR, up, cpy, ↓reduceIte, if_true, if_false, Nat.left_eq_add, Nat.add_eq_left, Nat.add_left_cancel_iff, Nat.reduceEqDiff, Nat.zero_le, true_and, and_true, true_or, or_true, not_true_eq_false, not_false_eq_true, false_and, and_false, false_implies, true_implies, forall_const, ne_eq, Decidable.not_not, List.length_cons, List.length_nil, reduceCtorEq, Int.toNat_zero, Int.toNat_one, Int.cast_ofNat_Int, Nat.reduceAdd, Nat.reduceSub, Nat.reduceMul, Nat.reduceLT, Nat.reduceLeDiff, Nat.reduceEqDiff, Int.reduceAdd, Int.reduceSub, Int.reduceMul, Int.reduceNeg, Int.reduceLT, Int.reduceLE, Int.reduceEq, Int.reduceNe, Int.reduceToNat, t_8_insert X]
  repeat (simp only [icmp_b, aif_b, cmp]; simp (maxSteps := 4000000) only [blk_s, blk_z, a_const, a_iload, a_aload, a_istore, a_astore, a_iinc, a_add, a_sub, a_mul, a_div, a_rem, a_dup, a_dup2, a_goto, a_ifnull, a_tsw, a_gi, a_gr, a_pi, a_ald, a_sld, a_ast, a_aald, a_len, a_gst, a_copy, a_max, a_min, a_iret, a_zret, a_aret, a_ret, a_cv, a_cn, a_sv, a_sn, icmp_t, icmp_f, aif_t, aif_f, lget, lset, fget, rget, apop, isO, Kv, Kn, fitb0, cmp, swl, InR, up, cpy, ↓reduceIte, if_true, if_false, Nat.left_eq_add, Nat.add_eq_left, Nat.add_left_cancel_iff, Nat.reduceEqDiff, Nat.zero_le, true_and, and_true, true_or, or_true, not_true_eq_false, not_false_eq_true, false_and, and_false, false_implies, true_implies, forall_const, ne_eq, Decidable.not_not, List.length_cons, List.length_nil, reduceCtorEq, Int.toNat_zero, Int.toNat_one, Int.cast_ofNat_Int, Nat.reduceAdd, Nat.reduceSub, Nat.reduceMul, Nat.reduceLT, Nat.reduceLeDiff, Nat.reduceEqDiff, Int.reduceAdd, Int.reduceSub, Int.reduceMul, Int.reduceNeg, Int.reduceLT, Int.reduceLE, Int.reduceEq, Int.reduceNe, Int.reduceToNat, t_8_insert X])
  apply mm_in
  by_cases c3 : 1 ≤ r ∧ r ≤ 30
  case neg =>
    rw [if_neg c3]
    simp (maxSteps := 4000000) only [blk_s, blk_z, a_const, a_iload, a_aload, a_istore, a_astore, a_iinc, a_add, a_sub, a_mul, a_div, a_rem, a_dup, a_dup2, a_goto, a_ifnull, a_tsw, a_gi, a_gr, a_pi, a_ald, a_sld, a_ast, a_aald, a_len, a_gst, a_copy, a_max, a_min, a_iret, a_zret, a_aret, a_ret, a_cv, a_cn, a_sv, a_sn, icmp_t, icmp_f, aif_t, aif_f, lget, lset, fget, rget, apop, isO, Kv, Kn, fitb0, cmp, swl, InR, up, cpy, ↓reduceIte, if_true, if_false, Nat.left_eq_add, Nat.add_eq_left, Nat.add_left_cancel_iff, Nat.reduceEqDiff, Nat.zero_le, true_and, and_true, true_or, or_true, not_true_eq_false, not_false_eq_true, false_and, and_false, false_implies, true_implies, forall_const, ne_eq, Decidable.not_not, List.length_cons, List.length_nil, reduceCtorEq, Int.toNat_zero, Int.toNat_one, Int.cast_ofNat_Int, Nat.reduceAdd, Nat.reduceSub, Nat.reduceMul, Nat.reduceLT, Nat.reduceLeDiff, Nat.reduceEqDiff, Int.reduceAdd, Int.reduceSub, Int.reduceMul, Int.reduceNeg, Int.reduceLT, Int.reduceLE, Int.reduceEq, Int.reduceNe, Int.reduceToNat, t_8_insert X]
    repeat (simp only [icmp_b, aif_b, cmp]; simp (maxSteps := 4000000) only [blk_s, blk_z, a_const, a_iload, a_aload, a_istore, a_astore, a_iinc, a_add, a_sub, a_mul, a_div, a_rem, a_dup, a_dup2, a_goto, a_ifnull, a_tsw, a_gi, a_gr, a_pi, a_ald, a_sld, a_ast, a_aald, a_len, a_gst, a_copy, a_max, a_min, a_iret, a_zret, a_aret, a_ret, a_cv, a_cn, a_sv, a_sn, icmp_t, icmp_f, aif_t, aif_f, lget, lset, fget, rget, apop, isO, Kv, Kn, fitb0, cmp, swl, InR, up, cpy, ↓reduceIte, if_true, if_false, Nat.left_eq_add, Nat.add_eq_left, Nat.add_left_cancel_iff, Nat.reduceEqDiff, Nat.zero_le, true_and, and_true, true_or, or_true, not_true_eq_false, not_false_eq_true, false_and, and_false, false_implies, true_implies, forall_const, ne_eq, Decidable.not_not, List.length_cons, List.length_nil, reduceCtorEq, Int.toNat_zero, Int.toNat_one, Int.cast_ofNat_Int, Nat.reduceAdd, Nat.reduceSub, Nat.reduceMul, Nat.reduceLT, Nat.reduceLeDiff, Nat.reduceEqDiff, Int.reduceAdd, Int.reduceSub, Int.reduceMul, Int.reduceNeg, Int.reduceLT, Int.reduceLE, Int.reduceEq, Int.reduceNe, Int.reduceToNat, t_8_insert X])
    exact h1 (fun q => c3 q.2.2)
  rw [if_pos c3]
  by_cases c4 : V 1 0 = 20
  · simp (maxSteps := 4000000) only [blk_s, blk_z, a_const, a_iload, a_aload, a_istore, a_astore, a_iinc, a_add, a_sub, a_mul, a_div, a_rem, a_dup, a_dup2, a_goto, a_ifnull, a_tsw, a_gi, a_gr, a_pi, a_ald, a_sld, a_ast, a_aald, a_len, a_gst, a_copy, a_max, a_min, a_iret, a_zret, a_aret, a_ret, a_cv, a_cn, a_sv, a_sn, icmp_t, icmp_f, aif_t, aif_f, lget, lset, fget, rget, apop, isO, Kv, Kn, fitb0, cmp, swl, InR, up, cpy, ↓reduceIte, if_true, if_false, Nat.left_eq_add, Nat.add_eq_left, Nat.add_left_cancel_iff, Nat.reduceEqDiff, Nat.zero_le, true_and, and_true, true_or, or_true, not_true_eq_false, not_false_eq_true, false_and, and_false, false_implies, true_implies, forall_const, ne_eq, Decidable.not_not, List.length_cons, List.length_nil, reduceCtorEq, Int.toNat_zero, Int.toNat_one, Int.cast_ofNat_Int, Nat.reduceAdd, Nat.reduceSub, Nat.reduceMul, Nat.reduceLT, Nat.reduceLeDiff, Nat.reduceEqDiff, Int.reduceAdd, Int.reduceSub, Int.reduceMul, Int.reduceNeg, Int.reduceLT, Int.reduceLE, Int.reduceEq, Int.reduceNe, Int.reduceToNat, t_8_insert X, sxM hG, hd0, c4]
    repeat (simp only [icmp_b, aif_b, cmp]; simp (maxSteps := 4000000) only [blk_s, blk_z, a_const, a_iload, a_aload, a_istore, a_astore, a_iinc, a_add, a_sub, a_mul, a_div, a_rem, a_dup, a_dup2, a_goto, a_ifnull, a_tsw, a_gi, a_gr, a_pi, a_ald, a_sld, a_ast, a_aald, a_len, a_gst, a_copy, a_max, a_min, a_iret, a_zret, a_aret, a_ret, a_cv, a_cn, a_sv, a_sn, icmp_t, icmp_f, aif_t, aif_f, lget, lset, fget, rget, apop, isO, Kv, Kn, fitb0, cmp, swl, InR, up, cpy, ↓reduceIte, if_true, if_false, Nat.left_eq_add, Nat.add_eq_left, Nat.add_left_cancel_iff, Nat.reduceEqDiff, Nat.zero_le, true_and, and_true, true_or, or_true, not_true_eq_false, not_false_eq_true, false_and, and_false, false_implies, true_implies, forall_const, ne_eq, Decidable.not_not, List.length_cons, List.length_nil, reduceCtorEq, Int.toNat_zero, Int.toNat_one, Int.cast_ofNat_Int, Nat.reduceAdd, Nat.reduceSub, Nat.reduceMul, Nat.reduceLT, Nat.reduceLeDiff, Nat.reduceEqDiff, Int.reduceAdd, Int.reduceSub, Int.reduceMul, Int.reduceNeg, Int.reduceLT, Int.reduceLE, Int.reduceEq, Int.reduceNe, Int.reduceToNat, t_8_insert X, sxM hG, hd0, c4])
    exact h2 ⟨c1, c2, c3⟩ (by omega)
  simp (maxSteps := 4000000) only [blk_s, blk_z, a_const, a_iload, a_aload, a_istore, a_astore, a_iinc, a_add, a_sub, a_mul, a_div, a_rem, a_dup, a_dup2, a_goto, a_ifnull, a_tsw, a_gi, a_gr, a_pi, a_ald, a_sld, a_ast, a_aald, a_len, a_gst, a_copy, a_max, a_min, a_iret, a_zret, a_aret, a_ret, a_cv, a_cn, a_sv, a_sn, icmp_t, icmp_f, aif_t, aif_f, lget, lset, fget, rget, apop, isO, Kv, Kn, fitb0, cmp, swl, InR, up, cpy, ↓reduceIte, if_true, if_false, Nat.left_eq_add, Nat.add_eq_left, Nat.add_left_cancel_iff, Nat.reduceEqDiff, Nat.zero_le, true_and, and_true, true_or, or_true, not_true_eq_false, not_false_eq_true, false_and, and_false, false_implies, true_implies, forall_const, ne_eq, Decidable.not_not, List.length_cons, List.length_nil, reduceCtorEq, Int.toNat_zero, Int.toNat_one, Int.cast_ofNat_Int, Nat.reduceAdd, Nat.reduceSub, Nat.reduceMul, Nat.reduceLT, Nat.reduceLeDiff, Nat.reduceEqDiff, Int.reduceAdd, Int.reduceSub, Int.reduceMul, Int.reduceNeg, Int.reduceLT, Int.reduceLE, Int.reduceEq, Int.reduceNe, Int.reduceToNat, t_8_insert X, sxM hG, hd0, c4]
  repeat (simp only [icmp_b, aif_b, cmp]; simp (maxSteps := 4000000) only [blk_s, blk_z, a_const, a_iload, a_aload, a_istore, a_astore, a_iinc, a_add, a_sub, a_mul, a_div, a_rem, a_dup, a_dup2, a_goto, a_ifnull, a_tsw, a_gi, a_gr, a_pi, a_ald, a_sld, a_ast, a_aald, a_len, a_gst, a_copy, a_max, a_min, a_iret, a_zret, a_aret, a_ret, a_cv, a_cn, a_sv, a_sn, icmp_t, icmp_f, aif_t, aif_f, lget, lset, fget, rget, apop, isO, Kv, Kn, fitb0, cmp, swl, InR, up, cpy, ↓reduceIte, if_true, if_false, Nat.left_eq_add, Nat.add_eq_left, Nat.add_left_cancel_iff, Nat.reduceEqDiff, Nat.zero_le, true_and, and_true, true_or, or_true, not_true_eq_false, not_false_eq_true, false_and, and_false, false_implies, true_implies, forall_const, ne_eq, Decidable.not_not, List.length_cons, List.length_nil, reduceCtorEq, Int.toNat_zero, Int.toNat_one, Int.cast_ofNat_Int, Nat.reduceAdd, Nat.reduceSub, Nat.reduceMul, Nat.reduceLT, Nat.reduceLeDiff, Nat.reduceEqDiff, Int.reduceAdd, Int.reduceSub, Int.reduceMul, Int.reduceNeg, Int.reduceLT, Int.reduceLE, Int.reduceEq, Int.reduceNe, Int.reduceToNat, t_8_insert X, sxM hG, hd0, c4])
  repeat' (first | assumption | with_reducible apply And.intro | with_reducible intro _)
  all_goals (try omega)
  refine mm_records hG hm (fun σ1 r1 => ?_)
  have d1 := rec_d r1
  have hb := hM.2.2.2.2
  obtain ⟨c, hc⟩ : ∃ c, V 1 0 = c := ⟨_, rfl⟩
  rw [hc] at hd0 c1 c4 hn
  have hd1 : σ1 180 0 = c := by rw [d1, hd0]
  obtain ⟨s1, S1⟩ : ∃ s, s = shD σ1 1 a c := ⟨_, rfl⟩
  obtain ⟨s2, S2⟩ : ∃ s, s = shD s1 21 a c := ⟨_, rfl⟩
  obtain ⟨s3, S3⟩ : ∃ s, s = shD s2 41 a c := ⟨_, rfl⟩
  obtain ⟨s4, S4⟩ : ∃ s, s = shD s3 61 a c := ⟨_, rfl⟩
  have f1 : ∀ i, s1 180 i = if 1 + a < i ∧ i ≤ 1 + c then σ1 180 (i - 1) else σ1 180 i := fun i => by rw [S1]; simp [shD]
  have f2 : ∀ i, s2 180 i = if 21 + a < i ∧ i ≤ 21 + c then s1 180 (i - 1) else s1 180 i := fun i => by rw [S2]; simp [shD]
  have f3 : ∀ i, s3 180 i = if 41 + a < i ∧ i ≤ 41 + c then s2 180 (i - 1) else s2 180 i := fun i => by rw [S3]; simp [shD]
  have f4 : ∀ i, s4 180 i = if 61 + a < i ∧ i ≤ 61 + c then s3 180 (i - 1) else s3 180 i := fun i => by rw [S4]; simp [shD]
  have o1 : ∀ b, b ≠ 180 → s1 b = σ1 b := fun b hb => by rw [S1]; funext i; simp [shD, hb]
  have o2 : ∀ b, b ≠ 180 → s2 b = σ1 b := fun b hb => by rw [S2, ← o1 b hb]; funext i; simp [shD, hb]
  have o3 : ∀ b, b ≠ 180 → s3 b = σ1 b := fun b hb => by rw [S3, ← o2 b hb]; funext i; simp [shD, hb]
  have o4 : ∀ b, b ≠ 180 → s4 b = σ1 b := fun b hb => by rw [S4, ← o3 b hb]; funext i; simp [shD, hb]
  have z1 : s1 180 0 = c := by rw [f1, if_neg (by omega), hd1]
  have z2 : s2 180 0 = c := by rw [f2, if_neg (by omega), z1]
  have z3 : s3 180 0 = c := by rw [f3, if_neg (by omega), z2]
  have z4 : s4 180 0 = c := by rw [f4, if_neg (by omega), z3]
  obtain ⟨s5, S5⟩ : ∃ s, s = up (up (up (up s4 180 (1 + a) l) 180 (21 + a) r) 180 (41 + a) 0) 180 (61 + a) 0 := ⟨_, rfl⟩
  have f5 : ∀ i, s5 180 i = if i = 61 + a then 0 else if i = 41 + a then 0 else if i = 21 + a then r else if i = 1 + a then l else s4 180 i := fun i => by rw [S5]; simp [up]
  have o5 : ∀ b, b ≠ 180 → s5 b = σ1 b := fun b hb => by rw [S5, up_other hb, up_other hb, up_other hb, up_other hb]; exact o4 b hb
  have b5 : ∀ j, 0 ≤ j → j < 329 → 0 ≤ s5 180 j ∧ s5 180 j ≤ 100 := by
    intro j j0 j1
    have t1 : ∀ j, 0 ≤ j → j < 329 → 0 ≤ s1 180 j ∧ s1 180 j ≤ 100 := fun j j0 j1 => by rw [f1, d1]; split <;> exact hb _ (by omega) (by omega)
    have t2 : ∀ j, 0 ≤ j → j < 329 → 0 ≤ s2 180 j ∧ s2 180 j ≤ 100 := fun j j0 j1 => by rw [f2]; split <;> exact t1 _ (by omega) (by omega)
    have t3 : ∀ j, 0 ≤ j → j < 329 → 0 ≤ s3 180 j ∧ s3 180 j ≤ 100 := fun j j0 j1 => by rw [f3]; split <;> exact t2 _ (by omega) (by omega)
    have t4 : ∀ j, 0 ≤ j → j < 329 → 0 ≤ s4 180 j ∧ s4 180 j ≤ 100 := fun j j0 j1 => by rw [f4]; split <;> exact t3 _ (by omega) (by omega)
    have := t4 j j0 j1
    rw [f5]
    split
    · omega
    · split
      · omega
      · split
        · omega
        · split <;> omega
  obtain ⟨s6, S6⟩ : ∃ s, s = up (inD s5 a 80) 180 0 (c + 1) := ⟨_, rfl⟩
  have high : ∀ i, 81 ≤ i → i < 329 → s5 180 i = σ 180 i := fun i i0 i1 => by
    rw [f5, if_neg (by omega), if_neg (by omega), if_neg (by omega), if_neg (by omega), f4, if_neg (by omega), f3, if_neg (by omega), f2, if_neg (by omega), f1, if_neg (by omega), d1]
  have fin : Q (some (.inl (c + 1))) G s6 := by
    rw [← hc]
    refine h3 ⟨by omega, c2, c3⟩ (by omega) s6 (chm_of r1 (fun b hb => by rw [S6, up_other hb]; funext i; simp [inD, hb, o5 b hb])) (fun V' hV' => ?_)
    have g6 : ∀ i, i ≠ 0 → (i < 89 ∨ 169 ≤ i) → s6 180 i = s5 180 i := fun i i0 i1 => by
      rw [S6]
      simp only [up, i0, and_false, if_false]
      unfold inD
      rw [if_neg (by omega)]
    obtain ⟨v1, v2, v7, v12, v17⟩ := hV'
    have hbd : ∀ j, 0 ≤ j → j < 329 → 0 ≤ s6 180 j ∧ s6 180 j ≤ 100 := by
      intro j j0 j1
      have := b5 j j0 j1
      rw [S6]
      simp only [up, true_and]
      split
      · omega
      · unfold inD
        split
        · rename_i q
          have hq := q.1.2
          -- a note's pair is small
          rw [high j (by omega) (by omega)] at *
          have hj : ∃ s k, (s = 0 ∨ s = 1) ∧ 0 ≤ k ∧ k < 40 ∧ j = 89 + 40 * s + k := ⟨(j - 89) / 40, (j - 89) % 40, by omega, by omega, by omega, by omega⟩
          obtain ⟨s, k, hs, k0, k1, rfl⟩ := hj
          obtain ⟨w1, w2⟩ := hM.2.2.2.1 s hs
          have q2 := q.2.1
          rw [show (89 + 40 * s + k - 89) % 40 = k by omega, show (89 + 40 * s + k - 89) / 40 = s by omega, high (87 + s) (by omega) (by omega), w1] at q2
          have := (nbO hV hs).2.1 k k0 q2
          rw [(w2 k k0 q2).1]
          omega
        · exact this
    refine ⟨by rw [S6, v1, hc]; simp [up], fun ρ p ρ0 ρ1 p0 p1 => ?_, ⟨?_, fun j j0 j1 => ?_⟩, fun s hs => ?_, hbd⟩
    · rw [v1, hc] at p1
      obtain ⟨x1, x2, x3, x4⟩ := v2 p p0 (by omega)
      have mm := fun q q0 q1 => hM.2.1 ρ q ρ0 ρ1 q0 q1
      rw [hc] at mm
      rw [g6 _ (by omega) (by omega), f5]
      have old : p < a → σ1 180 (1 + 20 * ρ + p) = V (3 + ρ.toNat) p := fun q => by rw [d1]; exact mm p p0 (by omega)
      have prv : a < p → σ1 180 (1 + 20 * ρ + p - 1) = V (3 + ρ.toNat) (p - 1) := fun q => by rw [d1, show 1 + 20 * ρ + p - 1 = 1 + 20 * ρ + (p - 1) by omega]; exact mm (p - 1) (by omega) (by omega)
      have hρ : ρ = 0 ∨ ρ = 1 ∨ ρ = 2 ∨ ρ = 3 := by omega
      rcases hρ with rfl | rfl | rfl | rfl
      · rw [show 3 + (0 : Int).toNat = 3 from rfl] at *
        rw [x1]
        rcases Int.lt_trichotomy p a with q | q | q
        · rw [if_neg (by omega), if_neg (by omega), if_neg (by omega), if_neg (by omega), f4, if_neg (by omega), f3, if_neg (by omega), f2, if_neg (by omega), f1, if_neg (by omega), old q, if_pos q]
        · subst q
          grind
        · have prv := prv q
          have e4 : s4 180 (1 + 20 * 0 + p) = σ1 180 (1 + 20 * 0 + p - 1) := by grind
          rw [if_neg (by omega), if_neg (by omega), if_neg (by omega), if_neg (by omega), e4, prv, if_neg (by omega), if_neg (by omega)]
      · rw [show 3 + (1 : Int).toNat = 4 from rfl] at *
        rw [x2]
        rcases Int.lt_trichotomy p a with q | q | q
        · rw [if_neg (by omega), if_neg (by omega), if_neg (by omega), if_neg (by omega), f4, if_neg (by omega), f3, if_neg (by omega), f2, if_neg (by omega), f1, if_neg (by omega), old q, if_pos q]
        · subst q
          grind
        · have prv := prv q
          have e4 : s4 180 (1 + 20 * 1 + p) = σ1 180 (1 + 20 * 1 + p - 1) := by grind
          rw [if_neg (by omega), if_neg (by omega), if_neg (by omega), if_neg (by omega), e4, prv, if_neg (by omega), if_neg (by omega)]
      · rw [show 3 + (2 : Int).toNat = 5 from rfl] at *
        rw [x3]
        rcases Int.lt_trichotomy p a with q | q | q
        · rw [if_neg (by omega), if_neg (by omega), if_neg (by omega), if_neg (by omega), f4, if_neg (by omega), f3, if_neg (by omega), f2, if_neg (by omega), f1, if_neg (by omega), old q, if_pos q]
        · subst q
          grind
        · have prv := prv q
          have e4 : s4 180 (1 + 20 * 2 + p) = σ1 180 (1 + 20 * 2 + p - 1) := by grind
          rw [if_neg (by omega), if_neg (by omega), if_neg (by omega), if_neg (by omega), e4, prv, if_neg (by omega), if_neg (by omega)]
      · rw [show 3 + (3 : Int).toNat = 6 from rfl] at *
        rw [x4]
        rcases Int.lt_trichotomy p a with q | q | q
        · rw [if_neg (by omega), if_neg (by omega), if_neg (by omega), if_neg (by omega), f4, if_neg (by omega), f3, if_neg (by omega), f2, if_neg (by omega), f1, if_neg (by omega), old q, if_pos q]
        · subst q
          grind
        · have prv := prv q
          have e4 : s4 180 (1 + 20 * 3 + p) = σ1 180 (1 + 20 * 3 + p - 1) := by grind
          rw [if_neg (by omega), if_neg (by omega), if_neg (by omega), if_neg (by omega), e4, prv, if_neg (by omega), if_neg (by omega)]
    · rw [g6 81 (by omega) (by omega), high 81 (by omega) (by omega), hM.2.2.1.1, v17 0 (by omega) (by omega)]
    · rw [g6 (81 + j) (by omega) (by omega), high (81 + j) (by omega) (by omega), hM.2.2.1.2 j j0 j1, v17 j (by omega) (by omega)]
    · have hN : inN V V' (nbS s) a := by
        rcases hs with rfl | rfl
        · exact v7
        · exact v12
      obtain ⟨n0, n1⟩ := hN
      obtain ⟨w1, w2⟩ := hM.2.2.2.1 s hs
      have ho := (nbO hV hs).1.1
      rw [n0]
      refine ⟨by rw [g6 (87 + s) (by omega) (by omega), high (87 + s) (by omega) (by omega), w1], fun k k0 k1 => ?_⟩
      obtain ⟨t1, t2, t3⟩ := w2 k k0 k1
      obtain ⟨y1, y2, y3⟩ := n1 k k0 k1
      refine ⟨?_, by rw [g6 _ (by omega) (by omega), high _ (by omega) (by omega), t2, y2], by rw [g6 _ (by omega) (by omega), high _ (by omega) (by omega), t3, y3]⟩
      rw [S6]
      simp only [up, true_and]
      rw [if_neg (by omega), y1]
      unfold inD
      rw [show 89 + 40 * s + k - 89 = 40 * s + k by omega, show (40 * s + k) % 40 = k by omega, show (40 * s + k) / 40 = s by omega, high (87 + s) (by omega) (by omega), high (89 + 40 * s + k) (by omega) (by omega), w1, t1]
      by_cases q : a ≤ V (nbS s + 2) k
      · rw [if_pos ⟨by omega, k1, q⟩, if_pos q]
      · rw [if_neg (fun q2 => q q2.2.2), if_neg q]
  have l6 : WPc X M_8_insert Q 163 [some (.inr 179), some (.inl a), some (.inl l), some (.inl r), some (.inl 0), some (.inl a)] [] (G, 0, 0) s5 := by
    have e0 : inD s5 a 0 = s5 := by
      funext b i
      unfold inD
      rw [if_neg (by omega)]
    have lp := lp_inD (X := X) (Q := Q) (σ := s5) (a := a) (l := l) (r := r) (z := a) hG b5 ?_ 80 0 (by omega) (by omega) (by omega)
    · rw [e0] at lp
      exact lp
    · have e1 : inD s5 a 80 180 0 = c := by
        unfold inD
        rw [if_neg (by omega), f5, if_neg (by omega), if_neg (by omega), if_neg (by omega), if_neg (by omega), z4]
      rw [S6] at fin
      refine blk_at (tok_8_insert X) 1000 rfl ?_
      simp (maxSteps := 4000000) only [blk_s, blk_z, a_const, a_iload, a_aload, a_istore, a_astore, a_iinc, a_add, a_sub, a_mul, a_div, a_rem, a_dup, a_dup2, a_goto, a_ifnull, a_tsw, a_gi, a_gr, a_pi, a_ald, a_sld, a_ast, a_aald, a_len, a_gst, a_copy, a_max, a_min, a_iret, a_zret, a_aret, a_ret, a_cv, a_cn, a_sv, a_sn, icmp_t, icmp_f, aif_t, aif_f, lget, lset, fget, rget, apop, isO, Kv, Kn, fitb0, cmp, swl, InR, up, cpy, ↓reduceIte, if_true, if_false, Nat.left_eq_add, Nat.add_eq_left, Nat.add_left_cancel_iff, Nat.reduceEqDiff, Nat.zero_le, true_and, and_true, true_or, or_true, not_true_eq_false, not_false_eq_true, false_and, and_false, false_implies, true_implies, forall_const, ne_eq, Decidable.not_not, List.length_cons, List.length_nil, reduceCtorEq, Int.toNat_zero, Int.toNat_one, Int.cast_ofNat_Int, Nat.reduceAdd, Nat.reduceSub, Nat.reduceMul, Nat.reduceLT, Nat.reduceLeDiff, Nat.reduceEqDiff, Int.reduceAdd, Int.reduceSub, Int.reduceMul, Int.reduceNeg, Int.reduceLT, Int.reduceLE, Int.reduceEq, Int.reduceNe, Int.reduceToNat, t_8_insert X, sxM hG, e1]
      repeat (simp only [icmp_b, aif_b, cmp]; simp (maxSteps := 4000000) only [blk_s, blk_z, a_const, a_iload, a_aload, a_istore, a_astore, a_iinc, a_add, a_sub, a_mul, a_div, a_rem, a_dup, a_dup2, a_goto, a_ifnull, a_tsw, a_gi, a_gr, a_pi, a_ald, a_sld, a_ast, a_aald, a_len, a_gst, a_copy, a_max, a_min, a_iret, a_zret, a_aret, a_ret, a_cv, a_cn, a_sv, a_sn, icmp_t, icmp_f, aif_t, aif_f, lget, lset, fget, rget, apop, isO, Kv, Kn, fitb0, cmp, swl, InR, up, cpy, ↓reduceIte, if_true, if_false, Nat.left_eq_add, Nat.add_eq_left, Nat.add_left_cancel_iff, Nat.reduceEqDiff, Nat.zero_le, true_and, and_true, true_or, or_true, not_true_eq_false, not_false_eq_true, false_and, and_false, false_implies, true_implies, forall_const, ne_eq, Decidable.not_not, List.length_cons, List.length_nil, reduceCtorEq, Int.toNat_zero, Int.toNat_one, Int.cast_ofNat_Int, Nat.reduceAdd, Nat.reduceSub, Nat.reduceMul, Nat.reduceLT, Nat.reduceLeDiff, Nat.reduceEqDiff, Int.reduceAdd, Int.reduceSub, Int.reduceMul, Int.reduceNeg, Int.reduceLT, Int.reduceLE, Int.reduceEq, Int.reduceNe, Int.reduceToNat, t_8_insert X, sxM hG, e1])
      repeat' (first | assumption | with_reducible apply And.intro | with_reducible intro _)
      all_goals (try omega)
  have at0 : ∀ (s : Sto) (base : Int), shD s base c c = s := fun s base => by
    funext b i
    unfold shD
    rw [if_neg (by omega)]
  have e3 := lp_ins3 (X := X) (Q := Q) (σ := s3) (l := l) (r := r) hG (a := a) (c := c) (by omega) ?_ c.toNat c c1.2 (Int.le_refl _) (by omega)
  · rw [at0] at e3
    have e2 := lp_ins2 (X := X) (Q := Q) (σ := s2) (l := l) (r := r) hG (a := a) (c := c) (by omega) ?_ c.toNat c c1.2 (Int.le_refl _) (by omega)
    · rw [at0] at e2
      have e1 := lp_ins1 (X := X) (Q := Q) (σ := s1) (l := l) (r := r) hG (a := a) (c := c) (by omega) ?_ c.toNat c c1.2 (Int.le_refl _) (by omega)
      · rw [at0] at e1
        have e0 := lp_ins0 (X := X) (Q := Q) (σ := σ1) (l := l) (r := r) hG (a := a) (c := c) (by omega) ?_ c.toNat c c1.2 (Int.le_refl _) (by omega)
        · rw [at0] at e0
          simp (maxSteps := 4000000) only [blk_s, blk_z, a_const, a_iload, a_aload, a_istore, a_astore, a_iinc, a_add, a_sub, a_mul, a_div, a_rem, a_dup, a_dup2, a_goto, a_ifnull, a_tsw, a_gi, a_gr, a_pi, a_ald, a_sld, a_ast, a_aald, a_len, a_gst, a_copy, a_max, a_min, a_iret, a_zret, a_aret, a_ret, a_cv, a_cn, a_sv, a_sn, icmp_t, icmp_f, aif_t, aif_f, lget, lset, fget, rget, apop, isO, Kv, Kn, fitb0, cmp, swl, InR, up, cpy, ↓reduceIte, if_true, if_false, Nat.left_eq_add, Nat.add_eq_left, Nat.add_left_cancel_iff, Nat.reduceEqDiff, Nat.zero_le, true_and, and_true, true_or, or_true, not_true_eq_false, not_false_eq_true, false_and, and_false, false_implies, true_implies, forall_const, ne_eq, Decidable.not_not, List.length_cons, List.length_nil, reduceCtorEq, Int.toNat_zero, Int.toNat_one, Int.cast_ofNat_Int, Nat.reduceAdd, Nat.reduceSub, Nat.reduceMul, Nat.reduceLT, Nat.reduceLeDiff, Nat.reduceEqDiff, Int.reduceAdd, Int.reduceSub, Int.reduceMul, Int.reduceNeg, Int.reduceLT, Int.reduceLE, Int.reduceEq, Int.reduceNe, Int.reduceToNat, t_8_insert X, sxM hG, hd1]
          repeat (simp only [icmp_b, aif_b, cmp]; simp (maxSteps := 4000000) only [blk_s, blk_z, a_const, a_iload, a_aload, a_istore, a_astore, a_iinc, a_add, a_sub, a_mul, a_div, a_rem, a_dup, a_dup2, a_goto, a_ifnull, a_tsw, a_gi, a_gr, a_pi, a_ald, a_sld, a_ast, a_aald, a_len, a_gst, a_copy, a_max, a_min, a_iret, a_zret, a_aret, a_ret, a_cv, a_cn, a_sv, a_sn, icmp_t, icmp_f, aif_t, aif_f, lget, lset, fget, rget, apop, isO, Kv, Kn, fitb0, cmp, swl, InR, up, cpy, ↓reduceIte, if_true, if_false, Nat.left_eq_add, Nat.add_eq_left, Nat.add_left_cancel_iff, Nat.reduceEqDiff, Nat.zero_le, true_and, and_true, true_or, or_true, not_true_eq_false, not_false_eq_true, false_and, and_false, false_implies, true_implies, forall_const, ne_eq, Decidable.not_not, List.length_cons, List.length_nil, reduceCtorEq, Int.toNat_zero, Int.toNat_one, Int.cast_ofNat_Int, Nat.reduceAdd, Nat.reduceSub, Nat.reduceMul, Nat.reduceLT, Nat.reduceLeDiff, Nat.reduceEqDiff, Int.reduceAdd, Int.reduceSub, Int.reduceMul, Int.reduceNeg, Int.reduceLT, Int.reduceLE, Int.reduceEq, Int.reduceNe, Int.reduceToNat, t_8_insert X, sxM hG, hd1])
          repeat' (first | assumption | with_reducible apply And.intro | with_reducible intro _)
          all_goals (try omega)
        · rw [← S1]
          refine blk_at (tok_8_insert X) 1000 rfl ?_
          simp (maxSteps := 4000000) only [blk_s, blk_z, a_const, a_iload, a_aload, a_istore, a_astore, a_iinc, a_add, a_sub, a_mul, a_div, a_rem, a_dup, a_dup2, a_goto, a_ifnull, a_tsw, a_gi, a_gr, a_pi, a_ald, a_sld, a_ast, a_aald, a_len, a_gst, a_copy, a_max, a_min, a_iret, a_zret, a_aret, a_ret, a_cv, a_cn, a_sv, a_sn, icmp_t, icmp_f, aif_t, aif_f, lget, lset, fget, rget, apop, isO, Kv, Kn, fitb0, cmp, swl, InR, up, cpy, ↓reduceIte, if_true, if_false, Nat.left_eq_add, Nat.add_eq_left, Nat.add_left_cancel_iff, Nat.reduceEqDiff, Nat.zero_le, true_and, and_true, true_or, or_true, not_true_eq_false, not_false_eq_true, false_and, and_false, false_implies, true_implies, forall_const, ne_eq, Decidable.not_not, List.length_cons, List.length_nil, reduceCtorEq, Int.toNat_zero, Int.toNat_one, Int.cast_ofNat_Int, Nat.reduceAdd, Nat.reduceSub, Nat.reduceMul, Nat.reduceLT, Nat.reduceLeDiff, Nat.reduceEqDiff, Int.reduceAdd, Int.reduceSub, Int.reduceMul, Int.reduceNeg, Int.reduceLT, Int.reduceLE, Int.reduceEq, Int.reduceNe, Int.reduceToNat, t_8_insert X, sxM hG, z1, Int.le_refl]
          repeat (simp only [icmp_b, aif_b, cmp]; simp (maxSteps := 4000000) only [blk_s, blk_z, a_const, a_iload, a_aload, a_istore, a_astore, a_iinc, a_add, a_sub, a_mul, a_div, a_rem, a_dup, a_dup2, a_goto, a_ifnull, a_tsw, a_gi, a_gr, a_pi, a_ald, a_sld, a_ast, a_aald, a_len, a_gst, a_copy, a_max, a_min, a_iret, a_zret, a_aret, a_ret, a_cv, a_cn, a_sv, a_sn, icmp_t, icmp_f, aif_t, aif_f, lget, lset, fget, rget, apop, isO, Kv, Kn, fitb0, cmp, swl, InR, up, cpy, ↓reduceIte, if_true, if_false, Nat.left_eq_add, Nat.add_eq_left, Nat.add_left_cancel_iff, Nat.reduceEqDiff, Nat.zero_le, true_and, and_true, true_or, or_true, not_true_eq_false, not_false_eq_true, false_and, and_false, false_implies, true_implies, forall_const, ne_eq, Decidable.not_not, List.length_cons, List.length_nil, reduceCtorEq, Int.toNat_zero, Int.toNat_one, Int.cast_ofNat_Int, Nat.reduceAdd, Nat.reduceSub, Nat.reduceMul, Nat.reduceLT, Nat.reduceLeDiff, Nat.reduceEqDiff, Int.reduceAdd, Int.reduceSub, Int.reduceMul, Int.reduceNeg, Int.reduceLT, Int.reduceLE, Int.reduceEq, Int.reduceNe, Int.reduceToNat, t_8_insert X, sxM hG, z1, Int.le_refl])
          repeat' (first | assumption | with_reducible apply And.intro | with_reducible intro _)
          all_goals (try omega)
      · rw [← S2]
        refine blk_at (tok_8_insert X) 1000 rfl ?_
        simp (maxSteps := 4000000) only [blk_s, blk_z, a_const, a_iload, a_aload, a_istore, a_astore, a_iinc, a_add, a_sub, a_mul, a_div, a_rem, a_dup, a_dup2, a_goto, a_ifnull, a_tsw, a_gi, a_gr, a_pi, a_ald, a_sld, a_ast, a_aald, a_len, a_gst, a_copy, a_max, a_min, a_iret, a_zret, a_aret, a_ret, a_cv, a_cn, a_sv, a_sn, icmp_t, icmp_f, aif_t, aif_f, lget, lset, fget, rget, apop, isO, Kv, Kn, fitb0, cmp, swl, InR, up, cpy, ↓reduceIte, if_true, if_false, Nat.left_eq_add, Nat.add_eq_left, Nat.add_left_cancel_iff, Nat.reduceEqDiff, Nat.zero_le, true_and, and_true, true_or, or_true, not_true_eq_false, not_false_eq_true, false_and, and_false, false_implies, true_implies, forall_const, ne_eq, Decidable.not_not, List.length_cons, List.length_nil, reduceCtorEq, Int.toNat_zero, Int.toNat_one, Int.cast_ofNat_Int, Nat.reduceAdd, Nat.reduceSub, Nat.reduceMul, Nat.reduceLT, Nat.reduceLeDiff, Nat.reduceEqDiff, Int.reduceAdd, Int.reduceSub, Int.reduceMul, Int.reduceNeg, Int.reduceLT, Int.reduceLE, Int.reduceEq, Int.reduceNe, Int.reduceToNat, t_8_insert X, sxM hG, z2, Int.le_refl]
        repeat (simp only [icmp_b, aif_b, cmp]; simp (maxSteps := 4000000) only [blk_s, blk_z, a_const, a_iload, a_aload, a_istore, a_astore, a_iinc, a_add, a_sub, a_mul, a_div, a_rem, a_dup, a_dup2, a_goto, a_ifnull, a_tsw, a_gi, a_gr, a_pi, a_ald, a_sld, a_ast, a_aald, a_len, a_gst, a_copy, a_max, a_min, a_iret, a_zret, a_aret, a_ret, a_cv, a_cn, a_sv, a_sn, icmp_t, icmp_f, aif_t, aif_f, lget, lset, fget, rget, apop, isO, Kv, Kn, fitb0, cmp, swl, InR, up, cpy, ↓reduceIte, if_true, if_false, Nat.left_eq_add, Nat.add_eq_left, Nat.add_left_cancel_iff, Nat.reduceEqDiff, Nat.zero_le, true_and, and_true, true_or, or_true, not_true_eq_false, not_false_eq_true, false_and, and_false, false_implies, true_implies, forall_const, ne_eq, Decidable.not_not, List.length_cons, List.length_nil, reduceCtorEq, Int.toNat_zero, Int.toNat_one, Int.cast_ofNat_Int, Nat.reduceAdd, Nat.reduceSub, Nat.reduceMul, Nat.reduceLT, Nat.reduceLeDiff, Nat.reduceEqDiff, Int.reduceAdd, Int.reduceSub, Int.reduceMul, Int.reduceNeg, Int.reduceLT, Int.reduceLE, Int.reduceEq, Int.reduceNe, Int.reduceToNat, t_8_insert X, sxM hG, z2, Int.le_refl])
        repeat' (first | assumption | with_reducible apply And.intro | with_reducible intro _)
        all_goals (try omega)
    · rw [← S3]
      refine blk_at (tok_8_insert X) 1000 rfl ?_
      simp (maxSteps := 4000000) only [blk_s, blk_z, a_const, a_iload, a_aload, a_istore, a_astore, a_iinc, a_add, a_sub, a_mul, a_div, a_rem, a_dup, a_dup2, a_goto, a_ifnull, a_tsw, a_gi, a_gr, a_pi, a_ald, a_sld, a_ast, a_aald, a_len, a_gst, a_copy, a_max, a_min, a_iret, a_zret, a_aret, a_ret, a_cv, a_cn, a_sv, a_sn, icmp_t, icmp_f, aif_t, aif_f, lget, lset, fget, rget, apop, isO, Kv, Kn, fitb0, cmp, swl, InR, up, cpy, ↓reduceIte, if_true, if_false, Nat.left_eq_add, Nat.add_eq_left, Nat.add_left_cancel_iff, Nat.reduceEqDiff, Nat.zero_le, true_and, and_true, true_or, or_true, not_true_eq_false, not_false_eq_true, false_and, and_false, false_implies, true_implies, forall_const, ne_eq, Decidable.not_not, List.length_cons, List.length_nil, reduceCtorEq, Int.toNat_zero, Int.toNat_one, Int.cast_ofNat_Int, Nat.reduceAdd, Nat.reduceSub, Nat.reduceMul, Nat.reduceLT, Nat.reduceLeDiff, Nat.reduceEqDiff, Int.reduceAdd, Int.reduceSub, Int.reduceMul, Int.reduceNeg, Int.reduceLT, Int.reduceLE, Int.reduceEq, Int.reduceNe, Int.reduceToNat, t_8_insert X, sxM hG, z3, Int.le_refl]
      repeat (simp only [icmp_b, aif_b, cmp]; simp (maxSteps := 4000000) only [blk_s, blk_z, a_const, a_iload, a_aload, a_istore, a_astore, a_iinc, a_add, a_sub, a_mul, a_div, a_rem, a_dup, a_dup2, a_goto, a_ifnull, a_tsw, a_gi, a_gr, a_pi, a_ald, a_sld, a_ast, a_aald, a_len, a_gst, a_copy, a_max, a_min, a_iret, a_zret, a_aret, a_ret, a_cv, a_cn, a_sv, a_sn, icmp_t, icmp_f, aif_t, aif_f, lget, lset, fget, rget, apop, isO, Kv, Kn, fitb0, cmp, swl, InR, up, cpy, ↓reduceIte, if_true, if_false, Nat.left_eq_add, Nat.add_eq_left, Nat.add_left_cancel_iff, Nat.reduceEqDiff, Nat.zero_le, true_and, and_true, true_or, or_true, not_true_eq_false, not_false_eq_true, false_and, and_false, false_implies, true_implies, forall_const, ne_eq, Decidable.not_not, List.length_cons, List.length_nil, reduceCtorEq, Int.toNat_zero, Int.toNat_one, Int.cast_ofNat_Int, Nat.reduceAdd, Nat.reduceSub, Nat.reduceMul, Nat.reduceLT, Nat.reduceLeDiff, Nat.reduceEqDiff, Int.reduceAdd, Int.reduceSub, Int.reduceMul, Int.reduceNeg, Int.reduceLT, Int.reduceLE, Int.reduceEq, Int.reduceNe, Int.reduceToNat, t_8_insert X, sxM hG, z3, Int.le_refl])
      repeat' (first | assumption | with_reducible apply And.intro | with_reducible intro _)
      all_goals (try omega)
  · rw [← S4]
    rw [S5] at l6
    refine blk_at (tok_8_insert X) 1000 rfl ?_
    simp (maxSteps := 4000000) only [blk_s, blk_z, a_const, a_iload, a_aload, a_istore, a_astore, a_iinc, a_add, a_sub, a_mul, a_div, a_rem, a_dup, a_dup2, a_goto, a_ifnull, a_tsw, a_gi, a_gr, a_pi, a_ald, a_sld, a_ast, a_aald, a_len, a_gst, a_copy, a_max, a_min, a_iret, a_zret, a_aret, a_ret, a_cv, a_cn, a_sv, a_sn, icmp_t, icmp_f, aif_t, aif_f, lget, lset, fget, rget, apop, isO, Kv, Kn, fitb0, cmp, swl, InR, up, cpy, ↓reduceIte, if_true, if_false, Nat.left_eq_add, Nat.add_eq_left, Nat.add_left_cancel_iff, Nat.reduceEqDiff, Nat.zero_le, true_and, and_true, true_or, or_true, not_true_eq_false, not_false_eq_true, false_and, and_false, false_implies, true_implies, forall_const, ne_eq, Decidable.not_not, List.length_cons, List.length_nil, reduceCtorEq, Int.toNat_zero, Int.toNat_one, Int.cast_ofNat_Int, Nat.reduceAdd, Nat.reduceSub, Nat.reduceMul, Nat.reduceLT, Nat.reduceLeDiff, Nat.reduceEqDiff, Int.reduceAdd, Int.reduceSub, Int.reduceMul, Int.reduceNeg, Int.reduceLT, Int.reduceLE, Int.reduceEq, Int.reduceNe, Int.reduceToNat, t_8_insert X, sxM hG, Int.le_refl]
    repeat (simp only [icmp_b, aif_b, cmp]; simp (maxSteps := 4000000) only [blk_s, blk_z, a_const, a_iload, a_aload, a_istore, a_astore, a_iinc, a_add, a_sub, a_mul, a_div, a_rem, a_dup, a_dup2, a_goto, a_ifnull, a_tsw, a_gi, a_gr, a_pi, a_ald, a_sld, a_ast, a_aald, a_len, a_gst, a_copy, a_max, a_min, a_iret, a_zret, a_aret, a_ret, a_cv, a_cn, a_sv, a_sn, icmp_t, icmp_f, aif_t, aif_f, lget, lset, fget, rget, apop, isO, Kv, Kn, fitb0, cmp, swl, InR, up, cpy, ↓reduceIte, if_true, if_false, Nat.left_eq_add, Nat.add_eq_left, Nat.add_left_cancel_iff, Nat.reduceEqDiff, Nat.zero_le, true_and, and_true, true_or, or_true, not_true_eq_false, not_false_eq_true, false_and, and_false, false_implies, true_implies, forall_const, ne_eq, Decidable.not_not, List.length_cons, List.length_nil, reduceCtorEq, Int.toNat_zero, Int.toNat_one, Int.cast_ofNat_Int, Nat.reduceAdd, Nat.reduceSub, Nat.reduceMul, Nat.reduceLT, Nat.reduceLeDiff, Nat.reduceEqDiff, Int.reduceAdd, Int.reduceSub, Int.reduceMul, Int.reduceNeg, Int.reduceLT, Int.reduceLE, Int.reduceEq, Int.reduceNe, Int.reduceToNat, t_8_insert X, sxM hG, Int.le_refl])
    repeat' (first | assumption | with_reducible apply And.intro | with_reducible intro _)
    all_goals (try omega)
end
