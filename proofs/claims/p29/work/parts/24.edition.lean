theorem cpy_o {σ : Sto} {a b c : Nat} {sp dp n : Int} (h : c ≠ b) : cpy σ a b sp dp n c = σ c := by
  funext i
  simp [cpy, h]
/-! ===== editions: a view is base + 1 .. base + 17 ===== -/
def EdS (G : List Sh) (b : Nat) : Prop := shp (G, 0, 0) (b + 1) = some (.inl (1, [none, some (some (b + 2)), some (some (b + 7)), some (some (b + 12)), some (some (b + 17))])) ∧ shp (G, 0, 0) (b + 2) = some (.inr (.inr (false, [some (b + 3), some (b + 4), some (b + 5), some (b + 6)]))) ∧
  shp (G, 0, 0) (b + 3) = some (.inr (.inl (false, 20))) ∧ shp (G, 0, 0) (b + 4) = some (.inr (.inl (false, 20))) ∧ shp (G, 0, 0) (b + 5) = some (.inr (.inl (false, 20))) ∧ shp (G, 0, 0) (b + 6) = some (.inr (.inl (false, 20))) ∧ NtS G (b + 7) ∧ NtS G (b + 12) ∧ shp (G, 0, 0) (b + 17) = some (.inr (.inl (false, 6))) ∧ b < 200
theorem edS {G : List Sh} (h : CSh G) {b : Nat} (hb : b = 0 ∨ b = 19 ∨ b = 36 ∨ b = 53 ∨ b = 70 ∨ b = 87 ∨ b = 104) : EdS G b := by
  rcases hb with rfl | rfl | rfl | rfl | rfl | rfl | rfl <;>
  exact ⟨csh h (by decide) rfl, csh h (by decide) rfl, csh h (by decide) rfl, csh h (by decide) rfl, csh h (by decide) rfl, csh h (by decide) rfl,
    ⟨csh h (by decide) rfl, csh h (by decide) rfl, csh h (by decide) rfl, csh h (by decide) rfl, csh h (by decide) rfl, by decide⟩,
    ⟨csh h (by decide) rfl, csh h (by decide) rfl, csh h (by decide) rfl, csh h (by decide) rfl, csh h (by decide) rfl, by decide⟩, csh h (by decide) rfl, by decide⟩
section
variable {X : XT} {G : List Sh} {σ : Sto} {Q : QT}
/-- rows t + 1 .. t + n hold what rows f + 1 .. f + n held -/
def tcR (σ σ' : Sto) (f t n : Nat) (len : Int) : Prop := (∀ a, (a < t + 1 ∨ t + n < a) → σ' a = σ a) ∧ ∀ i j, 1 ≤ i → i ≤ n → 0 ≤ j → j < len → σ' (t + i) j = σ (f + i) j
set_option maxRecDepth 40000 in
theorem ms_copyTable4 {f t : Nat} (hf : shp (G, 0, 0) f = some (.inr (.inr (false, [some (f + 1), some (f + 2), some (f + 3), some (f + 4)])))) (ht : shp (G, 0, 0) t = some (.inr (.inr (false, [some (t + 1), some (t + 2), some (t + 3), some (t + 4)]))))
    (f1 : shp (G, 0, 0) (f + 1) = some (.inr (.inl (false, 20)))) (f2 : shp (G, 0, 0) (f + 2) = some (.inr (.inl (false, 20)))) (f3 : shp (G, 0, 0) (f + 3) = some (.inr (.inl (false, 20)))) (f4 : shp (G, 0, 0) (f + 4) = some (.inr (.inl (false, 20))))
    (t1 : shp (G, 0, 0) (t + 1) = some (.inr (.inl (false, 20)))) (t2 : shp (G, 0, 0) (t + 2) = some (.inr (.inl (false, 20)))) (t3 : shp (G, 0, 0) (t + 3) = some (.inr (.inl (false, 20)))) (t4 : shp (G, 0, 0) (t + 4) = some (.inr (.inl (false, 20))))
    (hd : f + 4 < t ∨ t + 4 < f) (hb : f < 2000 ∧ t < 2000) (h : ∀ σ', tcR σ σ' f t 4 20 → Q none G σ') : MS X M_7_copyTable [.inr f, .inr t] G σ Q := by
  refine MS_in [some (.inr f), some (.inr t), none] mok_7_copyTable (Nat.le_of_ble_eq_true rfl) rfl ?_
  refine blk_wp (tok_7_copyTable X) 1000 _ _ _ _ _ ?_
  simp only [blk_s, a_const, a_iload, a_aload, a_istore, a_astore, a_iinc, a_add, a_sub, a_mul, a_div, a_rem, a_dup, a_dup2, a_goto, a_icmp, a_if, a_ifnull, a_tsw, a_gi, a_gr, a_pi, a_ald, a_sld, a_ast, a_aald, a_len, a_gst, a_copy, a_max, a_min, a_iret, a_zret, a_aret, a_ret, a_cv, a_cn, a_sv, a_sn, lget, lset, fget, rget, apop, isO, Kv, Kn, fitb0, cmp, swl, InR, up, cpy, ↓reduceIte, if_true, if_false, Nat.left_eq_add, Nat.add_eq_left, Nat.add_left_cancel_iff, Nat.reduceEqDiff, Nat.zero_le, true_and, and_true, true_or, or_true, not_true_eq_false, not_false_eq_true, false_and, and_false, false_implies, true_implies, forall_const, ne_eq, Decidable.not_not, List.length_cons, List.length_nil, reduceCtorEq, Int.toNat_zero, Int.toNat_one, Int.cast_ofNat_Int, Nat.reduceAdd, Nat.reduceSub, Nat.reduceMul, Nat.reduceLT, Nat.reduceLeDiff, Nat.reduceEqDiff, Int.reduceAdd, Int.reduceSub, Int.reduceMul, Int.reduceNeg, Int.reduceLT, Int.reduceLE, Int.reduceEq, Int.reduceNe, Int.reduceToNat, t_7_copyTable X, hf, ht, f1, f2, f3, f4, t1, t2, t3, t4, Int.min_self]
  repeat' (first | assumption | with_reducible apply And.intro | with_reducible intro _)
  all_goals (try omega)
  apply h
  refine ⟨fun a ha => ?_, fun i j i1 i2 j1 j2 => ?_⟩
  · funext k
    grind [cpy]
  · rcases (show i = 1 ∨ i = 2 ∨ i = 3 ∨ i = 4 by omega) with rfl | rfl | rfl | rfl <;> grind [cpy]
set_option maxRecDepth 40000 in
theorem ms_copyTable3 {f t : Nat} (hf : shp (G, 0, 0) f = some (.inr (.inr (false, [some (f + 1), some (f + 2), some (f + 3)])))) (ht : shp (G, 0, 0) t = some (.inr (.inr (false, [some (t + 1), some (t + 2), some (t + 3)]))))
    (f1 : shp (G, 0, 0) (f + 1) = some (.inr (.inl (false, 40)))) (f2 : shp (G, 0, 0) (f + 2) = some (.inr (.inl (false, 40)))) (f3 : shp (G, 0, 0) (f + 3) = some (.inr (.inl (false, 40))))
    (t1 : shp (G, 0, 0) (t + 1) = some (.inr (.inl (false, 40)))) (t2 : shp (G, 0, 0) (t + 2) = some (.inr (.inl (false, 40)))) (t3 : shp (G, 0, 0) (t + 3) = some (.inr (.inl (false, 40))))
    (hd : f + 3 < t ∨ t + 3 < f) (hb : f < 2000 ∧ t < 2000) (h : ∀ σ', tcR σ σ' f t 3 40 → Q none G σ') : MS X M_7_copyTable [.inr f, .inr t] G σ Q := by
  refine MS_in [some (.inr f), some (.inr t), none] mok_7_copyTable (Nat.le_of_ble_eq_true rfl) rfl ?_
  refine blk_wp (tok_7_copyTable X) 1000 _ _ _ _ _ ?_
  simp only [blk_s, a_const, a_iload, a_aload, a_istore, a_astore, a_iinc, a_add, a_sub, a_mul, a_div, a_rem, a_dup, a_dup2, a_goto, a_icmp, a_if, a_ifnull, a_tsw, a_gi, a_gr, a_pi, a_ald, a_sld, a_ast, a_aald, a_len, a_gst, a_copy, a_max, a_min, a_iret, a_zret, a_aret, a_ret, a_cv, a_cn, a_sv, a_sn, lget, lset, fget, rget, apop, isO, Kv, Kn, fitb0, cmp, swl, InR, up, cpy, ↓reduceIte, if_true, if_false, Nat.left_eq_add, Nat.add_eq_left, Nat.add_left_cancel_iff, Nat.reduceEqDiff, Nat.zero_le, true_and, and_true, true_or, or_true, not_true_eq_false, not_false_eq_true, false_and, and_false, false_implies, true_implies, forall_const, ne_eq, Decidable.not_not, List.length_cons, List.length_nil, reduceCtorEq, Int.toNat_zero, Int.toNat_one, Int.cast_ofNat_Int, Nat.reduceAdd, Nat.reduceSub, Nat.reduceMul, Nat.reduceLT, Nat.reduceLeDiff, Nat.reduceEqDiff, Int.reduceAdd, Int.reduceSub, Int.reduceMul, Int.reduceNeg, Int.reduceLT, Int.reduceLE, Int.reduceEq, Int.reduceNe, Int.reduceToNat, t_7_copyTable X, hf, ht, f1, f2, f3, t1, t2, t3, Int.min_self]
  repeat' (first | assumption | with_reducible apply And.intro | with_reducible intro _)
  all_goals (try omega)
  apply h
  refine ⟨fun a ha => ?_, fun i j i1 i2 j1 j2 => ?_⟩
  · funext k
    grind [cpy]
  · rcases (show i = 1 ∨ i = 2 ∨ i = 3 by omega) with rfl | rfl | rfl <;> grind [cpy]
/-- notes at t are those at f -/
def ncR (σ σ' : Sto) (f t : Nat) : Prop := (∀ a, (a < t ∨ t + 4 < a) → σ' a = σ a) ∧ σ' t 0 = σ f 0 ∧ ∀ i j, 2 ≤ i → i ≤ 4 → 0 ≤ j → j < 40 → σ' (t + i) j = σ (f + i) j
set_option maxRecDepth 40000 in
theorem ms_copyN {f t : Nat} (hf : NtS G f) (ht : NtS G t) (hd : f + 4 < t ∨ t + 4 < f) (h : ∀ σ', ncR σ σ' f t → Q none G σ') : MS X M_4_copyFrom [.inr t, .inr f] G σ Q := by
  obtain ⟨f0, f1, f2, f3, f4, fb⟩ := id hf
  obtain ⟨t0, t1, t2, t3, t4, tb⟩ := id ht
  refine MS_in [some (.inr t), some (.inr f)] mok_4_copyFrom (Nat.le_of_ble_eq_true rfl) rfl ?_
  refine blk_wp (tok_4_copyFrom X) 1000 _ _ _ _ _ ?_
  simp only [blk_s, a_const, a_iload, a_aload, a_istore, a_astore, a_iinc, a_add, a_sub, a_mul, a_div, a_rem, a_dup, a_dup2, a_goto, a_icmp, a_if, a_ifnull, a_tsw, a_gi, a_gr, a_pi, a_ald, a_sld, a_ast, a_aald, a_len, a_gst, a_copy, a_max, a_min, a_iret, a_zret, a_aret, a_ret, a_cv, a_cn, a_sv, a_sn, lget, lset, fget, rget, apop, isO, Kv, Kn, fitb0, cmp, swl, InR, up, cpy, ↓reduceIte, if_true, if_false, Nat.left_eq_add, Nat.add_eq_left, Nat.add_left_cancel_iff, Nat.reduceEqDiff, Nat.zero_le, true_and, and_true, true_or, or_true, not_true_eq_false, not_false_eq_true, false_and, and_false, false_implies, true_implies, forall_const, ne_eq, Decidable.not_not, List.length_cons, List.length_nil, reduceCtorEq, Int.toNat_zero, Int.toNat_one, Int.cast_ofNat_Int, Nat.reduceAdd, Nat.reduceSub, Nat.reduceMul, Nat.reduceLT, Nat.reduceLeDiff, Nat.reduceEqDiff, Int.reduceAdd, Int.reduceSub, Int.reduceMul, Int.reduceNeg, Int.reduceLT, Int.reduceLE, Int.reduceEq, Int.reduceNe, Int.reduceToNat, t_4_copyFrom X, f0, t0]
  repeat' (first | assumption | with_reducible apply And.intro | with_reducible intro _)
  all_goals (try omega)
  refine ms_copyTable3 (f := f + 1) (t := t + 1) f1 t1 f2 f3 f4 t2 t3 t4 (by omega) (by omega) (fun σ' h' => ?_)
  simp only [blk_s, a_const, a_iload, a_aload, a_istore, a_astore, a_iinc, a_add, a_sub, a_mul, a_div, a_rem, a_dup, a_dup2, a_goto, a_icmp, a_if, a_ifnull, a_tsw, a_gi, a_gr, a_pi, a_ald, a_sld, a_ast, a_aald, a_len, a_gst, a_copy, a_max, a_min, a_iret, a_zret, a_aret, a_ret, a_cv, a_cn, a_sv, a_sn, lget, lset, fget, rget, apop, isO, Kv, Kn, fitb0, cmp, swl, InR, up, cpy, ↓reduceIte, if_true, if_false, Nat.left_eq_add, Nat.add_eq_left, Nat.add_left_cancel_iff, Nat.reduceEqDiff, Nat.zero_le, true_and, and_true, true_or, or_true, not_true_eq_false, not_false_eq_true, false_and, and_false, false_implies, true_implies, forall_const, ne_eq, Decidable.not_not, List.length_cons, List.length_nil, reduceCtorEq, Int.toNat_zero, Int.toNat_one, Int.cast_ofNat_Int, Nat.reduceAdd, Nat.reduceSub, Nat.reduceMul, Nat.reduceLT, Nat.reduceLeDiff, Nat.reduceEqDiff, Int.reduceAdd, Int.reduceSub, Int.reduceMul, Int.reduceNeg, Int.reduceLT, Int.reduceLE, Int.reduceEq, Int.reduceNe, Int.reduceToNat, t_4_copyFrom X]
  apply h
  obtain ⟨h1, h2⟩ := h'
  refine ⟨fun a ha => ?_, ?_, fun i j i1 i2 j1 j2 => ?_⟩
  · rw [h1 a (by omega)]
    exact up_other (by omega)
  · rw [h1 t (by omega)]
    simp [up]
  · have := h2 (i - 1) j (by omega) (by omega) j1 j2
    rw [show t + 1 + (i - 1) = t + i by omega, show f + 1 + (i - 1) = f + i by omega] at this
    rw [this, up_other (by omega)]
/-- the edition at base t is that at base f -/
def ecR (σ σ' : Sto) (f t : Nat) : Prop := (∀ a, (a < t + 1 ∨ t + 17 < a) → σ' a = σ a) ∧ σ' (t + 1) 0 = σ (f + 1) 0 ∧ (∀ i j, 3 ≤ i → i ≤ 6 → 0 ≤ j → j < 20 → σ' (t + i) j = σ (f + i) j) ∧
  (σ' (t + 7) 0 = σ (f + 7) 0 ∧ σ' (t + 12) 0 = σ (f + 12) 0) ∧ (∀ i j, (9 ≤ i ∧ i ≤ 11 ∨ 14 ≤ i ∧ i ≤ 16) → 0 ≤ j → j < 40 → σ' (t + i) j = σ (f + i) j) ∧ ∀ j, 0 ≤ j → j < 6 → σ' (t + 17) j = σ (f + 17) j
set_option maxRecDepth 40000 in
theorem ms_copyE {f t : Nat} (hf : EdS G f) (ht : EdS G t) (hd : f + 17 < t + 1 ∨ t + 17 < f + 1) (h : ∀ σ', ecR σ σ' f t → Q none G σ') : MS X M_1_copyFrom [.inr (t + 1), .inr (f + 1)] G σ Q := by
  obtain ⟨f1, f2, f3, f4, f5, f6, fn, fm, f17, fb⟩ := id hf
  obtain ⟨t1, t2, t3, t4, t5, t6, tn, tm, t17, tb⟩ := id ht
  refine MS_in [some (.inr (t + 1)), some (.inr (f + 1))] mok_1_copyFrom (Nat.le_of_ble_eq_true rfl) rfl ?_
  refine blk_wp (tok_1_copyFrom X) 1000 _ _ _ _ _ ?_
  simp only [blk_s, a_const, a_iload, a_aload, a_istore, a_astore, a_iinc, a_add, a_sub, a_mul, a_div, a_rem, a_dup, a_dup2, a_goto, a_icmp, a_if, a_ifnull, a_tsw, a_gi, a_gr, a_pi, a_ald, a_sld, a_ast, a_aald, a_len, a_gst, a_copy, a_max, a_min, a_iret, a_zret, a_aret, a_ret, a_cv, a_cn, a_sv, a_sn, lget, lset, fget, rget, apop, isO, Kv, Kn, fitb0, cmp, swl, InR, up, cpy, ↓reduceIte, if_true, if_false, Nat.left_eq_add, Nat.add_eq_left, Nat.add_left_cancel_iff, Nat.reduceEqDiff, Nat.zero_le, true_and, and_true, true_or, or_true, not_true_eq_false, not_false_eq_true, false_and, and_false, false_implies, true_implies, forall_const, ne_eq, Decidable.not_not, List.length_cons, List.length_nil, reduceCtorEq, Int.toNat_zero, Int.toNat_one, Int.cast_ofNat_Int, Nat.reduceAdd, Nat.reduceSub, Nat.reduceMul, Nat.reduceLT, Nat.reduceLeDiff, Nat.reduceEqDiff, Int.reduceAdd, Int.reduceSub, Int.reduceMul, Int.reduceNeg, Int.reduceLT, Int.reduceLE, Int.reduceEq, Int.reduceNe, Int.reduceToNat, t_1_copyFrom X, f1, t1]
  repeat' (first | assumption | with_reducible apply And.intro | with_reducible intro _)
  all_goals (try omega)
  refine ms_copyTable4 (f := f + 2) (t := t + 2) f2 t2 f3 f4 f5 f6 t3 t4 t5 t6 (by omega) (by omega) (fun σ1 h1 => ?_)
  simp only [blk_s, a_const, a_iload, a_aload, a_istore, a_astore, a_iinc, a_add, a_sub, a_mul, a_div, a_rem, a_dup, a_dup2, a_goto, a_icmp, a_if, a_ifnull, a_tsw, a_gi, a_gr, a_pi, a_ald, a_sld, a_ast, a_aald, a_len, a_gst, a_copy, a_max, a_min, a_iret, a_zret, a_aret, a_ret, a_cv, a_cn, a_sv, a_sn, lget, lset, fget, rget, apop, isO, Kv, Kn, fitb0, cmp, swl, InR, up, cpy, ↓reduceIte, if_true, if_false, Nat.left_eq_add, Nat.add_eq_left, Nat.add_left_cancel_iff, Nat.reduceEqDiff, Nat.zero_le, true_and, and_true, true_or, or_true, not_true_eq_false, not_false_eq_true, false_and, and_false, false_implies, true_implies, forall_const, ne_eq, Decidable.not_not, List.length_cons, List.length_nil, reduceCtorEq, Int.toNat_zero, Int.toNat_one, Int.cast_ofNat_Int, Nat.reduceAdd, Nat.reduceSub, Nat.reduceMul, Nat.reduceLT, Nat.reduceLeDiff, Nat.reduceEqDiff, Int.reduceAdd, Int.reduceSub, Int.reduceMul, Int.reduceNeg, Int.reduceLT, Int.reduceLE, Int.reduceEq, Int.reduceNe, Int.reduceToNat, t_1_copyFrom X, f1, t1, tn.1]
  repeat' (first | assumption | with_reducible apply And.intro | with_reducible intro _)
  all_goals (try omega)
  refine ms_copyN (f := f + 7) (t := t + 7) fn tn (by omega) (fun σ2 h2 => ?_)
  simp only [blk_s, a_const, a_iload, a_aload, a_istore, a_astore, a_iinc, a_add, a_sub, a_mul, a_div, a_rem, a_dup, a_dup2, a_goto, a_icmp, a_if, a_ifnull, a_tsw, a_gi, a_gr, a_pi, a_ald, a_sld, a_ast, a_aald, a_len, a_gst, a_copy, a_max, a_min, a_iret, a_zret, a_aret, a_ret, a_cv, a_cn, a_sv, a_sn, lget, lset, fget, rget, apop, isO, Kv, Kn, fitb0, cmp, swl, InR, up, cpy, ↓reduceIte, if_true, if_false, Nat.left_eq_add, Nat.add_eq_left, Nat.add_left_cancel_iff, Nat.reduceEqDiff, Nat.zero_le, true_and, and_true, true_or, or_true, not_true_eq_false, not_false_eq_true, false_and, and_false, false_implies, true_implies, forall_const, ne_eq, Decidable.not_not, List.length_cons, List.length_nil, reduceCtorEq, Int.toNat_zero, Int.toNat_one, Int.cast_ofNat_Int, Nat.reduceAdd, Nat.reduceSub, Nat.reduceMul, Nat.reduceLT, Nat.reduceLeDiff, Nat.reduceEqDiff, Int.reduceAdd, Int.reduceSub, Int.reduceMul, Int.reduceNeg, Int.reduceLT, Int.reduceLE, Int.reduceEq, Int.reduceNe, Int.reduceToNat, t_1_copyFrom X, f1, t1, tm.1]
  repeat' (first | assumption | with_reducible apply And.intro | with_reducible intro _)
  all_goals (try omega)
  refine ms_copyN (f := f + 12) (t := t + 12) fm tm (by omega) (fun σ3 h3 => ?_)
  simp only [blk_s, a_const, a_iload, a_aload, a_istore, a_astore, a_iinc, a_add, a_sub, a_mul, a_div, a_rem, a_dup, a_dup2, a_goto, a_icmp, a_if, a_ifnull, a_tsw, a_gi, a_gr, a_pi, a_ald, a_sld, a_ast, a_aald, a_len, a_gst, a_copy, a_max, a_min, a_iret, a_zret, a_aret, a_ret, a_cv, a_cn, a_sv, a_sn, lget, lset, fget, rget, apop, isO, Kv, Kn, fitb0, cmp, swl, InR, up, cpy, ↓reduceIte, if_true, if_false, Nat.left_eq_add, Nat.add_eq_left, Nat.add_left_cancel_iff, Nat.reduceEqDiff, Nat.zero_le, true_and, and_true, true_or, or_true, not_true_eq_false, not_false_eq_true, false_and, and_false, false_implies, true_implies, forall_const, ne_eq, Decidable.not_not, List.length_cons, List.length_nil, reduceCtorEq, Int.toNat_zero, Int.toNat_one, Int.cast_ofNat_Int, Nat.reduceAdd, Nat.reduceSub, Nat.reduceMul, Nat.reduceLT, Nat.reduceLeDiff, Nat.reduceEqDiff, Int.reduceAdd, Int.reduceSub, Int.reduceMul, Int.reduceNeg, Int.reduceLT, Int.reduceLE, Int.reduceEq, Int.reduceNe, Int.reduceToNat, t_1_copyFrom X, f1, t1, f17, t17]
  repeat' (first | assumption | with_reducible apply And.intro | with_reducible intro _)
  all_goals (try omega)
  apply h
  refine ⟨fun a ha => ?_, ?_, fun i j i1 i2 j1 j2 => ?_, ⟨?_, ?_⟩, fun i j ii j1 j2 => ?_, fun j j1 j2 => ?_⟩
  · rw [cpy_o (by omega), h3.1 a (by omega), h2.1 a (by omega), h1.1 a (by omega), up_other (by omega)]
  · rw [cpy_o (by omega), h3.1 _ (by omega), h2.1 _ (by omega), h1.1 _ (by omega)]
    simp [up]
  · have := h1.2 (i - 2) j (by omega) (by omega) j1 j2
    rw [show t + 2 + (i - 2) = t + i by omega, show f + 2 + (i - 2) = f + i by omega, up_other (by omega)] at this
    rw [cpy_o (by omega), h3.1 _ (by omega), h2.1 _ (by omega), this]
  · rw [cpy_o (by omega), h3.1 _ (by omega), h2.2.1, h1.1 _ (by omega), up_other (by omega)]
  · rw [cpy_o (by omega), h3.2.1, h2.1 _ (by omega), h1.1 _ (by omega), up_other (by omega)]
  · rcases ii with ii | ii
    · have := h2.2.2 (i - 7) j (by omega) (by omega) j1 j2
      rw [show t + 7 + (i - 7) = t + i by omega, show f + 7 + (i - 7) = f + i by omega] at this
      rw [cpy_o (by omega), h3.1 _ (by omega), this, h1.1 _ (by omega), up_other (by omega)]
    · have := h3.2.2 (i - 12) j (by omega) (by omega) j1 j2
      rw [show t + 12 + (i - 12) = t + i by omega, show f + 12 + (i - 12) = f + i by omega] at this
      rw [cpy_o (by omega), this, h2.1 _ (by omega), h1.1 _ (by omega), up_other (by omega)]
  · have e : cpy σ3 (f + 17) (t + 17) 0 0 6 (t + 17) j = σ3 (f + 17) j := by
      unfold cpy
      rw [if_pos ⟨rfl, by omega, by omega⟩, show 0 + (j - 0) = j by omega]
    rw [e, h3.1 _ (by omega), h2.1 _ (by omega), h1.1 _ (by omega), up_other (by omega)]
/-- behind an insertion -/
def inN (E E' : Sto) (nb : Nat) (at' : Int) : Prop := E' nb 0 = E nb 0 ∧ ∀ k, 0 ≤ k → k < E nb 0 → E' (nb + 2) k = (if at' ≤ E (nb + 2) k then E (nb + 2) k + 1 else E (nb + 2) k) ∧ E' (nb + 3) k = E (nb + 3) k ∧ E' (nb + 4) k = E (nb + 4) k
def inR (E E' : Sto) (at' l r : Int) : Prop := E' 1 0 = E 1 0 + 1 ∧ (∀ p, 0 ≤ p → p ≤ E 1 0 → E' 3 p = (if p < at' then E 3 p else if p = at' then l else E 3 (p - 1)) ∧ E' 4 p = (if p < at' then E 4 p else if p = at' then r else E 4 (p - 1)) ∧
  E' 5 p = (if p < at' then E 5 p else if p = at' then 0 else E 5 (p - 1)) ∧ E' 6 p = (if p < at' then E 6 p else if p = at' then 0 else E 6 (p - 1))) ∧ inN E E' 7 at' ∧ inN E E' 12 at' ∧ ∀ j, 0 ≤ j → j < 6 → E' 17 j = E 17 j
theorem nA_ge {σ : Sto} {nb : Nat} (hN : NtO σ nb) (hr : ∀ k, 0 ≤ k → k < σ nb 0 → 0 ≤ σ (nb + 3) k) {f k : Int} (k0 : 0 ≤ k) (k1 : k < σ nb 0) : nA σ nb f 0 ≤ k ↔ f ≤ σ (nb + 2) k := by
  obtain ⟨a1, a2, a3, a4⟩ := nA_is hN f 0
  have h3 := hr k k0 k1
  constructor
  · intro h
    have := a4 k h k1
    unfold bef at this
    omega
  · intro h
    rcases (show nA σ nb f 0 ≤ k ∨ k < nA σ nb f 0 by omega) with q | q
    · exact q
    · have := a3 k k0 q
      unfold bef at this
      omega
set_option maxRecDepth 40000 in
theorem ms_placePair (hG : CSh G) {at' l r : Int} (hn : 0 ≤ at' ∧ at' ≤ σ 1 0 ∧ σ 1 0 < 20) (h7 : NtO σ 7) (h12 : NtO σ 12) (r7 : NtR σ 7 3) (r12 : NtR σ 12 4) (h : ∀ σ', inR σ σ' at' l r → (∀ a, (a < 1 ∨ 17 < a) → σ' a = σ a) → Q none G σ') : MS X M_1_placePair [.inr 1, .inl at', .inl l, .inl r] G σ Q := by
  refine MS_in [some (.inr 1), some (.inl at'), some (.inl l), some (.inl r), none] mok_1_placePair (Nat.le_of_ble_eq_true rfl) rfl ?_
  refine blk_wp (tok_1_placePair X) 1000 _ _ _ _ _ ?_
  simp only [blk_s, a_const, a_iload, a_aload, a_istore, a_astore, a_iinc, a_add, a_sub, a_mul, a_div, a_rem, a_dup, a_dup2, a_goto, a_icmp, a_if, a_ifnull, a_tsw, a_gi, a_gr, a_pi, a_ald, a_sld, a_ast, a_aald, a_len, a_gst, a_copy, a_max, a_min, a_iret, a_zret, a_aret, a_ret, a_cv, a_cn, a_sv, a_sn, lget, lset, fget, rget, apop, isO, Kv, Kn, fitb0, cmp, swl, InR, up, cpy, ↓reduceIte, if_true, if_false, Nat.left_eq_add, Nat.add_eq_left, Nat.add_left_cancel_iff, Nat.reduceEqDiff, Nat.zero_le, true_and, and_true, true_or, or_true, not_true_eq_false, not_false_eq_true, false_and, and_false, false_implies, true_implies, forall_const, ne_eq, Decidable.not_not, List.length_cons, List.length_nil, reduceCtorEq, Int.toNat_zero, Int.toNat_one, Int.cast_ofNat_Int, Nat.reduceAdd, Nat.reduceSub, Nat.reduceMul, Nat.reduceLT, Nat.reduceLeDiff, Nat.reduceEqDiff, Int.reduceAdd, Int.reduceSub, Int.reduceMul, Int.reduceNeg, Int.reduceLT, Int.reduceLE, Int.reduceEq, Int.reduceNe, Int.reduceToNat, t_1_placePair X, sxC hG]
  repeat' (first | assumption | with_reducible apply And.intro | with_reducible intro _)
  all_goals (try omega)
  refine ms_openPlace (csh hG (by decide) rfl) (by omega) (by omega) (by omega) ?_
  simp only [blk_s, a_const, a_iload, a_aload, a_istore, a_astore, a_iinc, a_add, a_sub, a_mul, a_div, a_rem, a_dup, a_dup2, a_goto, a_icmp, a_if, a_ifnull, a_tsw, a_gi, a_gr, a_pi, a_ald, a_sld, a_ast, a_aald, a_len, a_gst, a_copy, a_max, a_min, a_iret, a_zret, a_aret, a_ret, a_cv, a_cn, a_sv, a_sn, lget, lset, fget, rget, apop, isO, Kv, Kn, fitb0, cmp, swl, InR, up, cpy, ↓reduceIte, if_true, if_false, Nat.left_eq_add, Nat.add_eq_left, Nat.add_left_cancel_iff, Nat.reduceEqDiff, Nat.zero_le, true_and, and_true, true_or, or_true, not_true_eq_false, not_false_eq_true, false_and, and_false, false_implies, true_implies, forall_const, ne_eq, Decidable.not_not, List.length_cons, List.length_nil, reduceCtorEq, Int.toNat_zero, Int.toNat_one, Int.cast_ofNat_Int, Nat.reduceAdd, Nat.reduceSub, Nat.reduceMul, Nat.reduceLT, Nat.reduceLeDiff, Nat.reduceEqDiff, Int.reduceAdd, Int.reduceSub, Int.reduceMul, Int.reduceNeg, Int.reduceLT, Int.reduceLE, Int.reduceEq, Int.reduceNe, Int.reduceToNat, t_1_placePair X, sxC hG]
  repeat' (first | assumption | with_reducible apply And.intro | with_reducible intro _)
  all_goals (try omega)
  refine ms_openPlace (csh hG (by decide) rfl) (by omega) (by omega) (by omega) ?_
  simp only [blk_s, a_const, a_iload, a_aload, a_istore, a_astore, a_iinc, a_add, a_sub, a_mul, a_div, a_rem, a_dup, a_dup2, a_goto, a_icmp, a_if, a_ifnull, a_tsw, a_gi, a_gr, a_pi, a_ald, a_sld, a_ast, a_aald, a_len, a_gst, a_copy, a_max, a_min, a_iret, a_zret, a_aret, a_ret, a_cv, a_cn, a_sv, a_sn, lget, lset, fget, rget, apop, isO, Kv, Kn, fitb0, cmp, swl, InR, up, cpy, ↓reduceIte, if_true, if_false, Nat.left_eq_add, Nat.add_eq_left, Nat.add_left_cancel_iff, Nat.reduceEqDiff, Nat.zero_le, true_and, and_true, true_or, or_true, not_true_eq_false, not_false_eq_true, false_and, and_false, false_implies, true_implies, forall_const, ne_eq, Decidable.not_not, List.length_cons, List.length_nil, reduceCtorEq, Int.toNat_zero, Int.toNat_one, Int.cast_ofNat_Int, Nat.reduceAdd, Nat.reduceSub, Nat.reduceMul, Nat.reduceLT, Nat.reduceLeDiff, Nat.reduceEqDiff, Int.reduceAdd, Int.reduceSub, Int.reduceMul, Int.reduceNeg, Int.reduceLT, Int.reduceLE, Int.reduceEq, Int.reduceNe, Int.reduceToNat, t_1_placePair X, sxC hG]
  repeat' (first | assumption | with_reducible apply And.intro | with_reducible intro _)
  all_goals (try omega)
  refine ms_openPlace (csh hG (by decide) rfl) (by omega) (by omega) (by omega) ?_
  simp only [blk_s, a_const, a_iload, a_aload, a_istore, a_astore, a_iinc, a_add, a_sub, a_mul, a_div, a_rem, a_dup, a_dup2, a_goto, a_icmp, a_if, a_ifnull, a_tsw, a_gi, a_gr, a_pi, a_ald, a_sld, a_ast, a_aald, a_len, a_gst, a_copy, a_max, a_min, a_iret, a_zret, a_aret, a_ret, a_cv, a_cn, a_sv, a_sn, lget, lset, fget, rget, apop, isO, Kv, Kn, fitb0, cmp, swl, InR, up, cpy, ↓reduceIte, if_true, if_false, Nat.left_eq_add, Nat.add_eq_left, Nat.add_left_cancel_iff, Nat.reduceEqDiff, Nat.zero_le, true_and, and_true, true_or, or_true, not_true_eq_false, not_false_eq_true, false_and, and_false, false_implies, true_implies, forall_const, ne_eq, Decidable.not_not, List.length_cons, List.length_nil, reduceCtorEq, Int.toNat_zero, Int.toNat_one, Int.cast_ofNat_Int, Nat.reduceAdd, Nat.reduceSub, Nat.reduceMul, Nat.reduceLT, Nat.reduceLeDiff, Nat.reduceEqDiff, Int.reduceAdd, Int.reduceSub, Int.reduceMul, Int.reduceNeg, Int.reduceLT, Int.reduceLE, Int.reduceEq, Int.reduceNe, Int.reduceToNat, t_1_placePair X, sxC hG]
  repeat' (first | assumption | with_reducible apply And.intro | with_reducible intro _)
  all_goals (try omega)
  refine ms_openPlace (csh hG (by decide) rfl) (by omega) (by omega) (by omega) ?_
  simp only [blk_s, a_const, a_iload, a_aload, a_istore, a_astore, a_iinc, a_add, a_sub, a_mul, a_div, a_rem, a_dup, a_dup2, a_goto, a_icmp, a_if, a_ifnull, a_tsw, a_gi, a_gr, a_pi, a_ald, a_sld, a_ast, a_aald, a_len, a_gst, a_copy, a_max, a_min, a_iret, a_zret, a_aret, a_ret, a_cv, a_cn, a_sv, a_sn, lget, lset, fget, rget, apop, isO, Kv, Kn, fitb0, cmp, swl, InR, up, cpy, ↓reduceIte, if_true, if_false, Nat.left_eq_add, Nat.add_eq_left, Nat.add_left_cancel_iff, Nat.reduceEqDiff, Nat.zero_le, true_and, and_true, true_or, or_true, not_true_eq_false, not_false_eq_true, false_and, and_false, false_implies, true_implies, forall_const, ne_eq, Decidable.not_not, List.length_cons, List.length_nil, reduceCtorEq, Int.toNat_zero, Int.toNat_one, Int.cast_ofNat_Int, Nat.reduceAdd, Nat.reduceSub, Nat.reduceMul, Nat.reduceLT, Nat.reduceLeDiff, Nat.reduceEqDiff, Int.reduceAdd, Int.reduceSub, Int.reduceMul, Int.reduceNeg, Int.reduceLT, Int.reduceLE, Int.reduceEq, Int.reduceNe, Int.reduceToNat, t_1_placePair X, sxC hG]
  repeat' (first | assumption | with_reducible apply And.intro | with_reducible intro _)
  all_goals (try omega)
  obtain ⟨σ1, e1⟩ : ∃ s, s = (up (up (up (up (up (cpy (cpy (cpy (cpy σ 3 3 at' (at' + 1) (σ 1 0 - at')) 4 4 at' (at' + 1) (σ 1 0 - at')) 5 5 at' (at' + 1) (σ 1 0 - at')) 6 6 at' (at' + 1) (σ 1 0 - at')) 3 at' l) 4 at' r) 5 at' 0) 6 at' 0) 1 0 (σ 1 0 + 1)) := ⟨_, rfl⟩
  rw [← e1]
  have f1 : ∀ a, (a < 1 ∨ 6 < a) → σ1 a = σ a := by
    intro a ha
    rw [e1, up_other (by omega), up_other (by omega), up_other (by omega), up_other (by omega), up_other (by omega), cpy_o (by omega), cpy_o (by omega), cpy_o (by omega), cpy_o (by omega)]
  have O7 : NtO σ1 7 := by unfold NtO at *; simp only [f1 _ (show (7 : Nat) < 1 ∨ 6 < 7 by omega), f1 _ (show (7 + 2 : Nat) < 1 ∨ 6 < 7 + 2 by omega), f1 _ (show (7 + 3 : Nat) < 1 ∨ 6 < 7 + 3 by omega)]; exact h7
  have A7 : nA σ1 7 at' 0 = nA σ 7 at' 0 := nA_eq O7 (by have := nA_is h7 at' 0; unfold isA bef at *; simp only [f1 _ (show (7 : Nat) < 1 ∨ 6 < 7 by omega), f1 _ (show (7 + 2 : Nat) < 1 ∨ 6 < 7 + 2 by omega), f1 _ (show (7 + 3 : Nat) < 1 ∨ 6 < 7 + 3 by omega)]; exact this)
  refine ms_movePairs (ntS7 hG) O7 (by omega) (fun k k0 k1 => ?_) ?_
  · rw [f1 7 (by omega)] at k1
    rw [f1 (7 + 2) (by omega)]
    have := r7 k k0 k1
    omega
  simp only [blk_s, a_const, a_iload, a_aload, a_istore, a_astore, a_iinc, a_add, a_sub, a_mul, a_div, a_rem, a_dup, a_dup2, a_goto, a_icmp, a_if, a_ifnull, a_tsw, a_gi, a_gr, a_pi, a_ald, a_sld, a_ast, a_aald, a_len, a_gst, a_copy, a_max, a_min, a_iret, a_zret, a_aret, a_ret, a_cv, a_cn, a_sv, a_sn, lget, lset, fget, rget, apop, isO, Kv, Kn, fitb0, cmp, swl, InR, up, cpy, ↓reduceIte, if_true, if_false, Nat.left_eq_add, Nat.add_eq_left, Nat.add_left_cancel_iff, Nat.reduceEqDiff, Nat.zero_le, true_and, and_true, true_or, or_true, not_true_eq_false, not_false_eq_true, false_and, and_false, false_implies, true_implies, forall_const, ne_eq, Decidable.not_not, List.length_cons, List.length_nil, reduceCtorEq, Int.toNat_zero, Int.toNat_one, Int.cast_ofNat_Int, Nat.reduceAdd, Nat.reduceSub, Nat.reduceMul, Nat.reduceLT, Nat.reduceLeDiff, Nat.reduceEqDiff, Int.reduceAdd, Int.reduceSub, Int.reduceMul, Int.reduceNeg, Int.reduceLT, Int.reduceLE, Int.reduceEq, Int.reduceNe, Int.reduceToNat, t_1_placePair X, sxC hG]
  repeat' (first | assumption | with_reducible apply And.intro | with_reducible intro _)
  all_goals (try omega)
  rw [A7]
  obtain ⟨σ2, e2⟩ : ∃ s, s = mvF σ1 7 (nA σ 7 at' 0) (σ1 7 0) 1 := ⟨_, rfl⟩
  rw [← e2]
  have f2 : ∀ a, (a < 1 ∨ 6 < a) → a ≠ 9 → σ2 a = σ a := by
    intro a ha hb
    rw [e2, ← f1 a ha]
    funext k
    grind [mvF]
  have O12 : NtO σ2 12 := by unfold NtO at *; simp only [f2 _ (show (12 : Nat) < 1 ∨ 6 < 12 by omega) (by omega), f2 _ (show (12 + 2 : Nat) < 1 ∨ 6 < 12 + 2 by omega) (by omega), f2 _ (show (12 + 3 : Nat) < 1 ∨ 6 < 12 + 3 by omega) (by omega)]; exact h12
  have A12 : nA σ2 12 at' 0 = nA σ 12 at' 0 := nA_eq O12 (by have := nA_is h12 at' 0; unfold isA bef at *; simp only [f2 _ (show (12 : Nat) < 1 ∨ 6 < 12 by omega) (by omega), f2 _ (show (12 + 2 : Nat) < 1 ∨ 6 < 12 + 2 by omega) (by omega), f2 _ (show (12 + 3 : Nat) < 1 ∨ 6 < 12 + 3 by omega) (by omega)]; exact this)
  refine ms_movePairs (ntS12 hG) O12 (by omega) (fun k k0 k1 => ?_) ?_
  · rw [f2 12 (by omega) (by omega)] at k1
    rw [f2 (12 + 2) (by omega) (by omega)]
    have := r12 k k0 k1
    omega
  simp only [blk_s, a_const, a_iload, a_aload, a_istore, a_astore, a_iinc, a_add, a_sub, a_mul, a_div, a_rem, a_dup, a_dup2, a_goto, a_icmp, a_if, a_ifnull, a_tsw, a_gi, a_gr, a_pi, a_ald, a_sld, a_ast, a_aald, a_len, a_gst, a_copy, a_max, a_min, a_iret, a_zret, a_aret, a_ret, a_cv, a_cn, a_sv, a_sn, lget, lset, fget, rget, apop, isO, Kv, Kn, fitb0, cmp, swl, InR, up, cpy, ↓reduceIte, if_true, if_false, Nat.left_eq_add, Nat.add_eq_left, Nat.add_left_cancel_iff, Nat.reduceEqDiff, Nat.zero_le, true_and, and_true, true_or, or_true, not_true_eq_false, not_false_eq_true, false_and, and_false, false_implies, true_implies, forall_const, ne_eq, Decidable.not_not, List.length_cons, List.length_nil, reduceCtorEq, Int.toNat_zero, Int.toNat_one, Int.cast_ofNat_Int, Nat.reduceAdd, Nat.reduceSub, Nat.reduceMul, Nat.reduceLT, Nat.reduceLeDiff, Nat.reduceEqDiff, Int.reduceAdd, Int.reduceSub, Int.reduceMul, Int.reduceNeg, Int.reduceLT, Int.reduceLE, Int.reduceEq, Int.reduceNe, Int.reduceToNat, t_1_placePair X, sxC hG]
  rw [A12]
  have g7 := fun k k0 k1 => nA_ge (k := k) (f := at') h7 (fun k k0 k1 => (r7 k k0 k1).2.1.1) k0 k1
  have g12 := fun k k0 k1 => nA_ge (k := k) (f := at') h12 (fun k k0 k1 => (r12 k k0 k1).2.1.1) k0 k1
  have q7 : σ1 7 0 = σ 7 0 := by rw [f1 7 (by omega)]
  have q12 : σ2 12 0 = σ 12 0 := by rw [f2 12 (by omega) (by omega)]
  have q9 : σ1 9 = σ 9 := f1 9 (by omega)
  have q14 : σ2 14 = σ 14 := f2 14 (by omega) (by omega)
  have v2 : ∀ a, a ≠ 9 → σ2 a = σ1 a := by
    intro a ha
    rw [e2]
    funext k
    grind [mvF]
  have v3 : ∀ a, a ≠ 14 → mvF σ2 12 (nA σ 12 at' 0) (σ2 12 0) 1 a = σ2 a := by
    intro a ha
    funext k
    grind [mvF]
  have w9 : ∀ k, 0 ≤ k → k < σ 7 0 → σ2 9 k = if at' ≤ σ 9 k then σ 9 k + 1 else σ 9 k := by
    intro k k0 k1
    have := g7 k k0 k1
    rw [e2]
    unfold mvF
    rw [q9, q7]
    grind
  have w14 : ∀ k, 0 ≤ k → k < σ 12 0 → mvF σ2 12 (nA σ 12 at' 0) (σ2 12 0) 1 14 k = if at' ≤ σ 14 k then σ 14 k + 1 else σ 14 k := by
    intro k k0 k1
    have := g12 k k0 k1
    unfold mvF
    rw [q14, q12]
    grind
  apply h
  · refine ⟨?_, fun p p0 p1 => ?_, ⟨?_, fun k k0 k1 => ?_⟩, ⟨?_, fun k k0 k1 => ?_⟩, fun j j0 j1 => ?_⟩
    · rw [v3 1 (by omega), v2 1 (by omega), e1]
      grind [up, cpy]
    · rw [v3 3 (by omega), v2 3 (by omega), v3 4 (by omega), v2 4 (by omega), v3 5 (by omega), v2 5 (by omega), v3 6 (by omega), v2 6 (by omega), e1]
      refine ⟨?_, ?_, ?_, ?_⟩ <;> (simp only [up, cpy, Nat.reduceEqDiff, false_and, true_and, if_false, if_true, ↓reduceIte, Nat.left_eq_add, Nat.add_eq_left, Nat.add_left_cancel_iff, Int.reduceEq, and_true, and_false]; clear e1 e2 f1 f2 v2 v3 w9 w14 g7 g12 h7 h12 r7 r12; grind)
    · rw [v3 7 (by omega), f2 7 (by omega) (by omega)]
    · rw [v3 (7 + 2) (by omega), v3 (7 + 3) (by omega), v3 (7 + 4) (by omega), f2 (7 + 3) (by omega) (by omega), f2 (7 + 4) (by omega) (by omega)]
      exact ⟨w9 k k0 k1, rfl, rfl⟩
    · rw [v3 12 (by omega), f2 12 (by omega) (by omega)]
    · rw [v3 (12 + 3) (by omega), v3 (12 + 4) (by omega), f2 (12 + 3) (by omega) (by omega), f2 (12 + 4) (by omega) (by omega)]
      exact ⟨w14 k k0 k1, rfl, rfl⟩
    · rw [v3 17 (by omega), f2 17 (by omega) (by omega)]
  · intro a ha
    rw [v3 a (by omega), f2 a (by omega) (by omega)]
end
