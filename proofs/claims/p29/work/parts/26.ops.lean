/-! ===== the class's changes ===== -/
def StK (E : Sto) : Prop := (8 ≤ E 17 0 ∧ E 17 0 ≤ 60) ∧ (0 ≤ E 17 1 ∧ E 17 1 ≤ 3) ∧ (0 ≤ E 17 2 ∧ E 17 2 ≤ 2) ∧ (1 ≤ E 17 3 ∧ E 17 3 ≤ 4) ∧ (0 ≤ E 17 4 ∧ E 17 4 ≤ 5) ∧ (E 17 5 = 0 ∨ E 17 5 = 1)
def EdOK (E : Sto) : Prop := (0 ≤ E 1 0 ∧ E 1 0 ≤ 20) ∧ EdL E ∧ NtO E 7 ∧ NtO E 12 ∧ NtR E 7 3 ∧ NtR E 12 4 ∧ E 7 0 + E 12 0 ≤ 40 ∧ StK E
def HiOK (σ : Sto) : Prop := (0 ≤ σ 18 0 ∧ σ 18 0 ≤ 6) ∧ 0 ≤ σ 18 1 ∧ σ 18 1 < 6
/-- the edition at base t in σ' is that at base f in σ -/
def ecV (σ σ' : Sto) (f t : Nat) : Prop := σ' (t + 1) 0 = σ (f + 1) 0 ∧ (∀ i j, 3 ≤ i → i ≤ 6 → 0 ≤ j → j < 20 → σ' (t + i) j = σ (f + i) j) ∧
  (σ' (t + 7) 0 = σ (f + 7) 0 ∧ σ' (t + 12) 0 = σ (f + 12) 0) ∧ (∀ i j, (9 ≤ i ∧ i ≤ 11 ∨ 14 ≤ i ∧ i ≤ 16) → 0 ≤ j → j < 40 → σ' (t + i) j = σ (f + i) j) ∧ ∀ j, 0 ≤ j → j < 6 → σ' (t + 17) j = σ (f + 17) j
def hiC (σ σ' : Sto) : Prop := σ' 18 1 = (if σ 18 1 + 1 < 6 then σ 18 1 + 1 else 0) ∧ σ' 18 0 = min (σ 18 0 + 1) 6 ∧ (∀ a, 20 ≤ a → a ≤ 121 → (a < 19 + 17 * (σ 18 1).toNat + 1 ∨ 19 + 17 * (σ 18 1).toNat + 17 < a) → σ' a = σ a) ∧ ecV σ σ' 0 (19 + 17 * (σ 18 1).toNat)
/-- behind a change, the edition apart -/
def opR (σ σ' : Sto) : Prop := (∀ a, 123 ≤ a → a ≠ 164 → σ' a = σ a) ∧ σ' 122 0 = 0 ∧ σ' 164 0 = 0 ∧ hiC σ σ'
theorem ecV_to {σ σ1 σ2 : Sto} {f t : Nat} (h : ecV σ σ1 f t) (hk : ∀ a, t + 1 ≤ a → a ≤ t + 17 → σ2 a = σ1 a) : ecV σ σ2 f t := by
  obtain ⟨h1, h2, ⟨h3, h4⟩, h5, h6⟩ := h
  refine ⟨by rw [hk _ (by omega) (by omega)]; exact h1, fun i j i1 i2 j1 j2 => by rw [hk _ (by omega) (by omega)]; exact h2 i j i1 i2 j1 j2, ⟨by rw [hk _ (by omega) (by omega)]; exact h3, by rw [hk _ (by omega) (by omega)]; exact h4⟩, fun i j i1 j1 j2 => by rw [hk _ (by omega) (by omega)]; exact h5 i j i1 j1 j2, fun j j1 j2 => by rw [hk _ (by omega) (by omega)]; exact h6 j j1 j2⟩
theorem opR_to {σ σ1 σ2 : Sto} (hH : HiOK σ) (h : opR σ σ1) (hk : ∀ a, 17 < a → σ2 a = σ1 a) : opR σ σ2 := by
  obtain ⟨h1, h2, h3, h4, h5, h6, h7⟩ := h
  have hx := hH.2
  refine ⟨fun a a1 a2 => by rw [hk a (by omega)]; exact h1 a a1 a2, by rw [hk _ (by omega)]; exact h2, by rw [hk _ (by omega)]; exact h3, by rw [hk _ (by omega)]; exact h4, by rw [hk _ (by omega)]; exact h5, fun a a1 a2 a3 => by rw [hk _ (by omega)]; exact h6 a a1 a2 a3, ecV_to h7 (fun a a1 a2 => hk a (by omega))⟩
section
variable {X : XT} {G : List Sh} {σ : Sto} {Q : QT}
set_option maxRecDepth 40000 in
theorem ms_forget (hG : CSh G) (h : Q none G (up (up σ 122 0 0) 164 0 0)) : MS X M_7_forgetResults [.inr 0] G σ Q := by
  refine MS_in [some (.inr 0)] mok_7_forgetResults (Nat.le_of_ble_eq_true rfl) rfl ?_
  refine blk_wp (tok_7_forgetResults X) 1000 _ _ _ _ _ ?_
  simp only [blk_s, a_const, a_iload, a_aload, a_istore, a_astore, a_iinc, a_add, a_sub, a_mul, a_div, a_rem, a_dup, a_dup2, a_goto, a_icmp, a_if, a_ifnull, a_tsw, a_gi, a_gr, a_pi, a_ald, a_sld, a_ast, a_aald, a_len, a_gst, a_copy, a_max, a_min, a_iret, a_zret, a_aret, a_ret, a_cv, a_cn, a_sv, a_sn, lget, lset, fget, rget, apop, isO, Kv, Kn, fitb0, cmp, swl, InR, up, cpy, ↓reduceIte, if_true, if_false, Nat.left_eq_add, Nat.add_eq_left, Nat.add_left_cancel_iff, Nat.reduceEqDiff, Nat.zero_le, true_and, and_true, true_or, or_true, not_true_eq_false, not_false_eq_true, false_and, and_false, false_implies, true_implies, forall_const, ne_eq, Decidable.not_not, List.length_cons, List.length_nil, reduceCtorEq, Int.toNat_zero, Int.toNat_one, Int.cast_ofNat_Int, Nat.reduceAdd, Nat.reduceSub, Nat.reduceMul, Nat.reduceLT, Nat.reduceLeDiff, Nat.reduceEqDiff, Int.reduceAdd, Int.reduceSub, Int.reduceMul, Int.reduceNeg, Int.reduceLT, Int.reduceLE, Int.reduceEq, Int.reduceNe, Int.reduceToNat, t_7_forgetResults X, sxC hG]
  repeat' (first | assumption | with_reducible apply And.intro | with_reducible intro _)
  all_goals (try omega)
set_option maxRecDepth 40000 in
theorem ms_begin (hG : CSh G) (hH : HiOK σ) (h : ∀ σ', (∀ a, 1 ≤ a → a ≤ 17 → σ' a = σ a) → opR σ σ' → Q none G σ') : MS X M_7_beginChange [.inr 0] G σ Q := by
  refine MS_in [some (.inr 0)] mok_7_beginChange (Nat.le_of_ble_eq_true rfl) rfl ?_
  refine blk_wp (tok_7_beginChange X) 1000 _ _ _ _ _ ?_
  simp only [blk_s, a_const, a_iload, a_aload, a_istore, a_astore, a_iinc, a_add, a_sub, a_mul, a_div, a_rem, a_dup, a_dup2, a_goto, a_icmp, a_if, a_ifnull, a_tsw, a_gi, a_gr, a_pi, a_ald, a_sld, a_ast, a_aald, a_len, a_gst, a_copy, a_max, a_min, a_iret, a_zret, a_aret, a_ret, a_cv, a_cn, a_sv, a_sn, lget, lset, fget, rget, apop, isO, Kv, Kn, fitb0, cmp, swl, InR, up, cpy, ↓reduceIte, if_true, if_false, Nat.left_eq_add, Nat.add_eq_left, Nat.add_left_cancel_iff, Nat.reduceEqDiff, Nat.zero_le, true_and, and_true, true_or, or_true, not_true_eq_false, not_false_eq_true, false_and, and_false, false_implies, true_implies, forall_const, ne_eq, Decidable.not_not, List.length_cons, List.length_nil, reduceCtorEq, Int.toNat_zero, Int.toNat_one, Int.cast_ofNat_Int, Nat.reduceAdd, Nat.reduceSub, Nat.reduceMul, Nat.reduceLT, Nat.reduceLeDiff, Nat.reduceEqDiff, Int.reduceAdd, Int.reduceSub, Int.reduceMul, Int.reduceNeg, Int.reduceLT, Int.reduceLE, Int.reduceEq, Int.reduceNe, Int.reduceToNat, t_7_beginChange X, sxC hG]
  refine ms_record hG hH.1 hH.2 (fun σ1 σ2 h1 h2 => ?_)
  subst h2
  simp only [blk_s, a_const, a_iload, a_aload, a_istore, a_astore, a_iinc, a_add, a_sub, a_mul, a_div, a_rem, a_dup, a_dup2, a_goto, a_icmp, a_if, a_ifnull, a_tsw, a_gi, a_gr, a_pi, a_ald, a_sld, a_ast, a_aald, a_len, a_gst, a_copy, a_max, a_min, a_iret, a_zret, a_aret, a_ret, a_cv, a_cn, a_sv, a_sn, lget, lset, fget, rget, apop, isO, Kv, Kn, fitb0, cmp, swl, InR, up, cpy, ↓reduceIte, if_true, if_false, Nat.left_eq_add, Nat.add_eq_left, Nat.add_left_cancel_iff, Nat.reduceEqDiff, Nat.zero_le, true_and, and_true, true_or, or_true, not_true_eq_false, not_false_eq_true, false_and, and_false, false_implies, true_implies, forall_const, ne_eq, Decidable.not_not, List.length_cons, List.length_nil, reduceCtorEq, Int.toNat_zero, Int.toNat_one, Int.cast_ofNat_Int, Nat.reduceAdd, Nat.reduceSub, Nat.reduceMul, Nat.reduceLT, Nat.reduceLeDiff, Nat.reduceEqDiff, Int.reduceAdd, Int.reduceSub, Int.reduceMul, Int.reduceNeg, Int.reduceLT, Int.reduceLE, Int.reduceEq, Int.reduceNe, Int.reduceToNat, t_7_beginChange X, sxC hG]
  refine ms_forget hG ?_
  simp only [blk_s, a_const, a_iload, a_aload, a_istore, a_astore, a_iinc, a_add, a_sub, a_mul, a_div, a_rem, a_dup, a_dup2, a_goto, a_icmp, a_if, a_ifnull, a_tsw, a_gi, a_gr, a_pi, a_ald, a_sld, a_ast, a_aald, a_len, a_gst, a_copy, a_max, a_min, a_iret, a_zret, a_aret, a_ret, a_cv, a_cn, a_sv, a_sn, lget, lset, fget, rget, apop, isO, Kv, Kn, fitb0, cmp, swl, InR, up, cpy, ↓reduceIte, if_true, if_false, Nat.left_eq_add, Nat.add_eq_left, Nat.add_left_cancel_iff, Nat.reduceEqDiff, Nat.zero_le, true_and, and_true, true_or, or_true, not_true_eq_false, not_false_eq_true, false_and, and_false, false_implies, true_implies, forall_const, ne_eq, Decidable.not_not, List.length_cons, List.length_nil, reduceCtorEq, Int.toNat_zero, Int.toNat_one, Int.cast_ofNat_Int, Nat.reduceAdd, Nat.reduceSub, Nat.reduceMul, Nat.reduceLT, Nat.reduceLeDiff, Nat.reduceEqDiff, Int.reduceAdd, Int.reduceSub, Int.reduceMul, Int.reduceNeg, Int.reduceLT, Int.reduceLE, Int.reduceEq, Int.reduceNe, Int.reduceToNat, t_7_beginChange X, sxC hG]
  have hx := hH.2
  obtain ⟨hf, hv⟩ := h1
  apply h
  · intro a a1 a2
    rw [up_other (by omega), up_other (by omega), up_other (by omega), up_other (by omega), hf a (by omega)]
  · refine ⟨fun a a1 a2 => ?_, ?_, ?_, ?_, ?_, fun a a1 a2 a3 => ?_, ?_⟩
    · rw [up_other (by omega), up_other (by omega), up_other (by omega), up_other (by omega), hf a (by omega)]
    · simp only [up, cpy, Nat.reduceEqDiff, false_and, true_and, if_false, if_true, ↓reduceIte, Nat.left_eq_add, Nat.add_eq_left, Nat.add_left_cancel_iff, Int.reduceEq, and_true, and_false]
    · simp only [up, cpy, Nat.reduceEqDiff, false_and, true_and, if_false, if_true, ↓reduceIte, Nat.left_eq_add, Nat.add_eq_left, Nat.add_left_cancel_iff, Int.reduceEq, and_true, and_false]
    · simp only [up, cpy, Nat.reduceEqDiff, false_and, true_and, if_false, if_true, ↓reduceIte, Nat.left_eq_add, Nat.add_eq_left, Nat.add_left_cancel_iff, Int.reduceEq, and_true, and_false]
    · simp only [up, cpy, Nat.reduceEqDiff, false_and, true_and, if_false, if_true, ↓reduceIte, Nat.left_eq_add, Nat.add_eq_left, Nat.add_left_cancel_iff, Int.reduceEq, and_true, and_false]
    · rw [up_other (by omega), up_other (by omega), up_other (by omega), up_other (by omega), hf a (by omega)]
    · exact ecV_to hv (fun a a1 a2 => by rw [up_other (by omega), up_other (by omega), up_other (by omega), up_other (by omega)])
set_option maxRecDepth 40000 in
theorem ms_insert (hG : CSh G) (hE : EdOK σ) (hH : HiOK σ) {a l r : Int}
    (h1 : ¬ ((0 ≤ a ∧ a ≤ σ 1 0) ∧ (1 ≤ l ∧ l ≤ 30) ∧ (1 ≤ r ∧ r ≤ 30)) → Q (some (.inl (-1))) G σ) (h2 : ((0 ≤ a ∧ a ≤ σ 1 0) ∧ (1 ≤ l ∧ l ≤ 30) ∧ (1 ≤ r ∧ r ≤ 30)) → 20 ≤ σ 1 0 → Q (some (.inl (-3))) G σ)
    (h3 : ((0 ≤ a ∧ a ≤ σ 1 0) ∧ (1 ≤ l ∧ l ≤ 30) ∧ (1 ≤ r ∧ r ≤ 30)) → σ 1 0 < 20 → ∀ σ', opR σ σ' → inR σ σ' a l r → Q (some (.inl (σ 1 0 + 1))) G σ') : MS X M_7_insert [.inr 0, .inl a, .inl l, .inl r] G σ Q := by
  obtain ⟨hn, hL, o7, o12, r7, r12, -, -⟩ := hE
  refine MS_in [some (.inr 0), some (.inl a), some (.inl l), some (.inl r)] mok_7_insert (Nat.le_of_ble_eq_true rfl) rfl ?_
  refine blk_wp (tok_7_insert X) 1000 _ _ _ _ _ ?_
  simp only [blk_s, a_const, a_iload, a_aload, a_istore, a_astore, a_iinc, a_add, a_sub, a_mul, a_div, a_rem, a_dup, a_dup2, a_goto, a_icmp, a_if, a_ifnull, a_tsw, a_gi, a_gr, a_pi, a_ald, a_sld, a_ast, a_aald, a_len, a_gst, a_copy, a_max, a_min, a_iret, a_zret, a_aret, a_ret, a_cv, a_cn, a_sv, a_sn, lget, lset, fget, rget, apop, isO, Kv, Kn, fitb0, cmp, swl, InR, up, cpy, ↓reduceIte, if_true, if_false, Nat.left_eq_add, Nat.add_eq_left, Nat.add_left_cancel_iff, Nat.reduceEqDiff, Nat.zero_le, true_and, and_true, true_or, or_true, not_true_eq_false, not_false_eq_true, false_and, and_false, false_implies, true_implies, forall_const, ne_eq, Decidable.not_not, List.length_cons, List.length_nil, reduceCtorEq, Int.toNat_zero, Int.toNat_one, Int.cast_ofNat_Int, Nat.reduceAdd, Nat.reduceSub, Nat.reduceMul, Nat.reduceLT, Nat.reduceLeDiff, Nat.reduceEqDiff, Int.reduceAdd, Int.reduceSub, Int.reduceMul, Int.reduceNeg, Int.reduceLT, Int.reduceLE, Int.reduceEq, Int.reduceNe, Int.reduceToNat, t_7_insert X, sxC hG]
  apply ms_isIn
  simp only [blk_s, a_const, a_iload, a_aload, a_istore, a_astore, a_iinc, a_add, a_sub, a_mul, a_div, a_rem, a_dup, a_dup2, a_goto, a_icmp, a_if, a_ifnull, a_tsw, a_gi, a_gr, a_pi, a_ald, a_sld, a_ast, a_aald, a_len, a_gst, a_copy, a_max, a_min, a_iret, a_zret, a_aret, a_ret, a_cv, a_cn, a_sv, a_sn, lget, lset, fget, rget, apop, isO, Kv, Kn, fitb0, cmp, swl, InR, up, cpy, ↓reduceIte, if_true, if_false, Nat.left_eq_add, Nat.add_eq_left, Nat.add_left_cancel_iff, Nat.reduceEqDiff, Nat.zero_le, true_and, and_true, true_or, or_true, not_true_eq_false, not_false_eq_true, false_and, and_false, false_implies, true_implies, forall_const, ne_eq, Decidable.not_not, List.length_cons, List.length_nil, reduceCtorEq, Int.toNat_zero, Int.toNat_one, Int.cast_ofNat_Int, Nat.reduceAdd, Nat.reduceSub, Nat.reduceMul, Nat.reduceLT, Nat.reduceLeDiff, Nat.reduceEqDiff, Int.reduceAdd, Int.reduceSub, Int.reduceMul, Int.reduceNeg, Int.reduceLT, Int.reduceLE, Int.reduceEq, Int.reduceNe, Int.reduceToNat, t_7_insert X, sxC hG]
  by_cases c1 : 0 ≤ a ∧ a ≤ σ 1 0
  case neg =>
    rw [if_neg c1]
    exact ⟨fun _ => h1 (fun q => c1 q.1), fun q => absurd rfl q⟩
  rw [if_pos c1]
  refine ⟨fun q => absurd q (by decide), fun _ => ?_⟩
  apply ms_isIn
  simp only [blk_s, a_const, a_iload, a_aload, a_istore, a_astore, a_iinc, a_add, a_sub, a_mul, a_div, a_rem, a_dup, a_dup2, a_goto, a_icmp, a_if, a_ifnull, a_tsw, a_gi, a_gr, a_pi, a_ald, a_sld, a_ast, a_aald, a_len, a_gst, a_copy, a_max, a_min, a_iret, a_zret, a_aret, a_ret, a_cv, a_cn, a_sv, a_sn, lget, lset, fget, rget, apop, isO, Kv, Kn, fitb0, cmp, swl, InR, up, cpy, ↓reduceIte, if_true, if_false, Nat.left_eq_add, Nat.add_eq_left, Nat.add_left_cancel_iff, Nat.reduceEqDiff, Nat.zero_le, true_and, and_true, true_or, or_true, not_true_eq_false, not_false_eq_true, false_and, and_false, false_implies, true_implies, forall_const, ne_eq, Decidable.not_not, List.length_cons, List.length_nil, reduceCtorEq, Int.toNat_zero, Int.toNat_one, Int.cast_ofNat_Int, Nat.reduceAdd, Nat.reduceSub, Nat.reduceMul, Nat.reduceLT, Nat.reduceLeDiff, Nat.reduceEqDiff, Int.reduceAdd, Int.reduceSub, Int.reduceMul, Int.reduceNeg, Int.reduceLT, Int.reduceLE, Int.reduceEq, Int.reduceNe, Int.reduceToNat, t_7_insert X, sxC hG]
  by_cases c2 : 1 ≤ l ∧ l ≤ 30
  case neg =>
    rw [if_neg c2]
    exact ⟨fun _ => h1 (fun q => c2 q.2.1), fun q => absurd rfl q⟩
  rw [if_pos c2]
  refine ⟨fun q => absurd q (by decide), fun _ => ?_⟩
  apply ms_isIn
  simp only [blk_s, a_const, a_iload, a_aload, a_istore, a_astore, a_iinc, a_add, a_sub, a_mul, a_div, a_rem, a_dup, a_dup2, a_goto, a_icmp, a_if, a_ifnull, a_tsw, a_gi, a_gr, a_pi, a_ald, a_sld, a_ast, a_aald, a_len, a_gst, a_copy, a_max, a_min, a_iret, a_zret, a_aret, a_ret, a_cv, a_cn, a_sv, a_sn, lget, lset, fget, rget, apop, isO, Kv, Kn, fitb0, cmp, swl, InR, up, cpy, ↓reduceIte, if_true, if_false, Nat.left_eq_add, Nat.add_eq_left, Nat.add_left_cancel_iff, Nat.reduceEqDiff, Nat.zero_le, true_and, and_true, true_or, or_true, not_true_eq_false, not_false_eq_true, false_and, and_false, false_implies, true_implies, forall_const, ne_eq, Decidable.not_not, List.length_cons, List.length_nil, reduceCtorEq, Int.toNat_zero, Int.toNat_one, Int.cast_ofNat_Int, Nat.reduceAdd, Nat.reduceSub, Nat.reduceMul, Nat.reduceLT, Nat.reduceLeDiff, Nat.reduceEqDiff, Int.reduceAdd, Int.reduceSub, Int.reduceMul, Int.reduceNeg, Int.reduceLT, Int.reduceLE, Int.reduceEq, Int.reduceNe, Int.reduceToNat, t_7_insert X, sxC hG]
  by_cases c3 : 1 ≤ r ∧ r ≤ 30
  case neg =>
    rw [if_neg c3]
    exact ⟨fun q => absurd rfl q, fun _ => h1 (fun q => c3 q.2.2)⟩
  rw [if_pos c3]
  refine ⟨fun _ => ?_, fun q => absurd q (by decide)⟩
  refine ⟨fun c4 => ?_, fun c4 => h2 ⟨c1, c2, c3⟩ (by omega)⟩
  refine ms_begin hG hH (fun σ1 f1 p1 => ?_)
  simp only [blk_s, a_const, a_iload, a_aload, a_istore, a_astore, a_iinc, a_add, a_sub, a_mul, a_div, a_rem, a_dup, a_dup2, a_goto, a_icmp, a_if, a_ifnull, a_tsw, a_gi, a_gr, a_pi, a_ald, a_sld, a_ast, a_aald, a_len, a_gst, a_copy, a_max, a_min, a_iret, a_zret, a_aret, a_ret, a_cv, a_cn, a_sv, a_sn, lget, lset, fget, rget, apop, isO, Kv, Kn, fitb0, cmp, swl, InR, up, cpy, ↓reduceIte, if_true, if_false, Nat.left_eq_add, Nat.add_eq_left, Nat.add_left_cancel_iff, Nat.reduceEqDiff, Nat.zero_le, true_and, and_true, true_or, or_true, not_true_eq_false, not_false_eq_true, false_and, and_false, false_implies, true_implies, forall_const, ne_eq, Decidable.not_not, List.length_cons, List.length_nil, reduceCtorEq, Int.toNat_zero, Int.toNat_one, Int.cast_ofNat_Int, Nat.reduceAdd, Nat.reduceSub, Nat.reduceMul, Nat.reduceLT, Nat.reduceLeDiff, Nat.reduceEqDiff, Int.reduceAdd, Int.reduceSub, Int.reduceMul, Int.reduceNeg, Int.reduceLT, Int.reduceLE, Int.reduceEq, Int.reduceNe, Int.reduceToNat, t_7_insert X, sxC hG]
  have e1 := f1 1 (by omega) (by omega)
  obtain ⟨O7, A7⟩ := nt_eq o7 (f1 7 (by omega) (by omega)) (f1 (7 + 2) (by omega) (by omega)) (f1 (7 + 3) (by omega) (by omega))
  obtain ⟨O12, A12⟩ := nt_eq o12 (f1 12 (by omega) (by omega)) (f1 (12 + 2) (by omega) (by omega)) (f1 (12 + 3) (by omega) (by omega))
  refine ms_placePair hG (by rw [e1]; omega) O7 O12 ?_ ?_ (fun σ2 p2 f2 => ?_)
  · unfold NtR at *
    simp only [f1 7 (by omega) (by omega), f1 (7 + 2) (by omega) (by omega), f1 (7 + 3) (by omega) (by omega), f1 (7 + 4) (by omega) (by omega), f1 3 (by omega) (by omega), e1]
    exact r7
  · unfold NtR at *
    simp only [f1 12 (by omega) (by omega), f1 (12 + 2) (by omega) (by omega), f1 (12 + 3) (by omega) (by omega), f1 (12 + 4) (by omega) (by omega), f1 4 (by omega) (by omega), e1]
    exact r12
  simp only [blk_s, a_const, a_iload, a_aload, a_istore, a_astore, a_iinc, a_add, a_sub, a_mul, a_div, a_rem, a_dup, a_dup2, a_goto, a_icmp, a_if, a_ifnull, a_tsw, a_gi, a_gr, a_pi, a_ald, a_sld, a_ast, a_aald, a_len, a_gst, a_copy, a_max, a_min, a_iret, a_zret, a_aret, a_ret, a_cv, a_cn, a_sv, a_sn, lget, lset, fget, rget, apop, isO, Kv, Kn, fitb0, cmp, swl, InR, up, cpy, ↓reduceIte, if_true, if_false, Nat.left_eq_add, Nat.add_eq_left, Nat.add_left_cancel_iff, Nat.reduceEqDiff, Nat.zero_le, true_and, and_true, true_or, or_true, not_true_eq_false, not_false_eq_true, false_and, and_false, false_implies, true_implies, forall_const, ne_eq, Decidable.not_not, List.length_cons, List.length_nil, reduceCtorEq, Int.toNat_zero, Int.toNat_one, Int.cast_ofNat_Int, Nat.reduceAdd, Nat.reduceSub, Nat.reduceMul, Nat.reduceLT, Nat.reduceLeDiff, Nat.reduceEqDiff, Int.reduceAdd, Int.reduceSub, Int.reduceMul, Int.reduceNeg, Int.reduceLT, Int.reduceLE, Int.reduceEq, Int.reduceNe, Int.reduceToNat, t_7_insert X, sxC hG]
  have p2' : inR σ σ2 a l r := by
    unfold inR inN at *
    simp only [f1 1 (by omega) (by omega), f1 3 (by omega) (by omega), f1 4 (by omega) (by omega), f1 5 (by omega) (by omega), f1 6 (by omega) (by omega), f1 7 (by omega) (by omega), f1 12 (by omega) (by omega), f1 (7 + 2) (by omega) (by omega), f1 (7 + 3) (by omega) (by omega), f1 (7 + 4) (by omega) (by omega), f1 (12 + 2) (by omega) (by omega), f1 (12 + 3) (by omega) (by omega), f1 (12 + 4) (by omega) (by omega), f1 17 (by omega) (by omega)] at p2
    exact p2
  have := h3 ⟨c1, c2, c3⟩ c4 σ2 (opR_to hH p1 (fun b hb => f2 b (by omega))) p2'
  rw [← p2'.1] at this
  exact this
end
