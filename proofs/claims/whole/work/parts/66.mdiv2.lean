/-! ===== the check's best division ===== -/
def cM (σ : Sto) : Int → Int := fun j => if σ 195 j < 0 then -1 else σ 195 j
def FrD (σ σ' : Sto) : Prop := ∀ a, a ≠ 195 → a ≠ 196 → σ' a = σ a
/-- the places after one are done -/
def OI (V : Sto) (i : Int) (σ : Sto) : Prop := σ 195 (V 1 0) = 0 ∧ (∀ j, i < j → j ≤ V 1 0 → 0 ≤ j → σ 195 j = -4 ∨ (0 ≤ σ 195 j ∧ σ 195 j ≤ 7200 * (V 1 0 - j))) ∧ ∀ k, i < k → 0 ≤ k → k < V 1 0 → BTi V (cM σ) k (σ 196 k) (V 1 0)
/-- a place is done with the ends after one -/
def II (V : Sto) (i j : Int) (σ : Sto) : Prop := (σ 195 i = -4 ∧ ∀ k, j < k → k ≤ V 1 0 → isG V i k → σ 195 k < 0) ∨ ((0 ≤ σ 195 i ∧ σ 195 i ≤ 7200 * (V 1 0 - i)) ∧ (j < σ 196 i ∧ σ 196 i ≤ V 1 0) ∧ isG V i (σ 196 i) ∧ 0 ≤ σ 195 (σ 196 i) ∧ σ 195 i = σ 195 (σ 196 i) + gVal V i (σ 196 i) ∧ ∀ k, j < k → k ≤ V 1 0 → isG V i k → 0 ≤ σ 195 k → σ 195 i ≤ σ 195 k + gVal V i k ∧ (σ 196 i < k → σ 195 i < σ 195 k + gVal V i k))
theorem cM_v {σ : Sto} {j : Int} : (0 ≤ σ 195 j → cM σ j = σ 195 j) ∧ (σ 195 j < 0 → cM σ j = -1) := ⟨fun q => if_neg (by omega), fun q => if_pos q⟩
theorem gVal_m {V : Sto} (hV : EdOK V) {i j : Int} (hi : 0 ≤ i) (hj : i < j) (hn : j ≤ V 1 0) (hg : isG V i j) : (0 ≤ gVal V i j ∧ gVal V i j ≤ 7200) ∧ (0 ≤ (V 17 0 - gR V i 0 j) * (V 17 0 - gR V i 0 j) ∧ (V 17 0 - gR V i 0 j) * (V 17 0 - gR V i 0 j) ≤ 3600) ∧ (0 ≤ (V 17 0 - gR V i 1 j) * (V 17 0 - gR V i 1 j) ∧ (V 17 0 - gR V i 1 j) * (V 17 0 - gR V i 1 j) ≤ 3600) := by
  have hw := hgt hV
  obtain ⟨-, -, x0⟩ := gR_b hV hi (Or.inl rfl) hj hn
  obtain ⟨-, -, x1⟩ := gR_b hV hi (Or.inr rfl) hj hn
  have f := hg.1
  unfold gFit at f
  have q0 := mul_b1 (m := 60) (a := V 17 0 - gR V i 0 j) (b := V 17 0 - gR V i 0 j) (by omega) (by omega)
  have q1 := mul_b1 (m := 60) (a := V 17 0 - gR V i 1 j) (b := V 17 0 - gR V i 1 j) (by omega) (by omega)
  refine ⟨?_, q0, q1⟩
  unfold gVal
  split <;> omega
theorem ii_done {V σ : Sto} {i : Int} (hi : 0 ≤ i ∧ i < V 1 0) (h : OI V i σ) (h' : II V i i σ) : OI V (i - 1) σ := by
  obtain ⟨o1, o2, o3⟩ := h
  have b : BTi V (cM σ) i (σ 196 i) (V 1 0) := by
    rcases h' with ⟨a1, a2⟩ | ⟨a1, a2, a3, a4, a5, a6⟩
    · exact Or.inl ⟨cM_v.2 (by omega), fun k k0 k1 hg => cM_v.2 (a2 k k0 k1 hg)⟩
    · refine Or.inr ⟨by rw [cM_v.1 a1.1]; exact a1, a2, a3, by rw [cM_v.1 a4]; exact a4, by rw [cM_v.1 a1.1, cM_v.1 a4]; exact a5, fun k k0 k1 hg hc => ?_⟩
      have hk : 0 ≤ σ 195 k := by
        rcases (show 0 ≤ σ 195 k ∨ σ 195 k < 0 by omega) with q | q
        · exact q
        · exact absurd (cM_v.2 q) hc
      rw [cM_v.1 a1.1, cM_v.1 hk]
      exact a6 k k0 k1 hg hk
  refine ⟨o1, fun j j0 j1 j2 => ?_, fun k k0 k1 k2 => ?_⟩
  · by_cases e : j = i
    · subst e
      rcases h' with ⟨a1, -⟩ | ⟨a1, -⟩
      · exact Or.inl a1
      · exact Or.inr a1
    · exact o2 j (by omega) j1 j2
  · by_cases e : k = i
    · rw [e]; exact b
    · exact o3 k (by omega) k1 k2
theorem oi_c {V σ σ' : Sto} {i : Int} (hi : 0 ≤ i ∧ i < V 1 0) (h : OI V i σ) (e1 : ∀ k, k ≠ i → σ' 195 k = σ 195 k) (e2 : ∀ k, k ≠ i → σ' 196 k = σ 196 k) : OI V i σ' := by
  obtain ⟨o1, o2, o3⟩ := h
  refine ⟨by rw [e1 _ (by omega)]; exact o1, fun j j0 j1 j2 => by rw [e1 _ (by omega)]; exact o2 j j0 j1 j2, fun k k0 k1 k2 => ?_⟩
  rw [e2 _ (by omega)]
  refine bti_c (o3 k k0 k1 k2) (fun j j0 j1 => ?_) k2
  show (if σ' 195 j < 0 then -1 else σ' 195 j) = if σ 195 j < 0 then -1 else σ 195 j
  rw [e1 _ (by omega)]
theorem up195 (σ : Sto) (i v w : Int) : (up (up σ 195 i v) 196 i w 195 i = v ∧ ∀ k, k ≠ i → up (up σ 195 i v) 196 i w 195 k = σ 195 k) ∧ (up (up σ 195 i v) 196 i w 196 i = w ∧ ∀ k, k ≠ i → up (up σ 195 i v) 196 i w 196 k = σ 196 k) ∧ FrD σ (up (up σ 195 i v) 196 i w) := by
  refine ⟨⟨by simp [up], fun k hk => by simp [up, hk]⟩, ⟨by simp [up], fun k hk => by simp [up, hk]⟩, fun a a1 a2 => ?_⟩
  rw [up_ne a2, up_ne a1]
section
variable {X : XT} {G : List Sh} {σ : Sto} {Q : QT}
set_option maxRecDepth 40000 in
theorem lp_dv2 (hG : MSh G) {V : Sto} {i : Int} (hV : EdOK V) (hM : MR V σ) (hi : 0 ≤ i ∧ i < V 1 0) (hE : ∀ σ', FrD σ σ' → OI V (i - 1) σ' → WPc X M_8_divides Q 25 [some (.inr 179), some (.inl (V 1 0)), some (.inl (i - 1)), none, none, none, none] [] (G, 0, 0) σ') :
    ∀ (n : Nat) (j : Int) (σ1 : Sto), FrD σ σ1 → OI V i σ1 → II V i j σ1 → i ≤ j → j ≤ V 1 0 → j - i < n → WPc X M_8_divides Q 39 [some (.inr 179), some (.inl (V 1 0)), some (.inl i), some (.inl j), none, none, none] [] (G, 0, 0) σ1 := by
  have hn20 := hV.1
  have hw := hgt hV
  intro n
  induction n with
  | zero => intro j σ1 _ _ _ j0 j1 j2; omega
  | succ n ih =>
    intro j σ1 f1 o1 i1 j0 j1 j2
    have hM1 : MR V σ1 := by
      unfold MR
      rw [f1 180 (by omega) (by omega)]
      exact hM
    have m81 : σ1 180 81 = V 17 0 := hM1.2.2.1.1
    by_cases c : j = i
    · subst c
      have e := hE σ1 f1 (ii_done hi o1 i1)
      have e := WPc_L (L := [some (.inr 179), some (.inl (V 1 0)), some (.inl (j - 1)), some (.inl j), none, none, none]) (lsub_c (lsub_c (lsub_c (lsub_n lsub_r)))) e
      refine blk_at (tok_8_divides X) 1000 rfl ?_
      simp (maxSteps := 4000000) only [blk_s, blk_z, a_const, a_iload, a_aload, a_istore, a_astore, a_iinc, a_add, a_sub, a_mul, a_div, a_rem, a_dup, a_dup2, a_goto, a_ifnull, a_tsw, a_gi, a_gr, a_pi, a_ald, a_sld, a_ast, a_aald, a_len, a_gst, a_copy, a_max, a_min, a_iret, a_zret, a_aret, a_ret, a_cv, a_cn, a_sv, a_sn, icmp_t, icmp_f, aif_t, aif_f, lget, lset, fget, rget, apop, isO, Kv, Kn, fitb0, cmp, swl, InR, up, cpy, ↓reduceIte, if_true, if_false, Nat.left_eq_add, Nat.add_eq_left, Nat.add_left_cancel_iff, Nat.reduceEqDiff, Nat.zero_le, true_and, and_true, true_or, or_true, or_self, not_true_eq_false, not_false_eq_true, false_and, and_false, false_implies, true_implies, forall_const, ne_eq, Decidable.not_not, List.length_cons, List.length_nil, reduceCtorEq, Int.toNat_zero, Int.toNat_one, Int.cast_ofNat_Int, Nat.reduceAdd, Nat.reduceSub, Nat.reduceMul, Nat.reduceLT, Nat.reduceLeDiff, Nat.reduceEqDiff, Int.reduceAdd, Int.reduceSub, Int.reduceMul, Int.reduceNeg, Int.reduceLT, Int.reduceLE, Int.reduceEq, Int.reduceNe, Int.reduceToNat, t_8_divides X, sxM hG]
      repeat (simp only [icmp_b, aif_b, cmp]; simp (maxSteps := 4000000) only [blk_s, blk_z, a_const, a_iload, a_aload, a_istore, a_astore, a_iinc, a_add, a_sub, a_mul, a_div, a_rem, a_dup, a_dup2, a_goto, a_ifnull, a_tsw, a_gi, a_gr, a_pi, a_ald, a_sld, a_ast, a_aald, a_len, a_gst, a_copy, a_max, a_min, a_iret, a_zret, a_aret, a_ret, a_cv, a_cn, a_sv, a_sn, icmp_t, icmp_f, aif_t, aif_f, lget, lset, fget, rget, apop, isO, Kv, Kn, fitb0, cmp, swl, InR, up, cpy, ↓reduceIte, if_true, if_false, Nat.left_eq_add, Nat.add_eq_left, Nat.add_left_cancel_iff, Nat.reduceEqDiff, Nat.zero_le, true_and, and_true, true_or, or_true, or_self, not_true_eq_false, not_false_eq_true, false_and, and_false, false_implies, true_implies, forall_const, ne_eq, Decidable.not_not, List.length_cons, List.length_nil, reduceCtorEq, Int.toNat_zero, Int.toNat_one, Int.cast_ofNat_Int, Nat.reduceAdd, Nat.reduceSub, Nat.reduceMul, Nat.reduceLT, Nat.reduceLeDiff, Nat.reduceEqDiff, Int.reduceAdd, Int.reduceSub, Int.reduceMul, Int.reduceNeg, Int.reduceLT, Int.reduceLE, Int.reduceEq, Int.reduceNe, Int.reduceToNat, t_8_divides X, sxM hG])
      repeat' (first | assumption | with_reducible apply And.intro | with_reducible intro _)
      all_goals (try omega)
    · have oj := o1.2.1 j (by omega) j1 (by omega)
      have skip : ¬ (0 ≤ σ1 195 j ∧ isG V i j) → WPc X M_8_divides Q 39 [some (.inr 179), some (.inl (V 1 0)), some (.inl i), some (.inl (j - 1)), none, none, none] [] (G, 0, 0) σ1 := by
        intro hn
        refine ih (j - 1) σ1 f1 o1 ?_ (by omega) (by omega) (by omega)
        rcases i1 with ⟨a1, a2⟩ | ⟨a1, a2, a3, a4, a5, a6⟩
        · refine Or.inl ⟨a1, fun k k0 k1 hg => ?_⟩
          by_cases e : k = j
          · rw [e] at hg ⊢
            rcases (show σ1 195 j < 0 ∨ 0 ≤ σ1 195 j by omega) with q | q
            · exact q
            · exact absurd ⟨q, hg⟩ hn
          · exact a2 k (by omega) k1 hg
        · refine Or.inr ⟨a1, ⟨by omega, a2.2⟩, a3, a4, a5, fun k k0 k1 hg hk => ?_⟩
          by_cases e : k = j
          · rw [e] at hg hk
            exact absurd ⟨hk, hg⟩ hn
          · exact a6 k (by omega) k1 hg hk
      by_cases cb : 0 ≤ σ1 195 j
      case neg =>
        have sk := skip (fun q => cb q.1)
        refine blk_at (tok_8_divides X) 1000 rfl ?_
        simp (maxSteps := 4000000) only [blk_s, blk_z, a_const, a_iload, a_aload, a_istore, a_astore, a_iinc, a_add, a_sub, a_mul, a_div, a_rem, a_dup, a_dup2, a_goto, a_ifnull, a_tsw, a_gi, a_gr, a_pi, a_ald, a_sld, a_ast, a_aald, a_len, a_gst, a_copy, a_max, a_min, a_iret, a_zret, a_aret, a_ret, a_cv, a_cn, a_sv, a_sn, icmp_t, icmp_f, aif_t, aif_f, lget, lset, fget, rget, apop, isO, Kv, Kn, fitb0, cmp, swl, InR, up, cpy, ↓reduceIte, if_true, if_false, Nat.left_eq_add, Nat.add_eq_left, Nat.add_left_cancel_iff, Nat.reduceEqDiff, Nat.zero_le, true_and, and_true, true_or, or_true, or_self, not_true_eq_false, not_false_eq_true, false_and, and_false, false_implies, true_implies, forall_const, ne_eq, Decidable.not_not, List.length_cons, List.length_nil, reduceCtorEq, Int.toNat_zero, Int.toNat_one, Int.cast_ofNat_Int, Nat.reduceAdd, Nat.reduceSub, Nat.reduceMul, Nat.reduceLT, Nat.reduceLeDiff, Nat.reduceEqDiff, Int.reduceAdd, Int.reduceSub, Int.reduceMul, Int.reduceNeg, Int.reduceLT, Int.reduceLE, Int.reduceEq, Int.reduceNe, Int.reduceToNat, t_8_divides X, sxM hG, show ¬ (j ≤ i) by omega, show σ1 195 j < 0 by omega]
        repeat (simp only [icmp_b, aif_b, cmp]; simp (maxSteps := 4000000) only [blk_s, blk_z, a_const, a_iload, a_aload, a_istore, a_astore, a_iinc, a_add, a_sub, a_mul, a_div, a_rem, a_dup, a_dup2, a_goto, a_ifnull, a_tsw, a_gi, a_gr, a_pi, a_ald, a_sld, a_ast, a_aald, a_len, a_gst, a_copy, a_max, a_min, a_iret, a_zret, a_aret, a_ret, a_cv, a_cn, a_sv, a_sn, icmp_t, icmp_f, aif_t, aif_f, lget, lset, fget, rget, apop, isO, Kv, Kn, fitb0, cmp, swl, InR, up, cpy, ↓reduceIte, if_true, if_false, Nat.left_eq_add, Nat.add_eq_left, Nat.add_left_cancel_iff, Nat.reduceEqDiff, Nat.zero_le, true_and, and_true, true_or, or_true, or_self, not_true_eq_false, not_false_eq_true, false_and, and_false, false_implies, true_implies, forall_const, ne_eq, Decidable.not_not, List.length_cons, List.length_nil, reduceCtorEq, Int.toNat_zero, Int.toNat_one, Int.cast_ofNat_Int, Nat.reduceAdd, Nat.reduceSub, Nat.reduceMul, Nat.reduceLT, Nat.reduceLeDiff, Nat.reduceEqDiff, Int.reduceAdd, Int.reduceSub, Int.reduceMul, Int.reduceNeg, Int.reduceLT, Int.reduceLE, Int.reduceEq, Int.reduceNe, Int.reduceToNat, t_8_divides X, sxM hG, show ¬ (j ≤ i) by omega, show σ1 195 j < 0 by omega])
        repeat' (first | assumption | with_reducible apply And.intro | with_reducible intro _)
        all_goals (try omega)
      refine blk_at (tok_8_divides X) 1000 rfl ?_
      simp (maxSteps := 4000000) only [blk_s, blk_z, a_const, a_iload, a_aload, a_istore, a_astore, a_iinc, a_add, a_sub, a_mul, a_div, a_rem, a_dup, a_dup2, a_goto, a_ifnull, a_tsw, a_gi, a_gr, a_pi, a_ald, a_sld, a_ast, a_aald, a_len, a_gst, a_copy, a_max, a_min, a_iret, a_zret, a_aret, a_ret, a_cv, a_cn, a_sv, a_sn, icmp_t, icmp_f, aif_t, aif_f, lget, lset, fget, rget, apop, isO, Kv, Kn, fitb0, cmp, swl, InR, up, cpy, ↓reduceIte, if_true, if_false, Nat.left_eq_add, Nat.add_eq_left, Nat.add_left_cancel_iff, Nat.reduceEqDiff, Nat.zero_le, true_and, and_true, true_or, or_true, or_self, not_true_eq_false, not_false_eq_true, false_and, and_false, false_implies, true_implies, forall_const, ne_eq, Decidable.not_not, List.length_cons, List.length_nil, reduceCtorEq, Int.toNat_zero, Int.toNat_one, Int.cast_ofNat_Int, Nat.reduceAdd, Nat.reduceSub, Nat.reduceMul, Nat.reduceLT, Nat.reduceLeDiff, Nat.reduceEqDiff, Int.reduceAdd, Int.reduceSub, Int.reduceMul, Int.reduceNeg, Int.reduceLT, Int.reduceLE, Int.reduceEq, Int.reduceNe, Int.reduceToNat, t_8_divides X, sxM hG, show ¬ (j ≤ i) by omega, show ¬ (σ1 195 j < 0) by omega]
      repeat (simp only [icmp_b, aif_b, cmp]; simp (maxSteps := 4000000) only [blk_s, blk_z, a_const, a_iload, a_aload, a_istore, a_astore, a_iinc, a_add, a_sub, a_mul, a_div, a_rem, a_dup, a_dup2, a_goto, a_ifnull, a_tsw, a_gi, a_gr, a_pi, a_ald, a_sld, a_ast, a_aald, a_len, a_gst, a_copy, a_max, a_min, a_iret, a_zret, a_aret, a_ret, a_cv, a_cn, a_sv, a_sn, icmp_t, icmp_f, aif_t, aif_f, lget, lset, fget, rget, apop, isO, Kv, Kn, fitb0, cmp, swl, InR, up, cpy, ↓reduceIte, if_true, if_false, Nat.left_eq_add, Nat.add_eq_left, Nat.add_left_cancel_iff, Nat.reduceEqDiff, Nat.zero_le, true_and, and_true, true_or, or_true, or_self, not_true_eq_false, not_false_eq_true, false_and, and_false, false_implies, true_implies, forall_const, ne_eq, Decidable.not_not, List.length_cons, List.length_nil, reduceCtorEq, Int.toNat_zero, Int.toNat_one, Int.cast_ofNat_Int, Nat.reduceAdd, Nat.reduceSub, Nat.reduceMul, Nat.reduceLT, Nat.reduceLeDiff, Nat.reduceEqDiff, Int.reduceAdd, Int.reduceSub, Int.reduceMul, Int.reduceNeg, Int.reduceLT, Int.reduceLE, Int.reduceEq, Int.reduceNe, Int.reduceToNat, t_8_divides X, sxM hG, show ¬ (j ≤ i) by omega, show ¬ (σ1 195 j < 0) by omega])
      repeat' (first | assumption | with_reducible apply And.intro | with_reducible intro _)
      all_goals (try omega)
      refine mm_isGroup hG hV hM1 (by omega) j1 (fun hg => ?_) (fun hg => ?_)
      case refine_2 =>
        have sk := skip (fun q => hg q.2)
        simp (maxSteps := 4000000) only [blk_s, blk_z, a_const, a_iload, a_aload, a_istore, a_astore, a_iinc, a_add, a_sub, a_mul, a_div, a_rem, a_dup, a_dup2, a_goto, a_ifnull, a_tsw, a_gi, a_gr, a_pi, a_ald, a_sld, a_ast, a_aald, a_len, a_gst, a_copy, a_max, a_min, a_iret, a_zret, a_aret, a_ret, a_cv, a_cn, a_sv, a_sn, icmp_t, icmp_f, aif_t, aif_f, lget, lset, fget, rget, apop, isO, Kv, Kn, fitb0, cmp, swl, InR, up, cpy, ↓reduceIte, if_true, if_false, Nat.left_eq_add, Nat.add_eq_left, Nat.add_left_cancel_iff, Nat.reduceEqDiff, Nat.zero_le, true_and, and_true, true_or, or_true, or_self, not_true_eq_false, not_false_eq_true, false_and, and_false, false_implies, true_implies, forall_const, ne_eq, Decidable.not_not, List.length_cons, List.length_nil, reduceCtorEq, Int.toNat_zero, Int.toNat_one, Int.cast_ofNat_Int, Nat.reduceAdd, Nat.reduceSub, Nat.reduceMul, Nat.reduceLT, Nat.reduceLeDiff, Nat.reduceEqDiff, Int.reduceAdd, Int.reduceSub, Int.reduceMul, Int.reduceNeg, Int.reduceLT, Int.reduceLE, Int.reduceEq, Int.reduceNe, Int.reduceToNat, t_8_divides X]
        repeat (simp only [icmp_b, aif_b, cmp]; simp (maxSteps := 4000000) only [blk_s, blk_z, a_const, a_iload, a_aload, a_istore, a_astore, a_iinc, a_add, a_sub, a_mul, a_div, a_rem, a_dup, a_dup2, a_goto, a_ifnull, a_tsw, a_gi, a_gr, a_pi, a_ald, a_sld, a_ast, a_aald, a_len, a_gst, a_copy, a_max, a_min, a_iret, a_zret, a_aret, a_ret, a_cv, a_cn, a_sv, a_sn, icmp_t, icmp_f, aif_t, aif_f, lget, lset, fget, rget, apop, isO, Kv, Kn, fitb0, cmp, swl, InR, up, cpy, ↓reduceIte, if_true, if_false, Nat.left_eq_add, Nat.add_eq_left, Nat.add_left_cancel_iff, Nat.reduceEqDiff, Nat.zero_le, true_and, and_true, true_or, or_true, or_self, not_true_eq_false, not_false_eq_true, false_and, and_false, false_implies, true_implies, forall_const, ne_eq, Decidable.not_not, List.length_cons, List.length_nil, reduceCtorEq, Int.toNat_zero, Int.toNat_one, Int.cast_ofNat_Int, Nat.reduceAdd, Nat.reduceSub, Nat.reduceMul, Nat.reduceLT, Nat.reduceLeDiff, Nat.reduceEqDiff, Int.reduceAdd, Int.reduceSub, Int.reduceMul, Int.reduceNeg, Int.reduceLT, Int.reduceLE, Int.reduceEq, Int.reduceNe, Int.reduceToNat, t_8_divides X])
        repeat' (first | assumption | with_reducible apply And.intro | with_reducible intro _)
        all_goals (try omega)
      obtain ⟨g1, g2, g3⟩ := gVal_m hV hi.1 (show i < j by omega) j1 hg
      obtain ⟨-, -, x0⟩ := gR_b hV hi.1 (Or.inl rfl) (show i < j by omega) j1
      obtain ⟨-, -, x1⟩ := gR_b hV hi.1 (Or.inr rfl) (show i < j by omega) j1
      have tot : 0 ≤ σ1 195 j + gVal V i j ∧ σ1 195 j + gVal V i j ≤ 7200 * (V 1 0 - i) := by omega
      have ne : σ1 195 i = -4 ∨ 0 ≤ σ1 195 i ∧ σ1 195 i ≤ 7200 * 20 := by
        rcases i1 with ⟨a1, -⟩ | ⟨a1, -⟩
        · exact Or.inl a1
        · right; omega
      have put : (σ1 195 i < 0 ∨ σ1 195 j + gVal V i j < σ1 195 i) → ∀ x y z : Int, WPc X M_8_divides Q 39 [some (.inr 179), some (.inl (V 1 0)), some (.inl i), some (.inl (j - 1)), some (.inl x), some (.inl y), some (.inl z)] [] (G, 0, 0) (up (up σ1 195 i (σ1 195 j + gVal V i j)) 196 i j) := by
        intro hc x y z
        obtain ⟨⟨u1, u2⟩, ⟨u3, u4⟩, u5⟩ := up195 σ1 i (σ1 195 j + gVal V i j) j
        refine WPc_L (L' := [some (.inr 179), some (.inl (V 1 0)), some (.inl i), some (.inl (j - 1)), none, none, none]) (lsub_c (lsub_c (lsub_c (lsub_c (lsub_n (lsub_n (lsub_n lsub_r))))))) (ih (j - 1) _ (fun a a1 a2 => by rw [u5 a a1 a2, f1 a a1 a2]) (oi_c hi o1 u2 u4) (Or.inr ?_) (by omega) (by omega) (by omega))
        rw [u1, u3]
        have uj := u2 j (by omega)
        refine ⟨tot, ⟨by omega, j1⟩, hg, by rw [uj]; exact cb, by rw [uj], fun k k0 k1 hgk hk => ?_⟩
        rw [u2 k (by omega)] at hk ⊢
        by_cases e : k = j
        · rw [e]
          exact ⟨Int.le_refl _, fun q => by omega⟩
        · rcases i1 with ⟨a1, a2⟩ | ⟨a1, a2, a3, a4, a5, a6⟩
          · exact absurd (a2 k (by omega) k1 hgk) (by omega)
          · have := (a6 k (by omega) k1 hgk hk).1
            exact ⟨by omega, fun _ => by omega⟩
      have keep : ¬ (σ1 195 i < 0) → ¬ (σ1 195 j + gVal V i j < σ1 195 i) → ∀ x y z : Int, WPc X M_8_divides Q 39 [some (.inr 179), some (.inl (V 1 0)), some (.inl i), some (.inl (j - 1)), some (.inl x), some (.inl y), some (.inl z)] [] (G, 0, 0) σ1 := by
        intro hc1 hc2 x y z
        refine WPc_L (L' := [some (.inr 179), some (.inl (V 1 0)), some (.inl i), some (.inl (j - 1)), none, none, none]) (lsub_c (lsub_c (lsub_c (lsub_c (lsub_n (lsub_n (lsub_n lsub_r))))))) (ih (j - 1) σ1 f1 o1 ?_ (by omega) (by omega) (by omega))
        rcases i1 with ⟨a1, a2⟩ | ⟨a1, a2, a3, a4, a5, a6⟩
        · omega
        · refine Or.inr ⟨a1, ⟨by omega, a2.2⟩, a3, a4, a5, fun k k0 k1 hgk hk => ?_⟩
          by_cases e : k = j
          · subst e
            exact ⟨by omega, fun q => by omega⟩
          · exact a6 k (by omega) k1 hgk hk
      simp (maxSteps := 4000000) only [blk_s, blk_z, a_const, a_iload, a_aload, a_istore, a_astore, a_iinc, a_add, a_sub, a_mul, a_div, a_rem, a_dup, a_dup2, a_goto, a_ifnull, a_tsw, a_gi, a_gr, a_pi, a_ald, a_sld, a_ast, a_aald, a_len, a_gst, a_copy, a_max, a_min, a_iret, a_zret, a_aret, a_ret, a_cv, a_cn, a_sv, a_sn, icmp_t, icmp_f, aif_t, aif_f, lget, lset, fget, rget, apop, isO, Kv, Kn, fitb0, cmp, swl, InR, up, cpy, ↓reduceIte, if_true, if_false, Nat.left_eq_add, Nat.add_eq_left, Nat.add_left_cancel_iff, Nat.reduceEqDiff, Nat.zero_le, true_and, and_true, true_or, or_true, or_self, not_true_eq_false, not_false_eq_true, false_and, and_false, false_implies, true_implies, forall_const, ne_eq, Decidable.not_not, List.length_cons, List.length_nil, reduceCtorEq, Int.toNat_zero, Int.toNat_one, Int.cast_ofNat_Int, Nat.reduceAdd, Nat.reduceSub, Nat.reduceMul, Nat.reduceLT, Nat.reduceLeDiff, Nat.reduceEqDiff, Int.reduceAdd, Int.reduceSub, Int.reduceMul, Int.reduceNeg, Int.reduceLT, Int.reduceLE, Int.reduceEq, Int.reduceNe, Int.reduceToNat, t_8_divides X, sxM hG, m81]
      repeat (simp only [icmp_b, aif_b, cmp]; simp (maxSteps := 4000000) only [blk_s, blk_z, a_const, a_iload, a_aload, a_istore, a_astore, a_iinc, a_add, a_sub, a_mul, a_div, a_rem, a_dup, a_dup2, a_goto, a_ifnull, a_tsw, a_gi, a_gr, a_pi, a_ald, a_sld, a_ast, a_aald, a_len, a_gst, a_copy, a_max, a_min, a_iret, a_zret, a_aret, a_ret, a_cv, a_cn, a_sv, a_sn, icmp_t, icmp_f, aif_t, aif_f, lget, lset, fget, rget, apop, isO, Kv, Kn, fitb0, cmp, swl, InR, up, cpy, ↓reduceIte, if_true, if_false, Nat.left_eq_add, Nat.add_eq_left, Nat.add_left_cancel_iff, Nat.reduceEqDiff, Nat.zero_le, true_and, and_true, true_or, or_true, or_self, not_true_eq_false, not_false_eq_true, false_and, and_false, false_implies, true_implies, forall_const, ne_eq, Decidable.not_not, List.length_cons, List.length_nil, reduceCtorEq, Int.toNat_zero, Int.toNat_one, Int.cast_ofNat_Int, Nat.reduceAdd, Nat.reduceSub, Nat.reduceMul, Nat.reduceLT, Nat.reduceLeDiff, Nat.reduceEqDiff, Int.reduceAdd, Int.reduceSub, Int.reduceMul, Int.reduceNeg, Int.reduceLT, Int.reduceLE, Int.reduceEq, Int.reduceNe, Int.reduceToNat, t_8_divides X, sxM hG, m81])
      repeat' (first | assumption | with_reducible apply And.intro | with_reducible intro _)
      all_goals (try omega)
      refine mm_rowsOfGroup hG hV hM1 (Or.inl rfl) (by omega) j1 ?_
      simp (maxSteps := 4000000) only [blk_s, blk_z, a_const, a_iload, a_aload, a_istore, a_astore, a_iinc, a_add, a_sub, a_mul, a_div, a_rem, a_dup, a_dup2, a_goto, a_ifnull, a_tsw, a_gi, a_gr, a_pi, a_ald, a_sld, a_ast, a_aald, a_len, a_gst, a_copy, a_max, a_min, a_iret, a_zret, a_aret, a_ret, a_cv, a_cn, a_sv, a_sn, icmp_t, icmp_f, aif_t, aif_f, lget, lset, fget, rget, apop, isO, Kv, Kn, fitb0, cmp, swl, InR, up, cpy, ↓reduceIte, if_true, if_false, Nat.left_eq_add, Nat.add_eq_left, Nat.add_left_cancel_iff, Nat.reduceEqDiff, Nat.zero_le, true_and, and_true, true_or, or_true, or_self, not_true_eq_false, not_false_eq_true, false_and, and_false, false_implies, true_implies, forall_const, ne_eq, Decidable.not_not, List.length_cons, List.length_nil, reduceCtorEq, Int.toNat_zero, Int.toNat_one, Int.cast_ofNat_Int, Nat.reduceAdd, Nat.reduceSub, Nat.reduceMul, Nat.reduceLT, Nat.reduceLeDiff, Nat.reduceEqDiff, Int.reduceAdd, Int.reduceSub, Int.reduceMul, Int.reduceNeg, Int.reduceLT, Int.reduceLE, Int.reduceEq, Int.reduceNe, Int.reduceToNat, t_8_divides X, sxM hG, m81]
      repeat (simp only [icmp_b, aif_b, cmp]; simp (maxSteps := 4000000) only [blk_s, blk_z, a_const, a_iload, a_aload, a_istore, a_astore, a_iinc, a_add, a_sub, a_mul, a_div, a_rem, a_dup, a_dup2, a_goto, a_ifnull, a_tsw, a_gi, a_gr, a_pi, a_ald, a_sld, a_ast, a_aald, a_len, a_gst, a_copy, a_max, a_min, a_iret, a_zret, a_aret, a_ret, a_cv, a_cn, a_sv, a_sn, icmp_t, icmp_f, aif_t, aif_f, lget, lset, fget, rget, apop, isO, Kv, Kn, fitb0, cmp, swl, InR, up, cpy, ↓reduceIte, if_true, if_false, Nat.left_eq_add, Nat.add_eq_left, Nat.add_left_cancel_iff, Nat.reduceEqDiff, Nat.zero_le, true_and, and_true, true_or, or_true, or_self, not_true_eq_false, not_false_eq_true, false_and, and_false, false_implies, true_implies, forall_const, ne_eq, Decidable.not_not, List.length_cons, List.length_nil, reduceCtorEq, Int.toNat_zero, Int.toNat_one, Int.cast_ofNat_Int, Nat.reduceAdd, Nat.reduceSub, Nat.reduceMul, Nat.reduceLT, Nat.reduceLeDiff, Nat.reduceEqDiff, Int.reduceAdd, Int.reduceSub, Int.reduceMul, Int.reduceNeg, Int.reduceLT, Int.reduceLE, Int.reduceEq, Int.reduceNe, Int.reduceToNat, t_8_divides X, sxM hG, m81])
      repeat' (first | assumption | with_reducible apply And.intro | with_reducible intro _)
      all_goals (try omega)
      refine mm_rowsOfGroup hG hV hM1 (Or.inr rfl) (by omega) j1 ?_
      have o10 := o1.1
      by_cases cj : j = V 1 0
      · subst cj
        have ev : gVal V i (V 1 0) = 0 := if_neg (by omega)
        rw [ev] at put keep tot
        by_cases ci : σ1 195 i < 0
        · have pt := put (Or.inl ci) (V 17 0 - gR V i 0 (V 1 0)) (V 17 0 - gR V i 1 (V 1 0)) (σ1 195 (V 1 0) + 0)
          simp (maxSteps := 4000000) only [blk_s, blk_z, a_const, a_iload, a_aload, a_istore, a_astore, a_iinc, a_add, a_sub, a_mul, a_div, a_rem, a_dup, a_dup2, a_goto, a_ifnull, a_tsw, a_gi, a_gr, a_pi, a_ald, a_sld, a_ast, a_aald, a_len, a_gst, a_copy, a_max, a_min, a_iret, a_zret, a_aret, a_ret, a_cv, a_cn, a_sv, a_sn, icmp_t, icmp_f, aif_t, aif_f, lget, lset, fget, rget, apop, isO, Kv, Kn, fitb0, cmp, swl, InR, up, cpy, ↓reduceIte, if_true, if_false, Nat.left_eq_add, Nat.add_eq_left, Nat.add_left_cancel_iff, Nat.reduceEqDiff, Nat.zero_le, true_and, and_true, true_or, or_true, or_self, not_true_eq_false, not_false_eq_true, false_and, and_false, false_implies, true_implies, forall_const, ne_eq, Decidable.not_not, List.length_cons, List.length_nil, reduceCtorEq, Int.toNat_zero, Int.toNat_one, Int.cast_ofNat_Int, Nat.reduceAdd, Nat.reduceSub, Nat.reduceMul, Nat.reduceLT, Nat.reduceLeDiff, Nat.reduceEqDiff, Int.reduceAdd, Int.reduceSub, Int.reduceMul, Int.reduceNeg, Int.reduceLT, Int.reduceLE, Int.reduceEq, Int.reduceNe, Int.reduceToNat, t_8_divides X, sxM hG, ci]
          repeat (simp only [icmp_b, aif_b, cmp]; simp (maxSteps := 4000000) only [blk_s, blk_z, a_const, a_iload, a_aload, a_istore, a_astore, a_iinc, a_add, a_sub, a_mul, a_div, a_rem, a_dup, a_dup2, a_goto, a_ifnull, a_tsw, a_gi, a_gr, a_pi, a_ald, a_sld, a_ast, a_aald, a_len, a_gst, a_copy, a_max, a_min, a_iret, a_zret, a_aret, a_ret, a_cv, a_cn, a_sv, a_sn, icmp_t, icmp_f, aif_t, aif_f, lget, lset, fget, rget, apop, isO, Kv, Kn, fitb0, cmp, swl, InR, up, cpy, ↓reduceIte, if_true, if_false, Nat.left_eq_add, Nat.add_eq_left, Nat.add_left_cancel_iff, Nat.reduceEqDiff, Nat.zero_le, true_and, and_true, true_or, or_true, or_self, not_true_eq_false, not_false_eq_true, false_and, and_false, false_implies, true_implies, forall_const, ne_eq, Decidable.not_not, List.length_cons, List.length_nil, reduceCtorEq, Int.toNat_zero, Int.toNat_one, Int.cast_ofNat_Int, Nat.reduceAdd, Nat.reduceSub, Nat.reduceMul, Nat.reduceLT, Nat.reduceLeDiff, Nat.reduceEqDiff, Int.reduceAdd, Int.reduceSub, Int.reduceMul, Int.reduceNeg, Int.reduceLT, Int.reduceLE, Int.reduceEq, Int.reduceNe, Int.reduceToNat, t_8_divides X, sxM hG, ci])
          repeat' (first | assumption | with_reducible apply And.intro | with_reducible intro _)
          all_goals (try omega)
        · by_cases cl : σ1 195 (V 1 0) + 0 < σ1 195 i
          · have pt := put (Or.inr cl) (V 17 0 - gR V i 0 (V 1 0)) (V 17 0 - gR V i 1 (V 1 0)) (σ1 195 (V 1 0) + 0)
            simp (maxSteps := 4000000) only [blk_s, blk_z, a_const, a_iload, a_aload, a_istore, a_astore, a_iinc, a_add, a_sub, a_mul, a_div, a_rem, a_dup, a_dup2, a_goto, a_ifnull, a_tsw, a_gi, a_gr, a_pi, a_ald, a_sld, a_ast, a_aald, a_len, a_gst, a_copy, a_max, a_min, a_iret, a_zret, a_aret, a_ret, a_cv, a_cn, a_sv, a_sn, icmp_t, icmp_f, aif_t, aif_f, lget, lset, fget, rget, apop, isO, Kv, Kn, fitb0, cmp, swl, InR, up, cpy, ↓reduceIte, if_true, if_false, Nat.left_eq_add, Nat.add_eq_left, Nat.add_left_cancel_iff, Nat.reduceEqDiff, Nat.zero_le, true_and, and_true, true_or, or_true, or_self, not_true_eq_false, not_false_eq_true, false_and, and_false, false_implies, true_implies, forall_const, ne_eq, Decidable.not_not, List.length_cons, List.length_nil, reduceCtorEq, Int.toNat_zero, Int.toNat_one, Int.cast_ofNat_Int, Nat.reduceAdd, Nat.reduceSub, Nat.reduceMul, Nat.reduceLT, Nat.reduceLeDiff, Nat.reduceEqDiff, Int.reduceAdd, Int.reduceSub, Int.reduceMul, Int.reduceNeg, Int.reduceLT, Int.reduceLE, Int.reduceEq, Int.reduceNe, Int.reduceToNat, t_8_divides X, sxM hG, ci, show ¬ (σ1 195 i ≤ σ1 195 (V 1 0) + 0) by omega]
            repeat (simp only [icmp_b, aif_b, cmp]; simp (maxSteps := 4000000) only [blk_s, blk_z, a_const, a_iload, a_aload, a_istore, a_astore, a_iinc, a_add, a_sub, a_mul, a_div, a_rem, a_dup, a_dup2, a_goto, a_ifnull, a_tsw, a_gi, a_gr, a_pi, a_ald, a_sld, a_ast, a_aald, a_len, a_gst, a_copy, a_max, a_min, a_iret, a_zret, a_aret, a_ret, a_cv, a_cn, a_sv, a_sn, icmp_t, icmp_f, aif_t, aif_f, lget, lset, fget, rget, apop, isO, Kv, Kn, fitb0, cmp, swl, InR, up, cpy, ↓reduceIte, if_true, if_false, Nat.left_eq_add, Nat.add_eq_left, Nat.add_left_cancel_iff, Nat.reduceEqDiff, Nat.zero_le, true_and, and_true, true_or, or_true, or_self, not_true_eq_false, not_false_eq_true, false_and, and_false, false_implies, true_implies, forall_const, ne_eq, Decidable.not_not, List.length_cons, List.length_nil, reduceCtorEq, Int.toNat_zero, Int.toNat_one, Int.cast_ofNat_Int, Nat.reduceAdd, Nat.reduceSub, Nat.reduceMul, Nat.reduceLT, Nat.reduceLeDiff, Nat.reduceEqDiff, Int.reduceAdd, Int.reduceSub, Int.reduceMul, Int.reduceNeg, Int.reduceLT, Int.reduceLE, Int.reduceEq, Int.reduceNe, Int.reduceToNat, t_8_divides X, sxM hG, ci, show ¬ (σ1 195 i ≤ σ1 195 (V 1 0) + 0) by omega])
            repeat' (first | assumption | with_reducible apply And.intro | with_reducible intro _)
            all_goals (try omega)
          · have kp := keep ci cl (V 17 0 - gR V i 0 (V 1 0)) (V 17 0 - gR V i 1 (V 1 0)) (σ1 195 (V 1 0) + 0)
            simp (maxSteps := 4000000) only [blk_s, blk_z, a_const, a_iload, a_aload, a_istore, a_astore, a_iinc, a_add, a_sub, a_mul, a_div, a_rem, a_dup, a_dup2, a_goto, a_ifnull, a_tsw, a_gi, a_gr, a_pi, a_ald, a_sld, a_ast, a_aald, a_len, a_gst, a_copy, a_max, a_min, a_iret, a_zret, a_aret, a_ret, a_cv, a_cn, a_sv, a_sn, icmp_t, icmp_f, aif_t, aif_f, lget, lset, fget, rget, apop, isO, Kv, Kn, fitb0, cmp, swl, InR, up, cpy, ↓reduceIte, if_true, if_false, Nat.left_eq_add, Nat.add_eq_left, Nat.add_left_cancel_iff, Nat.reduceEqDiff, Nat.zero_le, true_and, and_true, true_or, or_true, or_self, not_true_eq_false, not_false_eq_true, false_and, and_false, false_implies, true_implies, forall_const, ne_eq, Decidable.not_not, List.length_cons, List.length_nil, reduceCtorEq, Int.toNat_zero, Int.toNat_one, Int.cast_ofNat_Int, Nat.reduceAdd, Nat.reduceSub, Nat.reduceMul, Nat.reduceLT, Nat.reduceLeDiff, Nat.reduceEqDiff, Int.reduceAdd, Int.reduceSub, Int.reduceMul, Int.reduceNeg, Int.reduceLT, Int.reduceLE, Int.reduceEq, Int.reduceNe, Int.reduceToNat, t_8_divides X, sxM hG, ci, show σ1 195 i ≤ σ1 195 (V 1 0) + 0 by omega]
            repeat (simp only [icmp_b, aif_b, cmp]; simp (maxSteps := 4000000) only [blk_s, blk_z, a_const, a_iload, a_aload, a_istore, a_astore, a_iinc, a_add, a_sub, a_mul, a_div, a_rem, a_dup, a_dup2, a_goto, a_ifnull, a_tsw, a_gi, a_gr, a_pi, a_ald, a_sld, a_ast, a_aald, a_len, a_gst, a_copy, a_max, a_min, a_iret, a_zret, a_aret, a_ret, a_cv, a_cn, a_sv, a_sn, icmp_t, icmp_f, aif_t, aif_f, lget, lset, fget, rget, apop, isO, Kv, Kn, fitb0, cmp, swl, InR, up, cpy, ↓reduceIte, if_true, if_false, Nat.left_eq_add, Nat.add_eq_left, Nat.add_left_cancel_iff, Nat.reduceEqDiff, Nat.zero_le, true_and, and_true, true_or, or_true, or_self, not_true_eq_false, not_false_eq_true, false_and, and_false, false_implies, true_implies, forall_const, ne_eq, Decidable.not_not, List.length_cons, List.length_nil, reduceCtorEq, Int.toNat_zero, Int.toNat_one, Int.cast_ofNat_Int, Nat.reduceAdd, Nat.reduceSub, Nat.reduceMul, Nat.reduceLT, Nat.reduceLeDiff, Nat.reduceEqDiff, Int.reduceAdd, Int.reduceSub, Int.reduceMul, Int.reduceNeg, Int.reduceLT, Int.reduceLE, Int.reduceEq, Int.reduceNe, Int.reduceToNat, t_8_divides X, sxM hG, ci, show σ1 195 i ≤ σ1 195 (V 1 0) + 0 by omega])
            repeat' (first | assumption | with_reducible apply And.intro | with_reducible intro _)
            all_goals (try omega)
      · have ev : gVal V i j = (V 17 0 - gR V i 0 j) * (V 17 0 - gR V i 0 j) + (V 17 0 - gR V i 1 j) * (V 17 0 - gR V i 1 j) := if_pos (by omega)
        rw [ev] at put keep tot
        obtain ⟨A, hA⟩ : ∃ A, V 17 0 - gR V i 0 j = A := ⟨_, rfl⟩
        obtain ⟨B, hB⟩ : ∃ B, V 17 0 - gR V i 1 j = B := ⟨_, rfl⟩
        rw [hA] at put keep tot g2
        rw [hB] at put keep tot g3
        by_cases ci : σ1 195 i < 0
        · have pt := put (Or.inl ci) A B (σ1 195 j + (A * A + B * B))
          simp (maxSteps := 4000000) only [blk_s, blk_z, a_const, a_iload, a_aload, a_istore, a_astore, a_iinc, a_add, a_sub, a_mul, a_div, a_rem, a_dup, a_dup2, a_goto, a_ifnull, a_tsw, a_gi, a_gr, a_pi, a_ald, a_sld, a_ast, a_aald, a_len, a_gst, a_copy, a_max, a_min, a_iret, a_zret, a_aret, a_ret, a_cv, a_cn, a_sv, a_sn, icmp_t, icmp_f, aif_t, aif_f, lget, lset, fget, rget, apop, isO, Kv, Kn, fitb0, cmp, swl, InR, up, cpy, ↓reduceIte, if_true, if_false, Nat.left_eq_add, Nat.add_eq_left, Nat.add_left_cancel_iff, Nat.reduceEqDiff, Nat.zero_le, true_and, and_true, true_or, or_true, or_self, not_true_eq_false, not_false_eq_true, false_and, and_false, false_implies, true_implies, forall_const, ne_eq, Decidable.not_not, List.length_cons, List.length_nil, reduceCtorEq, Int.toNat_zero, Int.toNat_one, Int.cast_ofNat_Int, Nat.reduceAdd, Nat.reduceSub, Nat.reduceMul, Nat.reduceLT, Nat.reduceLeDiff, Nat.reduceEqDiff, Int.reduceAdd, Int.reduceSub, Int.reduceMul, Int.reduceNeg, Int.reduceLT, Int.reduceLE, Int.reduceEq, Int.reduceNe, Int.reduceToNat, t_8_divides X, sxM hG, cj, ci, hA, hB]
          repeat (simp only [icmp_b, aif_b, cmp]; simp (maxSteps := 4000000) only [blk_s, blk_z, a_const, a_iload, a_aload, a_istore, a_astore, a_iinc, a_add, a_sub, a_mul, a_div, a_rem, a_dup, a_dup2, a_goto, a_ifnull, a_tsw, a_gi, a_gr, a_pi, a_ald, a_sld, a_ast, a_aald, a_len, a_gst, a_copy, a_max, a_min, a_iret, a_zret, a_aret, a_ret, a_cv, a_cn, a_sv, a_sn, icmp_t, icmp_f, aif_t, aif_f, lget, lset, fget, rget, apop, isO, Kv, Kn, fitb0, cmp, swl, InR, up, cpy, ↓reduceIte, if_true, if_false, Nat.left_eq_add, Nat.add_eq_left, Nat.add_left_cancel_iff, Nat.reduceEqDiff, Nat.zero_le, true_and, and_true, true_or, or_true, or_self, not_true_eq_false, not_false_eq_true, false_and, and_false, false_implies, true_implies, forall_const, ne_eq, Decidable.not_not, List.length_cons, List.length_nil, reduceCtorEq, Int.toNat_zero, Int.toNat_one, Int.cast_ofNat_Int, Nat.reduceAdd, Nat.reduceSub, Nat.reduceMul, Nat.reduceLT, Nat.reduceLeDiff, Nat.reduceEqDiff, Int.reduceAdd, Int.reduceSub, Int.reduceMul, Int.reduceNeg, Int.reduceLT, Int.reduceLE, Int.reduceEq, Int.reduceNe, Int.reduceToNat, t_8_divides X, sxM hG, cj, ci, hA, hB])
          repeat' (first | assumption | with_reducible apply And.intro | with_reducible intro _)
          all_goals (try omega)
        · by_cases cl : σ1 195 j + (A * A + B * B) < σ1 195 i
          · have pt := put (Or.inr cl) A B (σ1 195 j + (A * A + B * B))
            simp (maxSteps := 4000000) only [blk_s, blk_z, a_const, a_iload, a_aload, a_istore, a_astore, a_iinc, a_add, a_sub, a_mul, a_div, a_rem, a_dup, a_dup2, a_goto, a_ifnull, a_tsw, a_gi, a_gr, a_pi, a_ald, a_sld, a_ast, a_aald, a_len, a_gst, a_copy, a_max, a_min, a_iret, a_zret, a_aret, a_ret, a_cv, a_cn, a_sv, a_sn, icmp_t, icmp_f, aif_t, aif_f, lget, lset, fget, rget, apop, isO, Kv, Kn, fitb0, cmp, swl, InR, up, cpy, ↓reduceIte, if_true, if_false, Nat.left_eq_add, Nat.add_eq_left, Nat.add_left_cancel_iff, Nat.reduceEqDiff, Nat.zero_le, true_and, and_true, true_or, or_true, or_self, not_true_eq_false, not_false_eq_true, false_and, and_false, false_implies, true_implies, forall_const, ne_eq, Decidable.not_not, List.length_cons, List.length_nil, reduceCtorEq, Int.toNat_zero, Int.toNat_one, Int.cast_ofNat_Int, Nat.reduceAdd, Nat.reduceSub, Nat.reduceMul, Nat.reduceLT, Nat.reduceLeDiff, Nat.reduceEqDiff, Int.reduceAdd, Int.reduceSub, Int.reduceMul, Int.reduceNeg, Int.reduceLT, Int.reduceLE, Int.reduceEq, Int.reduceNe, Int.reduceToNat, t_8_divides X, sxM hG, cj, ci, hA, hB, show ¬ (σ1 195 i ≤ σ1 195 j + (A * A + B * B)) by omega]
            repeat (simp only [icmp_b, aif_b, cmp]; simp (maxSteps := 4000000) only [blk_s, blk_z, a_const, a_iload, a_aload, a_istore, a_astore, a_iinc, a_add, a_sub, a_mul, a_div, a_rem, a_dup, a_dup2, a_goto, a_ifnull, a_tsw, a_gi, a_gr, a_pi, a_ald, a_sld, a_ast, a_aald, a_len, a_gst, a_copy, a_max, a_min, a_iret, a_zret, a_aret, a_ret, a_cv, a_cn, a_sv, a_sn, icmp_t, icmp_f, aif_t, aif_f, lget, lset, fget, rget, apop, isO, Kv, Kn, fitb0, cmp, swl, InR, up, cpy, ↓reduceIte, if_true, if_false, Nat.left_eq_add, Nat.add_eq_left, Nat.add_left_cancel_iff, Nat.reduceEqDiff, Nat.zero_le, true_and, and_true, true_or, or_true, or_self, not_true_eq_false, not_false_eq_true, false_and, and_false, false_implies, true_implies, forall_const, ne_eq, Decidable.not_not, List.length_cons, List.length_nil, reduceCtorEq, Int.toNat_zero, Int.toNat_one, Int.cast_ofNat_Int, Nat.reduceAdd, Nat.reduceSub, Nat.reduceMul, Nat.reduceLT, Nat.reduceLeDiff, Nat.reduceEqDiff, Int.reduceAdd, Int.reduceSub, Int.reduceMul, Int.reduceNeg, Int.reduceLT, Int.reduceLE, Int.reduceEq, Int.reduceNe, Int.reduceToNat, t_8_divides X, sxM hG, cj, ci, hA, hB, show ¬ (σ1 195 i ≤ σ1 195 j + (A * A + B * B)) by omega])
            repeat' (first | assumption | with_reducible apply And.intro | with_reducible intro _)
            all_goals (try omega)
          · have kp := keep ci cl A B (σ1 195 j + (A * A + B * B))
            simp (maxSteps := 4000000) only [blk_s, blk_z, a_const, a_iload, a_aload, a_istore, a_astore, a_iinc, a_add, a_sub, a_mul, a_div, a_rem, a_dup, a_dup2, a_goto, a_ifnull, a_tsw, a_gi, a_gr, a_pi, a_ald, a_sld, a_ast, a_aald, a_len, a_gst, a_copy, a_max, a_min, a_iret, a_zret, a_aret, a_ret, a_cv, a_cn, a_sv, a_sn, icmp_t, icmp_f, aif_t, aif_f, lget, lset, fget, rget, apop, isO, Kv, Kn, fitb0, cmp, swl, InR, up, cpy, ↓reduceIte, if_true, if_false, Nat.left_eq_add, Nat.add_eq_left, Nat.add_left_cancel_iff, Nat.reduceEqDiff, Nat.zero_le, true_and, and_true, true_or, or_true, or_self, not_true_eq_false, not_false_eq_true, false_and, and_false, false_implies, true_implies, forall_const, ne_eq, Decidable.not_not, List.length_cons, List.length_nil, reduceCtorEq, Int.toNat_zero, Int.toNat_one, Int.cast_ofNat_Int, Nat.reduceAdd, Nat.reduceSub, Nat.reduceMul, Nat.reduceLT, Nat.reduceLeDiff, Nat.reduceEqDiff, Int.reduceAdd, Int.reduceSub, Int.reduceMul, Int.reduceNeg, Int.reduceLT, Int.reduceLE, Int.reduceEq, Int.reduceNe, Int.reduceToNat, t_8_divides X, sxM hG, cj, ci, hA, hB, show σ1 195 i ≤ σ1 195 j + (A * A + B * B) by omega]
            repeat (simp only [icmp_b, aif_b, cmp]; simp (maxSteps := 4000000) only [blk_s, blk_z, a_const, a_iload, a_aload, a_istore, a_astore, a_iinc, a_add, a_sub, a_mul, a_div, a_rem, a_dup, a_dup2, a_goto, a_ifnull, a_tsw, a_gi, a_gr, a_pi, a_ald, a_sld, a_ast, a_aald, a_len, a_gst, a_copy, a_max, a_min, a_iret, a_zret, a_aret, a_ret, a_cv, a_cn, a_sv, a_sn, icmp_t, icmp_f, aif_t, aif_f, lget, lset, fget, rget, apop, isO, Kv, Kn, fitb0, cmp, swl, InR, up, cpy, ↓reduceIte, if_true, if_false, Nat.left_eq_add, Nat.add_eq_left, Nat.add_left_cancel_iff, Nat.reduceEqDiff, Nat.zero_le, true_and, and_true, true_or, or_true, or_self, not_true_eq_false, not_false_eq_true, false_and, and_false, false_implies, true_implies, forall_const, ne_eq, Decidable.not_not, List.length_cons, List.length_nil, reduceCtorEq, Int.toNat_zero, Int.toNat_one, Int.cast_ofNat_Int, Nat.reduceAdd, Nat.reduceSub, Nat.reduceMul, Nat.reduceLT, Nat.reduceLeDiff, Nat.reduceEqDiff, Int.reduceAdd, Int.reduceSub, Int.reduceMul, Int.reduceNeg, Int.reduceLT, Int.reduceLE, Int.reduceEq, Int.reduceNe, Int.reduceToNat, t_8_divides X, sxM hG, cj, ci, hA, hB, show σ1 195 i ≤ σ1 195 j + (A * A + B * B) by omega])
            repeat' (first | assumption | with_reducible apply And.intro | with_reducible intro _)
            all_goals (try omega)
set_option maxRecDepth 40000 in
theorem lp_dv1 (hG : MSh G) {V : Sto} (hV : EdOK V) (hM : MR V σ) (hQ : ∀ σ', FrD σ σ' → OI V (-1) σ' → Q none G σ') :
    ∀ (n : Nat) (i : Int) (σ1 : Sto), FrD σ σ1 → OI V i σ1 → -1 ≤ i → i < V 1 0 → i < n → WPc X M_8_divides Q 25 [some (.inr 179), some (.inl (V 1 0)), some (.inl i), none, none, none, none] [] (G, 0, 0) σ1 := by
  have hn20 := hV.1
  have last : ∀ σ1, FrD σ σ1 → OI V (-1) σ1 → WPc X M_8_divides Q 25 [some (.inr 179), some (.inl (V 1 0)), some (.inl (-1)), none, none, none, none] [] (G, 0, 0) σ1 := by
    intro σ1 f1 o1
    have fin := hQ σ1 f1 o1
    refine blk_at (tok_8_divides X) 1000 rfl ?_
    simp (maxSteps := 4000000) only [blk_s, blk_z, a_const, a_iload, a_aload, a_istore, a_astore, a_iinc, a_add, a_sub, a_mul, a_div, a_rem, a_dup, a_dup2, a_goto, a_ifnull, a_tsw, a_gi, a_gr, a_pi, a_ald, a_sld, a_ast, a_aald, a_len, a_gst, a_copy, a_max, a_min, a_iret, a_zret, a_aret, a_ret, a_cv, a_cn, a_sv, a_sn, icmp_t, icmp_f, aif_t, aif_f, lget, lset, fget, rget, apop, isO, Kv, Kn, fitb0, cmp, swl, InR, up, cpy, ↓reduceIte, if_true, if_false, Nat.left_eq_add, Nat.add_eq_left, Nat.add_left_cancel_iff, Nat.reduceEqDiff, Nat.zero_le, true_and, and_true, true_or, or_true, or_self, not_true_eq_false, not_false_eq_true, false_and, and_false, false_implies, true_implies, forall_const, ne_eq, Decidable.not_not, List.length_cons, List.length_nil, reduceCtorEq, Int.toNat_zero, Int.toNat_one, Int.cast_ofNat_Int, Nat.reduceAdd, Nat.reduceSub, Nat.reduceMul, Nat.reduceLT, Nat.reduceLeDiff, Nat.reduceEqDiff, Int.reduceAdd, Int.reduceSub, Int.reduceMul, Int.reduceNeg, Int.reduceLT, Int.reduceLE, Int.reduceEq, Int.reduceNe, Int.reduceToNat, t_8_divides X, sxM hG]
    repeat (simp only [icmp_b, aif_b, cmp]; simp (maxSteps := 4000000) only [blk_s, blk_z, a_const, a_iload, a_aload, a_istore, a_astore, a_iinc, a_add, a_sub, a_mul, a_div, a_rem, a_dup, a_dup2, a_goto, a_ifnull, a_tsw, a_gi, a_gr, a_pi, a_ald, a_sld, a_ast, a_aald, a_len, a_gst, a_copy, a_max, a_min, a_iret, a_zret, a_aret, a_ret, a_cv, a_cn, a_sv, a_sn, icmp_t, icmp_f, aif_t, aif_f, lget, lset, fget, rget, apop, isO, Kv, Kn, fitb0, cmp, swl, InR, up, cpy, ↓reduceIte, if_true, if_false, Nat.left_eq_add, Nat.add_eq_left, Nat.add_left_cancel_iff, Nat.reduceEqDiff, Nat.zero_le, true_and, and_true, true_or, or_true, or_self, not_true_eq_false, not_false_eq_true, false_and, and_false, false_implies, true_implies, forall_const, ne_eq, Decidable.not_not, List.length_cons, List.length_nil, reduceCtorEq, Int.toNat_zero, Int.toNat_one, Int.cast_ofNat_Int, Nat.reduceAdd, Nat.reduceSub, Nat.reduceMul, Nat.reduceLT, Nat.reduceLeDiff, Nat.reduceEqDiff, Int.reduceAdd, Int.reduceSub, Int.reduceMul, Int.reduceNeg, Int.reduceLT, Int.reduceLE, Int.reduceEq, Int.reduceNe, Int.reduceToNat, t_8_divides X, sxM hG])
    repeat' (first | assumption | with_reducible apply And.intro | with_reducible intro _)
    all_goals (try omega)
  intro n
  induction n with
  | zero =>
    intro i σ1 f1 o1 i0 i1 i2
    rw [show i = -1 by omega] at o1 ⊢
    exact last σ1 f1 o1
  | succ n ih =>
    intro i σ1 f1 o1 i0 i1 i2
    by_cases c : i = -1
    · rw [c] at o1 ⊢
      exact last σ1 f1 o1
    have hM1 : MR V (up σ1 195 i (-4)) := by
      unfold MR
      rw [up_ne (by omega), f1 180 (by omega) (by omega)]
      exact hM
    have f2 : FrD σ (up σ1 195 i (-4)) := fun a a1 a2 => by rw [up_ne a1, f1 a a1 a2]
    have o2 : OI V i (up σ1 195 i (-4)) := oi_c (by omega) o1 (fun k hk => by simp [up, hk]) (fun k hk => by rw [up_ne (by omega)])
    have i2' : II V i (V 1 0) (up σ1 195 i (-4)) := Or.inl ⟨by simp [up], fun k k0 k1 => by omega⟩
    have lp := lp_dv2 (X := X) (Q := Q) (σ := up σ1 195 i (-4)) hG hV hM1 (i := i) (by omega) (fun σ' f' o' => ih (i - 1) σ' (fun a a1 a2 => by rw [f' a a1 a2, f2 a a1 a2]) o' (by omega) (by omega) (by omega)) 30 (V 1 0) _ (fun _ _ _ => rfl) o2 i2' (by omega) (by omega) (by omega)
    refine blk_at (tok_8_divides X) 1000 rfl ?_
    simp (maxSteps := 4000000) only [blk_s, blk_z, a_const, a_iload, a_aload, a_istore, a_astore, a_iinc, a_add, a_sub, a_mul, a_div, a_rem, a_dup, a_dup2, a_goto, a_ifnull, a_tsw, a_gi, a_gr, a_pi, a_ald, a_sld, a_ast, a_aald, a_len, a_gst, a_copy, a_max, a_min, a_iret, a_zret, a_aret, a_ret, a_cv, a_cn, a_sv, a_sn, icmp_t, icmp_f, aif_t, aif_f, lget, lset, fget, rget, apop, isO, Kv, Kn, fitb0, cmp, swl, InR, up, cpy, ↓reduceIte, if_true, if_false, Nat.left_eq_add, Nat.add_eq_left, Nat.add_left_cancel_iff, Nat.reduceEqDiff, Nat.zero_le, true_and, and_true, true_or, or_true, or_self, not_true_eq_false, not_false_eq_true, false_and, and_false, false_implies, true_implies, forall_const, ne_eq, Decidable.not_not, List.length_cons, List.length_nil, reduceCtorEq, Int.toNat_zero, Int.toNat_one, Int.cast_ofNat_Int, Nat.reduceAdd, Nat.reduceSub, Nat.reduceMul, Nat.reduceLT, Nat.reduceLeDiff, Nat.reduceEqDiff, Int.reduceAdd, Int.reduceSub, Int.reduceMul, Int.reduceNeg, Int.reduceLT, Int.reduceLE, Int.reduceEq, Int.reduceNe, Int.reduceToNat, t_8_divides X, sxM hG, show ¬ (i < 0) by omega]
    repeat (simp only [icmp_b, aif_b, cmp]; simp (maxSteps := 4000000) only [blk_s, blk_z, a_const, a_iload, a_aload, a_istore, a_astore, a_iinc, a_add, a_sub, a_mul, a_div, a_rem, a_dup, a_dup2, a_goto, a_ifnull, a_tsw, a_gi, a_gr, a_pi, a_ald, a_sld, a_ast, a_aald, a_len, a_gst, a_copy, a_max, a_min, a_iret, a_zret, a_aret, a_ret, a_cv, a_cn, a_sv, a_sn, icmp_t, icmp_f, aif_t, aif_f, lget, lset, fget, rget, apop, isO, Kv, Kn, fitb0, cmp, swl, InR, up, cpy, ↓reduceIte, if_true, if_false, Nat.left_eq_add, Nat.add_eq_left, Nat.add_left_cancel_iff, Nat.reduceEqDiff, Nat.zero_le, true_and, and_true, true_or, or_true, or_self, not_true_eq_false, not_false_eq_true, false_and, and_false, false_implies, true_implies, forall_const, ne_eq, Decidable.not_not, List.length_cons, List.length_nil, reduceCtorEq, Int.toNat_zero, Int.toNat_one, Int.cast_ofNat_Int, Nat.reduceAdd, Nat.reduceSub, Nat.reduceMul, Nat.reduceLT, Nat.reduceLeDiff, Nat.reduceEqDiff, Int.reduceAdd, Int.reduceSub, Int.reduceMul, Int.reduceNeg, Int.reduceLT, Int.reduceLE, Int.reduceEq, Int.reduceNe, Int.reduceToNat, t_8_divides X, sxM hG, show ¬ (i < 0) by omega])
    repeat' (first | assumption | with_reducible apply And.intro | with_reducible intro _)
    all_goals (try omega)
def DivM (V σ : Sto) : Prop := BT V (cM σ) (σ 196) ∧ ∀ j, 0 ≤ j → j ≤ V 1 0 → σ 195 j = -4 ∨ (0 ≤ σ 195 j ∧ σ 195 j ≤ 7200 * (V 1 0 - j))
set_option maxRecDepth 40000 in
theorem mm_divides (hG : MSh G) {V : Sto} (hV : EdOK V) (hM : MR V σ) (hQ : ∀ σ', FrD σ σ' → DivM V σ' → Q none G σ') : MS X M_8_divides [.inr 179] G σ Q := by
  have hn20 := hV.1
  have m0 : σ 180 0 = V 1 0 := hM.1
  obtain ⟨⟨u1, u2⟩, ⟨u3, u4⟩, u5⟩ := up195 σ (V 1 0) 0 (V 1 0)
  have hM1 : MR V (up (up σ 195 (V 1 0) 0) 196 (V 1 0) (V 1 0)) := by
    unfold MR
    rw [u5 180 (by omega) (by omega)]
    exact hM
  have lp := lp_dv1 (X := X) (Q := Q) (σ := up (up σ 195 (V 1 0) 0) 196 (V 1 0) (V 1 0)) hG hV hM1 (fun σ' f' o' => hQ σ' (fun a a1 a2 => by rw [f' a a1 a2, u5 a a1 a2]) ⟨⟨by rw [cM_v.1 (by rw [o'.1]; omega)]; exact o'.1, fun k k0 k1 => o'.2.2 k (by omega) k0 k1⟩, fun j j0 j1 => o'.2.1 j (by omega) j1 j0⟩) 30 (V 1 0 - 1) _ (fun _ _ _ => rfl) ⟨u1, fun j j0 j1 j2 => by
      have e : j = V 1 0 := by omega
      rw [e, u1]
      right
      omega, fun k k0 k1 k2 => by omega⟩ (by omega) (by omega) (by omega)
  refine MS_in [some (.inr 179), none, none, none, none, none, none] mok_8_divides (Nat.le_of_ble_eq_true rfl) rfl ?_
  refine blk_wp (tok_8_divides X) 1000 _ _ _ _ _ ?_
  simp (maxSteps := 4000000) only [blk_s, blk_z, a_const, a_iload, a_aload, a_istore, a_astore, a_iinc, a_add, a_sub, a_mul, a_div, a_rem, a_dup, a_dup2, a_goto, a_ifnull, a_tsw, a_gi, a_gr, a_pi, a_ald, a_sld, a_ast, a_aald, a_len, a_gst, a_copy, a_max, a_min, a_iret, a_zret, a_aret, a_ret, a_cv, a_cn, a_sv, a_sn, icmp_t, icmp_f, aif_t, aif_f, lget, lset, fget, rget, apop, isO, Kv, Kn, fitb0, cmp, swl, InR, up, cpy, ↓reduceIte, if_true, if_false, Nat.left_eq_add, Nat.add_eq_left, Nat.add_left_cancel_iff, Nat.reduceEqDiff, Nat.zero_le, true_and, and_true, true_or, or_true, or_self, not_true_eq_false, not_false_eq_true, false_and, and_false, false_implies, true_implies, forall_const, ne_eq, Decidable.not_not, List.length_cons, List.length_nil, reduceCtorEq, Int.toNat_zero, Int.toNat_one, Int.cast_ofNat_Int, Nat.reduceAdd, Nat.reduceSub, Nat.reduceMul, Nat.reduceLT, Nat.reduceLeDiff, Nat.reduceEqDiff, Int.reduceAdd, Int.reduceSub, Int.reduceMul, Int.reduceNeg, Int.reduceLT, Int.reduceLE, Int.reduceEq, Int.reduceNe, Int.reduceToNat, t_8_divides X, sxM hG, m0]
  repeat (simp only [icmp_b, aif_b, cmp]; simp (maxSteps := 4000000) only [blk_s, blk_z, a_const, a_iload, a_aload, a_istore, a_astore, a_iinc, a_add, a_sub, a_mul, a_div, a_rem, a_dup, a_dup2, a_goto, a_ifnull, a_tsw, a_gi, a_gr, a_pi, a_ald, a_sld, a_ast, a_aald, a_len, a_gst, a_copy, a_max, a_min, a_iret, a_zret, a_aret, a_ret, a_cv, a_cn, a_sv, a_sn, icmp_t, icmp_f, aif_t, aif_f, lget, lset, fget, rget, apop, isO, Kv, Kn, fitb0, cmp, swl, InR, up, cpy, ↓reduceIte, if_true, if_false, Nat.left_eq_add, Nat.add_eq_left, Nat.add_left_cancel_iff, Nat.reduceEqDiff, Nat.zero_le, true_and, and_true, true_or, or_true, or_self, not_true_eq_false, not_false_eq_true, false_and, and_false, false_implies, true_implies, forall_const, ne_eq, Decidable.not_not, List.length_cons, List.length_nil, reduceCtorEq, Int.toNat_zero, Int.toNat_one, Int.cast_ofNat_Int, Nat.reduceAdd, Nat.reduceSub, Nat.reduceMul, Nat.reduceLT, Nat.reduceLeDiff, Nat.reduceEqDiff, Int.reduceAdd, Int.reduceSub, Int.reduceMul, Int.reduceNeg, Int.reduceLT, Int.reduceLE, Int.reduceEq, Int.reduceNe, Int.reduceToNat, t_8_divides X, sxM hG, m0])
  repeat' (first | assumption | with_reducible apply And.intro | with_reducible intro _)
  all_goals (try omega)
set_option maxRecDepth 40000 in
theorem mm_bestCost (hG : MSh G) {V : Sto} (hV : EdOK V) (hM : MR V σ) (hQ : ∀ σ', FrD σ σ' → DivM V σ' → Q (some (.inl (if cM σ' 0 = -1 then -4 else cM σ' 0))) G σ') : MS X M_8_bestCost [.inr 179] G σ Q := by
  have hn20 := hV.1
  refine MS_in [some (.inr 179)] mok_8_bestCost (Nat.le_of_ble_eq_true rfl) rfl ?_
  refine blk_wp (tok_8_bestCost X) 1000 _ _ _ _ _ ?_
  simp (maxSteps := 4000000) only [blk_s, blk_z, a_const, a_iload, a_aload, a_istore, a_astore, a_iinc, a_add, a_sub, a_mul, a_div, a_rem, a_dup, a_dup2, a_goto, a_ifnull, a_tsw, a_gi, a_gr, a_pi, a_ald, a_sld, a_ast, a_aald, a_len, a_gst, a_copy, a_max, a_min, a_iret, a_zret, a_aret, a_ret, a_cv, a_cn, a_sv, a_sn, icmp_t, icmp_f, aif_t, aif_f, lget, lset, fget, rget, apop, isO, Kv, Kn, fitb0, cmp, swl, InR, up, cpy, ↓reduceIte, if_true, if_false, Nat.left_eq_add, Nat.add_eq_left, Nat.add_left_cancel_iff, Nat.reduceEqDiff, Nat.zero_le, true_and, and_true, true_or, or_true, or_self, not_true_eq_false, not_false_eq_true, false_and, and_false, false_implies, true_implies, forall_const, ne_eq, Decidable.not_not, List.length_cons, List.length_nil, reduceCtorEq, Int.toNat_zero, Int.toNat_one, Int.cast_ofNat_Int, Nat.reduceAdd, Nat.reduceSub, Nat.reduceMul, Nat.reduceLT, Nat.reduceLeDiff, Nat.reduceEqDiff, Int.reduceAdd, Int.reduceSub, Int.reduceMul, Int.reduceNeg, Int.reduceLT, Int.reduceLE, Int.reduceEq, Int.reduceNe, Int.reduceToNat, t_8_bestCost X, sxM hG]
  repeat (simp only [icmp_b, aif_b, cmp]; simp (maxSteps := 4000000) only [blk_s, blk_z, a_const, a_iload, a_aload, a_istore, a_astore, a_iinc, a_add, a_sub, a_mul, a_div, a_rem, a_dup, a_dup2, a_goto, a_ifnull, a_tsw, a_gi, a_gr, a_pi, a_ald, a_sld, a_ast, a_aald, a_len, a_gst, a_copy, a_max, a_min, a_iret, a_zret, a_aret, a_ret, a_cv, a_cn, a_sv, a_sn, icmp_t, icmp_f, aif_t, aif_f, lget, lset, fget, rget, apop, isO, Kv, Kn, fitb0, cmp, swl, InR, up, cpy, ↓reduceIte, if_true, if_false, Nat.left_eq_add, Nat.add_eq_left, Nat.add_left_cancel_iff, Nat.reduceEqDiff, Nat.zero_le, true_and, and_true, true_or, or_true, or_self, not_true_eq_false, not_false_eq_true, false_and, and_false, false_implies, true_implies, forall_const, ne_eq, Decidable.not_not, List.length_cons, List.length_nil, reduceCtorEq, Int.toNat_zero, Int.toNat_one, Int.cast_ofNat_Int, Nat.reduceAdd, Nat.reduceSub, Nat.reduceMul, Nat.reduceLT, Nat.reduceLeDiff, Nat.reduceEqDiff, Int.reduceAdd, Int.reduceSub, Int.reduceMul, Int.reduceNeg, Int.reduceLT, Int.reduceLE, Int.reduceEq, Int.reduceNe, Int.reduceToNat, t_8_bestCost X, sxM hG])
  repeat' (first | assumption | with_reducible apply And.intro | with_reducible intro _)
  all_goals (try omega)
  refine mm_divides hG hV hM (fun σ1 f1 d1 => ?_)
  have fin := hQ σ1 f1 d1
  have b := d1.2 0 (by omega) hn20.1
  have e : (if cM σ1 0 = -1 then -4 else cM σ1 0) = σ1 195 0 := by
    rcases b with q | q
    · rw [cM_v.2 (by omega), if_pos rfl]
      omega
    · rw [cM_v.1 q.1, if_neg (by omega)]
  rw [e] at fin
  simp (maxSteps := 4000000) only [blk_s, blk_z, a_const, a_iload, a_aload, a_istore, a_astore, a_iinc, a_add, a_sub, a_mul, a_div, a_rem, a_dup, a_dup2, a_goto, a_ifnull, a_tsw, a_gi, a_gr, a_pi, a_ald, a_sld, a_ast, a_aald, a_len, a_gst, a_copy, a_max, a_min, a_iret, a_zret, a_aret, a_ret, a_cv, a_cn, a_sv, a_sn, icmp_t, icmp_f, aif_t, aif_f, lget, lset, fget, rget, apop, isO, Kv, Kn, fitb0, cmp, swl, InR, up, cpy, ↓reduceIte, if_true, if_false, Nat.left_eq_add, Nat.add_eq_left, Nat.add_left_cancel_iff, Nat.reduceEqDiff, Nat.zero_le, true_and, and_true, true_or, or_true, or_self, not_true_eq_false, not_false_eq_true, false_and, and_false, false_implies, true_implies, forall_const, ne_eq, Decidable.not_not, List.length_cons, List.length_nil, reduceCtorEq, Int.toNat_zero, Int.toNat_one, Int.cast_ofNat_Int, Nat.reduceAdd, Nat.reduceSub, Nat.reduceMul, Nat.reduceLT, Nat.reduceLeDiff, Nat.reduceEqDiff, Int.reduceAdd, Int.reduceSub, Int.reduceMul, Int.reduceNeg, Int.reduceLT, Int.reduceLE, Int.reduceEq, Int.reduceNe, Int.reduceToNat, t_8_bestCost X, sxM hG]
  repeat (simp only [icmp_b, aif_b, cmp]; simp (maxSteps := 4000000) only [blk_s, blk_z, a_const, a_iload, a_aload, a_istore, a_astore, a_iinc, a_add, a_sub, a_mul, a_div, a_rem, a_dup, a_dup2, a_goto, a_ifnull, a_tsw, a_gi, a_gr, a_pi, a_ald, a_sld, a_ast, a_aald, a_len, a_gst, a_copy, a_max, a_min, a_iret, a_zret, a_aret, a_ret, a_cv, a_cn, a_sv, a_sn, icmp_t, icmp_f, aif_t, aif_f, lget, lset, fget, rget, apop, isO, Kv, Kn, fitb0, cmp, swl, InR, up, cpy, ↓reduceIte, if_true, if_false, Nat.left_eq_add, Nat.add_eq_left, Nat.add_left_cancel_iff, Nat.reduceEqDiff, Nat.zero_le, true_and, and_true, true_or, or_true, or_self, not_true_eq_false, not_false_eq_true, false_and, and_false, false_implies, true_implies, forall_const, ne_eq, Decidable.not_not, List.length_cons, List.length_nil, reduceCtorEq, Int.toNat_zero, Int.toNat_one, Int.cast_ofNat_Int, Nat.reduceAdd, Nat.reduceSub, Nat.reduceMul, Nat.reduceLT, Nat.reduceLeDiff, Nat.reduceEqDiff, Int.reduceAdd, Int.reduceSub, Int.reduceMul, Int.reduceNeg, Int.reduceLT, Int.reduceLE, Int.reduceEq, Int.reduceNe, Int.reduceToNat, t_8_bestCost X, sxM hG])
  repeat' (first | assumption | with_reducible apply And.intro | with_reducible intro _)
  all_goals (try omega)
theorem itz_b {V : Sto} {c z : Int → Int} (hn : 0 ≤ V 1 0) (h : BT V c z) (h0 : 0 ≤ c 0) : ∀ k : Nat, (0 ≤ itz z (V 1 0) k ∧ itz z (V 1 0) k ≤ V 1 0) ∧ 0 ≤ c (itz z (V 1 0) k)
  | 0 => ⟨⟨Int.le_refl _, hn⟩, h0⟩
  | k + 1 => by
    have ih := itz_b hn h h0 k
    show (0 ≤ (if itz z (V 1 0) k < V 1 0 then z (itz z (V 1 0) k) else itz z (V 1 0) k) ∧ (if itz z (V 1 0) k < V 1 0 then z (itz z (V 1 0) k) else itz z (V 1 0) k) ≤ V 1 0) ∧ 0 ≤ c (if itz z (V 1 0) k < V 1 0 then z (itz z (V 1 0) k) else itz z (V 1 0) k)
    by_cases q : itz z (V 1 0) k < V 1 0
    · rw [if_pos q]
      have := bt_z h ⟨ih.1.1, q⟩ ih.2
      exact ⟨by omega, this.2⟩
    · rw [if_neg q]
      exact ih
theorem itz_k {V : Sto} {c z : Int → Int} (hn : 0 ≤ V 1 0) (h : BT V c z) (h0 : 0 ≤ c 0) : ∀ k : Nat, (k : Int) ≤ itz z (V 1 0) k ∨ V 1 0 ≤ itz z (V 1 0) k
  | 0 => Or.inl (Int.le_refl _)
  | k + 1 => by
    have ih := itz_k hn h h0 k
    have b := itz_b hn h h0 k
    show ((k + 1 : Nat) : Int) ≤ (if itz z (V 1 0) k < V 1 0 then z (itz z (V 1 0) k) else itz z (V 1 0) k) ∨ V 1 0 ≤ (if itz z (V 1 0) k < V 1 0 then z (itz z (V 1 0) k) else itz z (V 1 0) k)
    by_cases q : itz z (V 1 0) k < V 1 0
    · rw [if_pos q]
      have := bt_z h ⟨b.1.1, q⟩ b.2
      omega
    · rw [if_neg q]
      omega
theorem itz_ge {z : Int → Int} {n : Int} {a : Nat} (h : n ≤ itz z n a) : ∀ d : Nat, itz z n (a + d) = itz z n a
  | 0 => rfl
  | d + 1 => by
    have ih := itz_ge h d
    show (if itz z n (a + d) < n then z (itz z n (a + d)) else itz z n (a + d)) = itz z n a
    rw [ih, if_neg (by omega)]
set_option maxRecDepth 40000 in
theorem lp_brk (hG : MSh G) {V : Sto} {g : Int} (hV : EdOK V) (hM : MR V σ) (hD : DivM V σ) (hg : 0 ≤ g) (hQ : Q (some (.inl (if cM σ 0 = -1 ∨ V 1 0 ≤ itz (σ 196) (V 1 0) g.toNat then -4 else itz (σ 196) (V 1 0) g.toNat))) G σ) :
    ∀ (n k : Nat), n + k = g.toNat → WPc X M_8_bestBreak Q 14 [some (.inr 179), some (.inl g), some (.inl (if 0 ≤ σ 195 0 then itz (σ 196) (V 1 0) k else 0)), some (.inl k)] [] (G, 0, 0) σ := by
  have hn20 := hV.1
  have m0 : σ 180 0 = V 1 0 := hM.1
  have b := hD.2 0 (by omega) hn20.1
  by_cases c0 : 0 ≤ σ 195 0
  · have ib := itz_b hn20.1 hD.1 (by rw [cM_v.1 c0]; exact c0)
    have out : ∀ k : Nat, (k : Int) ≤ g → ((k : Int) = g ∨ V 1 0 ≤ itz (σ 196) (V 1 0) k) → itz (σ 196) (V 1 0) k = itz (σ 196) (V 1 0) g.toNat := by
      intro k k0 hk
      rcases hk with q | q
      · rw [show g.toNat = k by omega]
      · have := itz_ge q (g.toNat - k)
        rw [show k + (g.toNat - k) = g.toNat by omega] at this
        exact this.symm
    intro n
    induction n with
    | zero =>
      intro k hk
      rw [show g.toNat = k by omega] at hQ
      rw [if_pos c0]
      by_cases c1 : V 1 0 ≤ itz (σ 196) (V 1 0) k
      · rw [if_pos (Or.inr c1)] at hQ
        refine blk_at (tok_8_bestBreak X) 1000 rfl ?_
        simp (maxSteps := 4000000) only [blk_s, blk_z, a_const, a_iload, a_aload, a_istore, a_astore, a_iinc, a_add, a_sub, a_mul, a_div, a_rem, a_dup, a_dup2, a_goto, a_ifnull, a_tsw, a_gi, a_gr, a_pi, a_ald, a_sld, a_ast, a_aald, a_len, a_gst, a_copy, a_max, a_min, a_iret, a_zret, a_aret, a_ret, a_cv, a_cn, a_sv, a_sn, icmp_t, icmp_f, aif_t, aif_f, lget, lset, fget, rget, apop, isO, Kv, Kn, fitb0, cmp, swl, InR, up, cpy, ↓reduceIte, if_true, if_false, Nat.left_eq_add, Nat.add_eq_left, Nat.add_left_cancel_iff, Nat.reduceEqDiff, Nat.zero_le, true_and, and_true, true_or, or_true, or_self, not_true_eq_false, not_false_eq_true, false_and, and_false, false_implies, true_implies, forall_const, ne_eq, Decidable.not_not, List.length_cons, List.length_nil, reduceCtorEq, Int.toNat_zero, Int.toNat_one, Int.cast_ofNat_Int, Nat.reduceAdd, Nat.reduceSub, Nat.reduceMul, Nat.reduceLT, Nat.reduceLeDiff, Nat.reduceEqDiff, Int.reduceAdd, Int.reduceSub, Int.reduceMul, Int.reduceNeg, Int.reduceLT, Int.reduceLE, Int.reduceEq, Int.reduceNe, Int.reduceToNat, t_8_bestBreak X, sxM hG, m0, show g ≤ (k : Int) by omega, show ¬ (σ 195 0 < 0) by omega, show ¬ (itz (σ 196) (V 1 0) k < V 1 0) by omega]
        repeat (simp only [icmp_b, aif_b, cmp]; simp (maxSteps := 4000000) only [blk_s, blk_z, a_const, a_iload, a_aload, a_istore, a_astore, a_iinc, a_add, a_sub, a_mul, a_div, a_rem, a_dup, a_dup2, a_goto, a_ifnull, a_tsw, a_gi, a_gr, a_pi, a_ald, a_sld, a_ast, a_aald, a_len, a_gst, a_copy, a_max, a_min, a_iret, a_zret, a_aret, a_ret, a_cv, a_cn, a_sv, a_sn, icmp_t, icmp_f, aif_t, aif_f, lget, lset, fget, rget, apop, isO, Kv, Kn, fitb0, cmp, swl, InR, up, cpy, ↓reduceIte, if_true, if_false, Nat.left_eq_add, Nat.add_eq_left, Nat.add_left_cancel_iff, Nat.reduceEqDiff, Nat.zero_le, true_and, and_true, true_or, or_true, or_self, not_true_eq_false, not_false_eq_true, false_and, and_false, false_implies, true_implies, forall_const, ne_eq, Decidable.not_not, List.length_cons, List.length_nil, reduceCtorEq, Int.toNat_zero, Int.toNat_one, Int.cast_ofNat_Int, Nat.reduceAdd, Nat.reduceSub, Nat.reduceMul, Nat.reduceLT, Nat.reduceLeDiff, Nat.reduceEqDiff, Int.reduceAdd, Int.reduceSub, Int.reduceMul, Int.reduceNeg, Int.reduceLT, Int.reduceLE, Int.reduceEq, Int.reduceNe, Int.reduceToNat, t_8_bestBreak X, sxM hG, m0, show g ≤ (k : Int) by omega, show ¬ (σ 195 0 < 0) by omega, show ¬ (itz (σ 196) (V 1 0) k < V 1 0) by omega])
        repeat' (first | assumption | with_reducible apply And.intro | with_reducible intro _)
        all_goals (try omega)
      · rw [if_neg (fun q => by
          rcases q with q | q
          · rw [cM_v.1 c0] at q; omega
          · exact c1 q)] at hQ
        refine blk_at (tok_8_bestBreak X) 1000 rfl ?_
        simp (maxSteps := 4000000) only [blk_s, blk_z, a_const, a_iload, a_aload, a_istore, a_astore, a_iinc, a_add, a_sub, a_mul, a_div, a_rem, a_dup, a_dup2, a_goto, a_ifnull, a_tsw, a_gi, a_gr, a_pi, a_ald, a_sld, a_ast, a_aald, a_len, a_gst, a_copy, a_max, a_min, a_iret, a_zret, a_aret, a_ret, a_cv, a_cn, a_sv, a_sn, icmp_t, icmp_f, aif_t, aif_f, lget, lset, fget, rget, apop, isO, Kv, Kn, fitb0, cmp, swl, InR, up, cpy, ↓reduceIte, if_true, if_false, Nat.left_eq_add, Nat.add_eq_left, Nat.add_left_cancel_iff, Nat.reduceEqDiff, Nat.zero_le, true_and, and_true, true_or, or_true, or_self, not_true_eq_false, not_false_eq_true, false_and, and_false, false_implies, true_implies, forall_const, ne_eq, Decidable.not_not, List.length_cons, List.length_nil, reduceCtorEq, Int.toNat_zero, Int.toNat_one, Int.cast_ofNat_Int, Nat.reduceAdd, Nat.reduceSub, Nat.reduceMul, Nat.reduceLT, Nat.reduceLeDiff, Nat.reduceEqDiff, Int.reduceAdd, Int.reduceSub, Int.reduceMul, Int.reduceNeg, Int.reduceLT, Int.reduceLE, Int.reduceEq, Int.reduceNe, Int.reduceToNat, t_8_bestBreak X, sxM hG, m0, show g ≤ (k : Int) by omega, show ¬ (σ 195 0 < 0) by omega, show itz (σ 196) (V 1 0) k < V 1 0 by omega]
        repeat (simp only [icmp_b, aif_b, cmp]; simp (maxSteps := 4000000) only [blk_s, blk_z, a_const, a_iload, a_aload, a_istore, a_astore, a_iinc, a_add, a_sub, a_mul, a_div, a_rem, a_dup, a_dup2, a_goto, a_ifnull, a_tsw, a_gi, a_gr, a_pi, a_ald, a_sld, a_ast, a_aald, a_len, a_gst, a_copy, a_max, a_min, a_iret, a_zret, a_aret, a_ret, a_cv, a_cn, a_sv, a_sn, icmp_t, icmp_f, aif_t, aif_f, lget, lset, fget, rget, apop, isO, Kv, Kn, fitb0, cmp, swl, InR, up, cpy, ↓reduceIte, if_true, if_false, Nat.left_eq_add, Nat.add_eq_left, Nat.add_left_cancel_iff, Nat.reduceEqDiff, Nat.zero_le, true_and, and_true, true_or, or_true, or_self, not_true_eq_false, not_false_eq_true, false_and, and_false, false_implies, true_implies, forall_const, ne_eq, Decidable.not_not, List.length_cons, List.length_nil, reduceCtorEq, Int.toNat_zero, Int.toNat_one, Int.cast_ofNat_Int, Nat.reduceAdd, Nat.reduceSub, Nat.reduceMul, Nat.reduceLT, Nat.reduceLeDiff, Nat.reduceEqDiff, Int.reduceAdd, Int.reduceSub, Int.reduceMul, Int.reduceNeg, Int.reduceLT, Int.reduceLE, Int.reduceEq, Int.reduceNe, Int.reduceToNat, t_8_bestBreak X, sxM hG, m0, show g ≤ (k : Int) by omega, show ¬ (σ 195 0 < 0) by omega, show itz (σ 196) (V 1 0) k < V 1 0 by omega])
        repeat' (first | assumption | with_reducible apply And.intro | with_reducible intro _)
        all_goals (try omega)
    | succ n ih =>
      intro k hk
      have ih := ih (k + 1) (by omega)
      rw [if_pos c0] at ih ⊢
      have bk := ib k
      by_cases c1 : V 1 0 ≤ itz (σ 196) (V 1 0) k
      · rw [← out k (by omega) (Or.inr c1), if_pos (Or.inr c1)] at hQ
        refine blk_at (tok_8_bestBreak X) 1000 rfl ?_
        simp (maxSteps := 4000000) only [blk_s, blk_z, a_const, a_iload, a_aload, a_istore, a_astore, a_iinc, a_add, a_sub, a_mul, a_div, a_rem, a_dup, a_dup2, a_goto, a_ifnull, a_tsw, a_gi, a_gr, a_pi, a_ald, a_sld, a_ast, a_aald, a_len, a_gst, a_copy, a_max, a_min, a_iret, a_zret, a_aret, a_ret, a_cv, a_cn, a_sv, a_sn, icmp_t, icmp_f, aif_t, aif_f, lget, lset, fget, rget, apop, isO, Kv, Kn, fitb0, cmp, swl, InR, up, cpy, ↓reduceIte, if_true, if_false, Nat.left_eq_add, Nat.add_eq_left, Nat.add_left_cancel_iff, Nat.reduceEqDiff, Nat.zero_le, true_and, and_true, true_or, or_true, or_self, not_true_eq_false, not_false_eq_true, false_and, and_false, false_implies, true_implies, forall_const, ne_eq, Decidable.not_not, List.length_cons, List.length_nil, reduceCtorEq, Int.toNat_zero, Int.toNat_one, Int.cast_ofNat_Int, Nat.reduceAdd, Nat.reduceSub, Nat.reduceMul, Nat.reduceLT, Nat.reduceLeDiff, Nat.reduceEqDiff, Int.reduceAdd, Int.reduceSub, Int.reduceMul, Int.reduceNeg, Int.reduceLT, Int.reduceLE, Int.reduceEq, Int.reduceNe, Int.reduceToNat, t_8_bestBreak X, sxM hG, m0, show ¬ (g ≤ (k : Int)) by omega, show ¬ (σ 195 0 < 0) by omega, show ¬ (itz (σ 196) (V 1 0) k < V 1 0) by omega, show V 1 0 ≤ itz (σ 196) (V 1 0) k from c1]
        repeat (simp only [icmp_b, aif_b, cmp]; simp (maxSteps := 4000000) only [blk_s, blk_z, a_const, a_iload, a_aload, a_istore, a_astore, a_iinc, a_add, a_sub, a_mul, a_div, a_rem, a_dup, a_dup2, a_goto, a_ifnull, a_tsw, a_gi, a_gr, a_pi, a_ald, a_sld, a_ast, a_aald, a_len, a_gst, a_copy, a_max, a_min, a_iret, a_zret, a_aret, a_ret, a_cv, a_cn, a_sv, a_sn, icmp_t, icmp_f, aif_t, aif_f, lget, lset, fget, rget, apop, isO, Kv, Kn, fitb0, cmp, swl, InR, up, cpy, ↓reduceIte, if_true, if_false, Nat.left_eq_add, Nat.add_eq_left, Nat.add_left_cancel_iff, Nat.reduceEqDiff, Nat.zero_le, true_and, and_true, true_or, or_true, or_self, not_true_eq_false, not_false_eq_true, false_and, and_false, false_implies, true_implies, forall_const, ne_eq, Decidable.not_not, List.length_cons, List.length_nil, reduceCtorEq, Int.toNat_zero, Int.toNat_one, Int.cast_ofNat_Int, Nat.reduceAdd, Nat.reduceSub, Nat.reduceMul, Nat.reduceLT, Nat.reduceLeDiff, Nat.reduceEqDiff, Int.reduceAdd, Int.reduceSub, Int.reduceMul, Int.reduceNeg, Int.reduceLT, Int.reduceLE, Int.reduceEq, Int.reduceNe, Int.reduceToNat, t_8_bestBreak X, sxM hG, m0, show ¬ (g ≤ (k : Int)) by omega, show ¬ (σ 195 0 < 0) by omega, show ¬ (itz (σ 196) (V 1 0) k < V 1 0) by omega, show V 1 0 ≤ itz (σ 196) (V 1 0) k from c1])
        repeat' (first | assumption | with_reducible apply And.intro | with_reducible intro _)
        all_goals (try omega)
      · have e : itz (σ 196) (V 1 0) (k + 1) = σ 196 (itz (σ 196) (V 1 0) k) := if_pos (by omega)
        rw [e] at ih
        have ih : WPc X M_8_bestBreak Q 14 [some (.inr 179), some (.inl g), some (.inl (σ 196 (itz (σ 196) (V 1 0) k))), some (.inl ((k : Int) + 1))] [] (G, 0, 0) σ := ih
        have kk := itz_k hn20.1 hD.1 (by rw [cM_v.1 c0]; exact c0) k
        clear hQ out ib
        obtain ⟨f, hf⟩ : ∃ f, itz (σ 196) (V 1 0) k = f := ⟨_, rfl⟩
        rw [hf] at ih bk c1 kk ⊢
        refine blk_at (tok_8_bestBreak X) 1000 rfl ?_
        simp (maxSteps := 4000000) only [blk_s, blk_z, a_const, a_iload, a_aload, a_istore, a_astore, a_iinc, a_add, a_sub, a_mul, a_div, a_rem, a_dup, a_dup2, a_goto, a_ifnull, a_tsw, a_gi, a_gr, a_pi, a_ald, a_sld, a_ast, a_aald, a_len, a_gst, a_copy, a_max, a_min, a_iret, a_zret, a_aret, a_ret, a_cv, a_cn, a_sv, a_sn, icmp_t, icmp_f, aif_t, aif_f, lget, lset, fget, rget, apop, isO, Kv, Kn, fitb0, cmp, swl, InR, up, cpy, ↓reduceIte, if_true, if_false, Nat.left_eq_add, Nat.add_eq_left, Nat.add_left_cancel_iff, Nat.reduceEqDiff, Nat.zero_le, true_and, and_true, true_or, or_true, or_self, not_true_eq_false, not_false_eq_true, false_and, and_false, false_implies, true_implies, forall_const, ne_eq, Decidable.not_not, List.length_cons, List.length_nil, reduceCtorEq, Int.toNat_zero, Int.toNat_one, Int.cast_ofNat_Int, Nat.reduceAdd, Nat.reduceSub, Nat.reduceMul, Nat.reduceLT, Nat.reduceLeDiff, Nat.reduceEqDiff, Int.reduceAdd, Int.reduceSub, Int.reduceMul, Int.reduceNeg, Int.reduceLT, Int.reduceLE, Int.reduceEq, Int.reduceNe, Int.reduceToNat, t_8_bestBreak X, sxM hG, m0, show ¬ (g ≤ (k : Int)) by omega, show ¬ (σ 195 0 < 0) by omega, show ¬ (V 1 0 ≤ f) from c1]
        repeat (simp only [icmp_b, aif_b, cmp]; simp (maxSteps := 4000000) only [blk_s, blk_z, a_const, a_iload, a_aload, a_istore, a_astore, a_iinc, a_add, a_sub, a_mul, a_div, a_rem, a_dup, a_dup2, a_goto, a_ifnull, a_tsw, a_gi, a_gr, a_pi, a_ald, a_sld, a_ast, a_aald, a_len, a_gst, a_copy, a_max, a_min, a_iret, a_zret, a_aret, a_ret, a_cv, a_cn, a_sv, a_sn, icmp_t, icmp_f, aif_t, aif_f, lget, lset, fget, rget, apop, isO, Kv, Kn, fitb0, cmp, swl, InR, up, cpy, ↓reduceIte, if_true, if_false, Nat.left_eq_add, Nat.add_eq_left, Nat.add_left_cancel_iff, Nat.reduceEqDiff, Nat.zero_le, true_and, and_true, true_or, or_true, or_self, not_true_eq_false, not_false_eq_true, false_and, and_false, false_implies, true_implies, forall_const, ne_eq, Decidable.not_not, List.length_cons, List.length_nil, reduceCtorEq, Int.toNat_zero, Int.toNat_one, Int.cast_ofNat_Int, Nat.reduceAdd, Nat.reduceSub, Nat.reduceMul, Nat.reduceLT, Nat.reduceLeDiff, Nat.reduceEqDiff, Int.reduceAdd, Int.reduceSub, Int.reduceMul, Int.reduceNeg, Int.reduceLT, Int.reduceLE, Int.reduceEq, Int.reduceNe, Int.reduceToNat, t_8_bestBreak X, sxM hG, m0, show ¬ (g ≤ (k : Int)) by omega, show ¬ (σ 195 0 < 0) by omega, show ¬ (V 1 0 ≤ f) from c1])
        exact ⟨by omega, by omega, ⟨by omega, by omega⟩, ih⟩
  · rw [if_pos (Or.inl (cM_v.2 (by omega)))] at hQ
    intro n k hk
    rw [if_neg c0]
    by_cases c1 : g ≤ (k : Int)
    · refine blk_at (tok_8_bestBreak X) 1000 rfl ?_
      simp (maxSteps := 4000000) only [blk_s, blk_z, a_const, a_iload, a_aload, a_istore, a_astore, a_iinc, a_add, a_sub, a_mul, a_div, a_rem, a_dup, a_dup2, a_goto, a_ifnull, a_tsw, a_gi, a_gr, a_pi, a_ald, a_sld, a_ast, a_aald, a_len, a_gst, a_copy, a_max, a_min, a_iret, a_zret, a_aret, a_ret, a_cv, a_cn, a_sv, a_sn, icmp_t, icmp_f, aif_t, aif_f, lget, lset, fget, rget, apop, isO, Kv, Kn, fitb0, cmp, swl, InR, up, cpy, ↓reduceIte, if_true, if_false, Nat.left_eq_add, Nat.add_eq_left, Nat.add_left_cancel_iff, Nat.reduceEqDiff, Nat.zero_le, true_and, and_true, true_or, or_true, or_self, not_true_eq_false, not_false_eq_true, false_and, and_false, false_implies, true_implies, forall_const, ne_eq, Decidable.not_not, List.length_cons, List.length_nil, reduceCtorEq, Int.toNat_zero, Int.toNat_one, Int.cast_ofNat_Int, Nat.reduceAdd, Nat.reduceSub, Nat.reduceMul, Nat.reduceLT, Nat.reduceLeDiff, Nat.reduceEqDiff, Int.reduceAdd, Int.reduceSub, Int.reduceMul, Int.reduceNeg, Int.reduceLT, Int.reduceLE, Int.reduceEq, Int.reduceNe, Int.reduceToNat, t_8_bestBreak X, sxM hG, m0, c1, show σ 195 0 < 0 by omega]
      repeat (simp only [icmp_b, aif_b, cmp]; simp (maxSteps := 4000000) only [blk_s, blk_z, a_const, a_iload, a_aload, a_istore, a_astore, a_iinc, a_add, a_sub, a_mul, a_div, a_rem, a_dup, a_dup2, a_goto, a_ifnull, a_tsw, a_gi, a_gr, a_pi, a_ald, a_sld, a_ast, a_aald, a_len, a_gst, a_copy, a_max, a_min, a_iret, a_zret, a_aret, a_ret, a_cv, a_cn, a_sv, a_sn, icmp_t, icmp_f, aif_t, aif_f, lget, lset, fget, rget, apop, isO, Kv, Kn, fitb0, cmp, swl, InR, up, cpy, ↓reduceIte, if_true, if_false, Nat.left_eq_add, Nat.add_eq_left, Nat.add_left_cancel_iff, Nat.reduceEqDiff, Nat.zero_le, true_and, and_true, true_or, or_true, or_self, not_true_eq_false, not_false_eq_true, false_and, and_false, false_implies, true_implies, forall_const, ne_eq, Decidable.not_not, List.length_cons, List.length_nil, reduceCtorEq, Int.toNat_zero, Int.toNat_one, Int.cast_ofNat_Int, Nat.reduceAdd, Nat.reduceSub, Nat.reduceMul, Nat.reduceLT, Nat.reduceLeDiff, Nat.reduceEqDiff, Int.reduceAdd, Int.reduceSub, Int.reduceMul, Int.reduceNeg, Int.reduceLT, Int.reduceLE, Int.reduceEq, Int.reduceNe, Int.reduceToNat, t_8_bestBreak X, sxM hG, m0, c1, show σ 195 0 < 0 by omega])
      repeat' (first | assumption | with_reducible apply And.intro | with_reducible intro _)
      all_goals (try omega)
    · refine blk_at (tok_8_bestBreak X) 1000 rfl ?_
      simp (maxSteps := 4000000) only [blk_s, blk_z, a_const, a_iload, a_aload, a_istore, a_astore, a_iinc, a_add, a_sub, a_mul, a_div, a_rem, a_dup, a_dup2, a_goto, a_ifnull, a_tsw, a_gi, a_gr, a_pi, a_ald, a_sld, a_ast, a_aald, a_len, a_gst, a_copy, a_max, a_min, a_iret, a_zret, a_aret, a_ret, a_cv, a_cn, a_sv, a_sn, icmp_t, icmp_f, aif_t, aif_f, lget, lset, fget, rget, apop, isO, Kv, Kn, fitb0, cmp, swl, InR, up, cpy, ↓reduceIte, if_true, if_false, Nat.left_eq_add, Nat.add_eq_left, Nat.add_left_cancel_iff, Nat.reduceEqDiff, Nat.zero_le, true_and, and_true, true_or, or_true, or_self, not_true_eq_false, not_false_eq_true, false_and, and_false, false_implies, true_implies, forall_const, ne_eq, Decidable.not_not, List.length_cons, List.length_nil, reduceCtorEq, Int.toNat_zero, Int.toNat_one, Int.cast_ofNat_Int, Nat.reduceAdd, Nat.reduceSub, Nat.reduceMul, Nat.reduceLT, Nat.reduceLeDiff, Nat.reduceEqDiff, Int.reduceAdd, Int.reduceSub, Int.reduceMul, Int.reduceNeg, Int.reduceLT, Int.reduceLE, Int.reduceEq, Int.reduceNe, Int.reduceToNat, t_8_bestBreak X, sxM hG, m0, c1, show σ 195 0 < 0 by omega]
      repeat (simp only [icmp_b, aif_b, cmp]; simp (maxSteps := 4000000) only [blk_s, blk_z, a_const, a_iload, a_aload, a_istore, a_astore, a_iinc, a_add, a_sub, a_mul, a_div, a_rem, a_dup, a_dup2, a_goto, a_ifnull, a_tsw, a_gi, a_gr, a_pi, a_ald, a_sld, a_ast, a_aald, a_len, a_gst, a_copy, a_max, a_min, a_iret, a_zret, a_aret, a_ret, a_cv, a_cn, a_sv, a_sn, icmp_t, icmp_f, aif_t, aif_f, lget, lset, fget, rget, apop, isO, Kv, Kn, fitb0, cmp, swl, InR, up, cpy, ↓reduceIte, if_true, if_false, Nat.left_eq_add, Nat.add_eq_left, Nat.add_left_cancel_iff, Nat.reduceEqDiff, Nat.zero_le, true_and, and_true, true_or, or_true, or_self, not_true_eq_false, not_false_eq_true, false_and, and_false, false_implies, true_implies, forall_const, ne_eq, Decidable.not_not, List.length_cons, List.length_nil, reduceCtorEq, Int.toNat_zero, Int.toNat_one, Int.cast_ofNat_Int, Nat.reduceAdd, Nat.reduceSub, Nat.reduceMul, Nat.reduceLT, Nat.reduceLeDiff, Nat.reduceEqDiff, Int.reduceAdd, Int.reduceSub, Int.reduceMul, Int.reduceNeg, Int.reduceLT, Int.reduceLE, Int.reduceEq, Int.reduceNe, Int.reduceToNat, t_8_bestBreak X, sxM hG, m0, c1, show σ 195 0 < 0 by omega])
      repeat' (first | assumption | with_reducible apply And.intro | with_reducible intro _)
      all_goals (try omega)
set_option maxRecDepth 40000 in
theorem mm_bestBreak (hG : MSh G) {V : Sto} {g : Int} (hV : EdOK V) (hM : MR V σ) (h1 : g < 0 → Q (some (.inl (-1))) G σ) (h2 : 0 ≤ g → ∀ σ', FrD σ σ' → DivM V σ' → Q (some (.inl (if cM σ' 0 = -1 ∨ V 1 0 ≤ itz (σ' 196) (V 1 0) g.toNat then -4 else itz (σ' 196) (V 1 0) g.toNat))) G σ') : MS X M_8_bestBreak [.inr 179, .inl g] G σ Q := by
  refine MS_in [some (.inr 179), some (.inl g), none, none] mok_8_bestBreak (Nat.le_of_ble_eq_true rfl) rfl ?_
  by_cases c : 0 ≤ g
  · refine blk_wp (tok_8_bestBreak X) 1000 _ _ _ _ _ ?_
    simp (maxSteps := 4000000) only [blk_s, blk_z, a_const, a_iload, a_aload, a_istore, a_astore, a_iinc, a_add, a_sub, a_mul, a_div, a_rem, a_dup, a_dup2, a_goto, a_ifnull, a_tsw, a_gi, a_gr, a_pi, a_ald, a_sld, a_ast, a_aald, a_len, a_gst, a_copy, a_max, a_min, a_iret, a_zret, a_aret, a_ret, a_cv, a_cn, a_sv, a_sn, icmp_t, icmp_f, aif_t, aif_f, lget, lset, fget, rget, apop, isO, Kv, Kn, fitb0, cmp, swl, InR, up, cpy, ↓reduceIte, if_true, if_false, Nat.left_eq_add, Nat.add_eq_left, Nat.add_left_cancel_iff, Nat.reduceEqDiff, Nat.zero_le, true_and, and_true, true_or, or_true, or_self, not_true_eq_false, not_false_eq_true, false_and, and_false, false_implies, true_implies, forall_const, ne_eq, Decidable.not_not, List.length_cons, List.length_nil, reduceCtorEq, Int.toNat_zero, Int.toNat_one, Int.cast_ofNat_Int, Nat.reduceAdd, Nat.reduceSub, Nat.reduceMul, Nat.reduceLT, Nat.reduceLeDiff, Nat.reduceEqDiff, Int.reduceAdd, Int.reduceSub, Int.reduceMul, Int.reduceNeg, Int.reduceLT, Int.reduceLE, Int.reduceEq, Int.reduceNe, Int.reduceToNat, t_8_bestBreak X, sxM hG, c]
    repeat (simp only [icmp_b, aif_b, cmp]; simp (maxSteps := 4000000) only [blk_s, blk_z, a_const, a_iload, a_aload, a_istore, a_astore, a_iinc, a_add, a_sub, a_mul, a_div, a_rem, a_dup, a_dup2, a_goto, a_ifnull, a_tsw, a_gi, a_gr, a_pi, a_ald, a_sld, a_ast, a_aald, a_len, a_gst, a_copy, a_max, a_min, a_iret, a_zret, a_aret, a_ret, a_cv, a_cn, a_sv, a_sn, icmp_t, icmp_f, aif_t, aif_f, lget, lset, fget, rget, apop, isO, Kv, Kn, fitb0, cmp, swl, InR, up, cpy, ↓reduceIte, if_true, if_false, Nat.left_eq_add, Nat.add_eq_left, Nat.add_left_cancel_iff, Nat.reduceEqDiff, Nat.zero_le, true_and, and_true, true_or, or_true, or_self, not_true_eq_false, not_false_eq_true, false_and, and_false, false_implies, true_implies, forall_const, ne_eq, Decidable.not_not, List.length_cons, List.length_nil, reduceCtorEq, Int.toNat_zero, Int.toNat_one, Int.cast_ofNat_Int, Nat.reduceAdd, Nat.reduceSub, Nat.reduceMul, Nat.reduceLT, Nat.reduceLeDiff, Nat.reduceEqDiff, Int.reduceAdd, Int.reduceSub, Int.reduceMul, Int.reduceNeg, Int.reduceLT, Int.reduceLE, Int.reduceEq, Int.reduceNe, Int.reduceToNat, t_8_bestBreak X, sxM hG, c])
    repeat' (first | assumption | with_reducible apply And.intro | with_reducible intro _)
    all_goals (try omega)
    refine mm_divides hG hV hM (fun σ1 f1 d1 => ?_)
    have fin := h2 c σ1 f1 d1
    have hM1 : MR V σ1 := by
      unfold MR
      rw [f1 180 (by omega) (by omega)]
      exact hM
    have lp := lp_brk (X := X) hG hV hM1 d1 c fin _ 0 (Nat.add_zero _)
    have e : (if 0 ≤ σ1 195 0 then itz (σ1 196) (V 1 0) 0 else 0) = 0 := by split <;> rfl
    rw [e] at lp
    simp (maxSteps := 4000000) only [blk_s, blk_z, a_const, a_iload, a_aload, a_istore, a_astore, a_iinc, a_add, a_sub, a_mul, a_div, a_rem, a_dup, a_dup2, a_goto, a_ifnull, a_tsw, a_gi, a_gr, a_pi, a_ald, a_sld, a_ast, a_aald, a_len, a_gst, a_copy, a_max, a_min, a_iret, a_zret, a_aret, a_ret, a_cv, a_cn, a_sv, a_sn, icmp_t, icmp_f, aif_t, aif_f, lget, lset, fget, rget, apop, isO, Kv, Kn, fitb0, cmp, swl, InR, up, cpy, ↓reduceIte, if_true, if_false, Nat.left_eq_add, Nat.add_eq_left, Nat.add_left_cancel_iff, Nat.reduceEqDiff, Nat.zero_le, true_and, and_true, true_or, or_true, or_self, not_true_eq_false, not_false_eq_true, false_and, and_false, false_implies, true_implies, forall_const, ne_eq, Decidable.not_not, List.length_cons, List.length_nil, reduceCtorEq, Int.toNat_zero, Int.toNat_one, Int.cast_ofNat_Int, Nat.reduceAdd, Nat.reduceSub, Nat.reduceMul, Nat.reduceLT, Nat.reduceLeDiff, Nat.reduceEqDiff, Int.reduceAdd, Int.reduceSub, Int.reduceMul, Int.reduceNeg, Int.reduceLT, Int.reduceLE, Int.reduceEq, Int.reduceNe, Int.reduceToNat, t_8_bestBreak X]
    repeat (simp only [icmp_b, aif_b, cmp]; simp (maxSteps := 4000000) only [blk_s, blk_z, a_const, a_iload, a_aload, a_istore, a_astore, a_iinc, a_add, a_sub, a_mul, a_div, a_rem, a_dup, a_dup2, a_goto, a_ifnull, a_tsw, a_gi, a_gr, a_pi, a_ald, a_sld, a_ast, a_aald, a_len, a_gst, a_copy, a_max, a_min, a_iret, a_zret, a_aret, a_ret, a_cv, a_cn, a_sv, a_sn, icmp_t, icmp_f, aif_t, aif_f, lget, lset, fget, rget, apop, isO, Kv, Kn, fitb0, cmp, swl, InR, up, cpy, ↓reduceIte, if_true, if_false, Nat.left_eq_add, Nat.add_eq_left, Nat.add_left_cancel_iff, Nat.reduceEqDiff, Nat.zero_le, true_and, and_true, true_or, or_true, or_self, not_true_eq_false, not_false_eq_true, false_and, and_false, false_implies, true_implies, forall_const, ne_eq, Decidable.not_not, List.length_cons, List.length_nil, reduceCtorEq, Int.toNat_zero, Int.toNat_one, Int.cast_ofNat_Int, Nat.reduceAdd, Nat.reduceSub, Nat.reduceMul, Nat.reduceLT, Nat.reduceLeDiff, Nat.reduceEqDiff, Int.reduceAdd, Int.reduceSub, Int.reduceMul, Int.reduceNeg, Int.reduceLT, Int.reduceLE, Int.reduceEq, Int.reduceNe, Int.reduceToNat, t_8_bestBreak X])
    exact lp
  · have h1 := h1 (by omega)
    refine blk_wp (tok_8_bestBreak X) 1000 _ _ _ _ _ ?_
    simp (maxSteps := 4000000) only [blk_s, blk_z, a_const, a_iload, a_aload, a_istore, a_astore, a_iinc, a_add, a_sub, a_mul, a_div, a_rem, a_dup, a_dup2, a_goto, a_ifnull, a_tsw, a_gi, a_gr, a_pi, a_ald, a_sld, a_ast, a_aald, a_len, a_gst, a_copy, a_max, a_min, a_iret, a_zret, a_aret, a_ret, a_cv, a_cn, a_sv, a_sn, icmp_t, icmp_f, aif_t, aif_f, lget, lset, fget, rget, apop, isO, Kv, Kn, fitb0, cmp, swl, InR, up, cpy, ↓reduceIte, if_true, if_false, Nat.left_eq_add, Nat.add_eq_left, Nat.add_left_cancel_iff, Nat.reduceEqDiff, Nat.zero_le, true_and, and_true, true_or, or_true, or_self, not_true_eq_false, not_false_eq_true, false_and, and_false, false_implies, true_implies, forall_const, ne_eq, Decidable.not_not, List.length_cons, List.length_nil, reduceCtorEq, Int.toNat_zero, Int.toNat_one, Int.cast_ofNat_Int, Nat.reduceAdd, Nat.reduceSub, Nat.reduceMul, Nat.reduceLT, Nat.reduceLeDiff, Nat.reduceEqDiff, Int.reduceAdd, Int.reduceSub, Int.reduceMul, Int.reduceNeg, Int.reduceLT, Int.reduceLE, Int.reduceEq, Int.reduceNe, Int.reduceToNat, t_8_bestBreak X, sxM hG, c]
    repeat (simp only [icmp_b, aif_b, cmp]; simp (maxSteps := 4000000) only [blk_s, blk_z, a_const, a_iload, a_aload, a_istore, a_astore, a_iinc, a_add, a_sub, a_mul, a_div, a_rem, a_dup, a_dup2, a_goto, a_ifnull, a_tsw, a_gi, a_gr, a_pi, a_ald, a_sld, a_ast, a_aald, a_len, a_gst, a_copy, a_max, a_min, a_iret, a_zret, a_aret, a_ret, a_cv, a_cn, a_sv, a_sn, icmp_t, icmp_f, aif_t, aif_f, lget, lset, fget, rget, apop, isO, Kv, Kn, fitb0, cmp, swl, InR, up, cpy, ↓reduceIte, if_true, if_false, Nat.left_eq_add, Nat.add_eq_left, Nat.add_left_cancel_iff, Nat.reduceEqDiff, Nat.zero_le, true_and, and_true, true_or, or_true, or_self, not_true_eq_false, not_false_eq_true, false_and, and_false, false_implies, true_implies, forall_const, ne_eq, Decidable.not_not, List.length_cons, List.length_nil, reduceCtorEq, Int.toNat_zero, Int.toNat_one, Int.cast_ofNat_Int, Nat.reduceAdd, Nat.reduceSub, Nat.reduceMul, Nat.reduceLT, Nat.reduceLeDiff, Nat.reduceEqDiff, Int.reduceAdd, Int.reduceSub, Int.reduceMul, Int.reduceNeg, Int.reduceLT, Int.reduceLE, Int.reduceEq, Int.reduceNe, Int.reduceToNat, t_8_bestBreak X, sxM hG, c])
    repeat' (first | assumption | with_reducible apply And.intro | with_reducible intro _)
    all_goals (try omega)
end
