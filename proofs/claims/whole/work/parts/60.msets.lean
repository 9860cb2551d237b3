/-- the check's tables, finished -/
def MF (V L σ : Sto) : Prop := (σ 179 5 = L 0 1 ∧ σ 179 10 = L 0 2) ∧ (∀ k, 0 ≤ k → k < L 0 1 → σ 184 k = L 126 k ∧ ∀ s, (s = 0 ∨ s = 1) → σ 185 (2 * k + s) = L (sF s) k ∧ σ 186 (2 * k + s) = L (sN s) k ∧ σ 187 (2 * k + s) = L (sB s) k) ∧ (∀ j, 0 ≤ j → j ≤ L 0 2 → σ 188 j = L 123 j) ∧ (∀ j, 0 ≤ j → j < L 0 2 → σ 189 j = L 124 j) ∧
  (∀ j s, 0 ≤ j → j < L 0 2 → (s = 0 ∨ s = 1) → σ 190 (2 * j + s) = L 135 (2 * j + s) ∧ σ 191 (2 * j + s) = L 138 (2 * j + s) + SL V (nbS s) (L 141 (2 * j + s)) (L 141 (2 * j + s) + L 140 (2 * j + s)) - L 139 (2 * j + s) ∧ σ 192 (2 * j + s) = L 139 (2 * j + s) ∧ σ 193 (2 * j + s) = L 141 (2 * j + s)) ∧ ∀ s, (s = 0 ∨ s = 1) → σ 193 (2 * L 0 2 + s) = L 4 s
theorem ml_cl {V A σ σ' : Sto} {h s : Int} (hs : s = 0 ∨ s = 1) (hL : ML V A 1 σ) (hC : ClR V A h s σ σ') : ML V A 1 σ' := by
  obtain ⟨m1, m2, m3, m4, m5, m6⟩ := hL
  obtain ⟨r1, r2, r3, r4, r5⟩ := hC
  refine ⟨by rw [r1 179 (by omega)]; exact m1, fun t ht => by rw [r1 194 (by omega)]; exact m2 t ht, fun k k0 k1 => by rw [r1 184 (by omega), r1 185 (by omega), r1 186 (by omega), r1 187 (by omega)]; exact m3 k k0 k1, fun j j0 j1 => by rw [r1 188 (by omega), r1 189 (by omega)]; exact m4 j j0 j1, fun j t j0 j1 ht => ?_, fun t ht => ?_⟩
  · rw [r2, r3, r4, r5, if_neg (by omega), if_neg (by omega), if_neg (by omega), if_neg (by omega)]
    exact m5 j t j0 j1 ht
  · rw [r5, if_neg (by omega)]
    exact m6 t ht
theorem ml_end {V B σ σ1 σ2 : Sto} {h : Int} (hB : 0 ≤ B 0 2) (hL : ML V B 1 σ) (h0 : ClR V B h 0 σ σ1) (h1 : ClR V B h 1 σ1 σ2) : ML V (endA V B h) 0 (up σ2 179 10 (B 0 2 + 1)) := by
  obtain ⟨⟨a1, a2, a3⟩, a4, a5, a6, a7, a8, a9⟩ := endA_v V B h
  obtain ⟨⟨l1, l2, l3⟩, l4, l5, l6, l7, l8⟩ := hL
  obtain ⟨r1, r2, r3, r4, r5⟩ := h0
  obtain ⟨q1, q2, q3, q4, q5⟩ := h1
  have k : ∀ a, (a < 190 ∨ 193 < a) → a ≠ 179 → up σ2 179 10 (B 0 2 + 1) a = σ a := fun a ha hb => by rw [up_other hb, q1 a ha, r1 a ha]
  have u : ∀ a, a ≠ 179 → up σ2 179 10 (B 0 2 + 1) a = σ2 a := fun a ha => up_other ha
  have z : ∀ j, j ≠ 10 → up σ2 179 10 (B 0 2 + 1) 179 j = σ 179 j := fun j hj => by
    simp only [up, hj, and_false, if_false]
    rw [q1 179 (by omega), r1 179 (by omega)]
  refine ⟨⟨by rw [z 5 (by omega), a2]; exact l1, by rw [a3]; simp [up], by rw [z 17 (by omega), a1]; exact l3⟩, fun s hs => by rw [k 194 (by omega) (by omega), a5]; exact l4 s hs, fun i i0 i1 => ?_, fun j j0 j1 => ?_, fun j s j0 j1 hs => ?_, fun s hs => ?_⟩
  · rw [a2] at i1
    obtain ⟨f1, f2⟩ := l5 i i0 i1
    rw [k 184 (by omega) (by omega), a7 126 (by omega)]
    refine ⟨f1, fun s hs => ?_⟩
    have e1 : (124 ≤ sB s ∧ sB s ≤ 134) ∧ (124 ≤ sN s ∧ sN s ≤ 134) ∧ (124 ≤ sF s ∧ sF s ≤ 134) := by unfold sB sN sF; omega
    rw [k 185 (by omega) (by omega), k 186 (by omega) (by omega), k 187 (by omega) (by omega), a7 _ e1.1, a7 _ e1.2.1, a7 _ e1.2.2]
    exact f2 s hs
  · rw [a3] at j1
    have := l6 j j0 (by omega)
    rw [k 188 (by omega) (by omega), k 189 (by omega) (by omega), a6, if_neg (by omega), a7 124 (by omega)]
    exact this
  · rw [a3] at j1
    rw [u 190 (by omega), u 191 (by omega), u 192 (by omega), u 193 (by omega), q2, q3, q4, q5, r2, r3, r4, r5]
    by_cases c : j = B 0 2
    · obtain ⟨b1, b2, b3, b4, b5, b6, b7⟩ := a8 s hs
      rw [c, b1, b4, b5, b6, b7, show B 4 s + (B 5 s - B 4 s) = B 5 s by omega]
      have := l8 s hs
      rcases hs with rfl | rfl
      · rw [if_neg (by omega), if_pos rfl, if_neg (by omega), if_pos rfl, if_neg (by omega), if_pos rfl, if_neg (by omega), if_neg (by omega)]
        exact ⟨rfl, rfl, rfl, this⟩
      · rw [if_pos rfl, if_pos rfl, if_pos rfl, if_neg (by omega), if_neg (by omega)]
        exact ⟨rfl, rfl, rfl, this⟩
    · have n : ∀ w, (135 ≤ w ∧ w ≤ 141) → endA V B h w (2 * j + s) = B w (2 * j + s) := fun w hw => a9 w _ hw (by omega) (by omega)
      rw [n 135 (by omega), n 138 (by omega), n 139 (by omega), n 140 (by omega), n 141 (by omega), if_neg (by omega), if_neg (by omega), if_neg (by omega), if_neg (by omega), if_neg (by omega), if_neg (by omega), if_neg (by omega), if_neg (by omega)]
      exact l7 j s j0 (by omega) hs
  · obtain ⟨b1, b2, b3, b4, b5⟩ := a4 s hs
    rw [a3, b4, u 193 (by omega), q5, r5]
    rcases hs with rfl | rfl
    · rw [if_neg (by omega), if_pos (by omega)]
    · rw [if_pos (by omega)]
theorem om_sp {V : Sto} {h : Int} (hV : EdOK V) (hh : h ≤ 60) : ∀ (n : Nat) (A : Sto), AOK V A → AGo A → OM A → OM (spA V h n A)
  | 0, A, _, _, hO => hO
  | n + 1, A, hA, hg, hO => by
    have h3 : 1 ≤ V 17 3 := hV.2.2.2.2.2.2.2.2.2.2.1.1
    have hs := aok_step hV hA hg hh
    have r3 := (restA_v V A).1.2.2
    have r8 := (restA_v V A).2.2.2.2.2.2.2.2.1
    have hi : OM (stepA V A h) := by
      rcases step_c V A h h3 with ⟨c, e⟩ | ⟨c, e | ⟨c1, c2, e⟩ | ⟨c1, c2, e⟩⟩
      · rw [e]
        unfold OM at *
        rw [r3, r8]
        exact hO
      · rw [e]
        exact hO
      · rw [e]
        unfold OM at *
        rw [(splA_v V A _).1.2.2, (splA_v V A _).2.2.2.2.2.2.2.2.1]
        exact hO
      · rw [e]
        have e2 : (up (restA V A) 124 (A 0 2) 1) 0 2 = A 0 2 := by
          rw [up_other (by decide)]
          exact r3
        unfold OM
        rw [e2]
        right
        simp [up]
    unfold spA
    by_cases c : goesA V A h
    · rw [if_pos c]
      exact om_sp hV hh n _ hs.1 (hs.2.2 c).1 hi
    · rw [if_neg c]
      exact hi
theorem cl_fr {V A σ σ' : Sto} {h s : Int} (hC : ClR V A h s σ σ') : FrM σ σ' := ⟨fun a a1 a2 => hC.1 a (by omega), by rw [hC.1 179 (by omega)]⟩
section
variable {X : XT} {G : List Sh} {σ : Sto} {Q : QT}
set_option maxRecDepth 40000 in
theorem lp_min (hG : MSh G) {V B : Sto} {h w : Int} (hE : ∀ σ', MX V h B σ' → FrM σ σ' → WPc X M_8_sets Q 99 [some (.inr 179), some (.inl w), some (.inl 0)] [] (G, 0, 0) σ') :
    ∀ (k : Nat) (A σ1 : Sto), MX V h A σ1 → AGo A → V 1 0 - A 0 0 ≤ k → spA V h (k + 1) A = B → FrM σ σ1 → WPc X M_8_sets Q 87 [some (.inr 179), some (.inl w), some (.inl 1)] [] (G, 0, 0) σ1 := by
  intro k
  induction k with
  | zero =>
    intro A σ1 hX hg hp hB hf
    obtain ⟨hV, hA, hC, hP, hM, hL, hh, h6⟩ := id hX
    have ng : ¬ goesA V A h := fun q => by have := q.1; omega
    have hB' : @ite _ (goesA V A h) (Classical.propDecidable _) (spA V h 0 (stepA V A h)) (stepA V A h) = B := hB
    rw [if_neg ng] at hB'
    have hs := aok_step hV hA hg hh.2
    refine blk_at (tok_8_sets X) 1000 rfl ?_
    simp (maxSteps := 4000000) only [blk_s, blk_z, a_const, a_iload, a_aload, a_istore, a_astore, a_iinc, a_add, a_sub, a_mul, a_div, a_rem, a_dup, a_dup2, a_goto, a_ifnull, a_tsw, a_gi, a_gr, a_pi, a_ald, a_sld, a_ast, a_aald, a_len, a_gst, a_copy, a_max, a_min, a_iret, a_zret, a_aret, a_ret, a_cv, a_cn, a_sv, a_sn, icmp_t, icmp_f, aif_t, aif_f, lget, lset, fget, rget, apop, isO, Kv, Kn, fitb0, cmp, swl, InR, up, cpy, ↓reduceIte, if_true, if_false, Nat.left_eq_add, Nat.add_eq_left, Nat.add_left_cancel_iff, Nat.reduceEqDiff, Nat.zero_le, true_and, and_true, true_or, or_true, not_true_eq_false, not_false_eq_true, false_and, and_false, false_implies, true_implies, forall_const, ne_eq, Decidable.not_not, List.length_cons, List.length_nil, reduceCtorEq, Int.toNat_zero, Int.toNat_one, Int.cast_ofNat_Int, Nat.reduceAdd, Nat.reduceSub, Nat.reduceMul, Nat.reduceLT, Nat.reduceLeDiff, Nat.reduceEqDiff, Int.reduceAdd, Int.reduceSub, Int.reduceMul, Int.reduceNeg, Int.reduceLT, Int.reduceLE, Int.reduceEq, Int.reduceNe, Int.reduceToNat, t_8_sets X, sxM hG]
    repeat (simp only [icmp_b, aif_b, cmp]; simp (maxSteps := 4000000) only [blk_s, blk_z, a_const, a_iload, a_aload, a_istore, a_astore, a_iinc, a_add, a_sub, a_mul, a_div, a_rem, a_dup, a_dup2, a_goto, a_ifnull, a_tsw, a_gi, a_gr, a_pi, a_ald, a_sld, a_ast, a_aald, a_len, a_gst, a_copy, a_max, a_min, a_iret, a_zret, a_aret, a_ret, a_cv, a_cn, a_sv, a_sn, icmp_t, icmp_f, aif_t, aif_f, lget, lset, fget, rget, apop, isO, Kv, Kn, fitb0, cmp, swl, InR, up, cpy, ↓reduceIte, if_true, if_false, Nat.left_eq_add, Nat.add_eq_left, Nat.add_left_cancel_iff, Nat.reduceEqDiff, Nat.zero_le, true_and, and_true, true_or, or_true, not_true_eq_false, not_false_eq_true, false_and, and_false, false_implies, true_implies, forall_const, ne_eq, Decidable.not_not, List.length_cons, List.length_nil, reduceCtorEq, Int.toNat_zero, Int.toNat_one, Int.cast_ofNat_Int, Nat.reduceAdd, Nat.reduceSub, Nat.reduceMul, Nat.reduceLT, Nat.reduceLeDiff, Nat.reduceEqDiff, Int.reduceAdd, Int.reduceSub, Int.reduceMul, Int.reduceNeg, Int.reduceLT, Int.reduceLE, Int.reduceEq, Int.reduceNe, Int.reduceToNat, t_8_sets X, sxM hG])
    repeat' (first | assumption | with_reducible apply And.intro | with_reducible intro _)
    all_goals (try omega)
    refine mm_goesOn hG hX (fun q => absurd q ng) (fun _ σ2 m2 f2 => ?_)
    have X2 : MX V h (stepA V A h) σ2 := ⟨hV, hs.1, ci_step hV hA hC, pi_c hP hs.2.1, by rw [f2.1 180 (by omega) (by omega)]; exact hM, m2, hh, by rw [hs.2.1.1]; exact h6⟩
    rw [hB'] at X2
    have fin := hE σ2 X2 (frm_t hf f2)
    simp (maxSteps := 4000000) only [blk_s, blk_z, a_const, a_iload, a_aload, a_istore, a_astore, a_iinc, a_add, a_sub, a_mul, a_div, a_rem, a_dup, a_dup2, a_goto, a_ifnull, a_tsw, a_gi, a_gr, a_pi, a_ald, a_sld, a_ast, a_aald, a_len, a_gst, a_copy, a_max, a_min, a_iret, a_zret, a_aret, a_ret, a_cv, a_cn, a_sv, a_sn, icmp_t, icmp_f, aif_t, aif_f, lget, lset, fget, rget, apop, isO, Kv, Kn, fitb0, cmp, swl, InR, up, cpy, ↓reduceIte, if_true, if_false, Nat.left_eq_add, Nat.add_eq_left, Nat.add_left_cancel_iff, Nat.reduceEqDiff, Nat.zero_le, true_and, and_true, true_or, or_true, not_true_eq_false, not_false_eq_true, false_and, and_false, false_implies, true_implies, forall_const, ne_eq, Decidable.not_not, List.length_cons, List.length_nil, reduceCtorEq, Int.toNat_zero, Int.toNat_one, Int.cast_ofNat_Int, Nat.reduceAdd, Nat.reduceSub, Nat.reduceMul, Nat.reduceLT, Nat.reduceLeDiff, Nat.reduceEqDiff, Int.reduceAdd, Int.reduceSub, Int.reduceMul, Int.reduceNeg, Int.reduceLT, Int.reduceLE, Int.reduceEq, Int.reduceNe, Int.reduceToNat, t_8_sets X]
    repeat (simp only [icmp_b, aif_b, cmp]; simp (maxSteps := 4000000) only [blk_s, blk_z, a_const, a_iload, a_aload, a_istore, a_astore, a_iinc, a_add, a_sub, a_mul, a_div, a_rem, a_dup, a_dup2, a_goto, a_ifnull, a_tsw, a_gi, a_gr, a_pi, a_ald, a_sld, a_ast, a_aald, a_len, a_gst, a_copy, a_max, a_min, a_iret, a_zret, a_aret, a_ret, a_cv, a_cn, a_sv, a_sn, icmp_t, icmp_f, aif_t, aif_f, lget, lset, fget, rget, apop, isO, Kv, Kn, fitb0, cmp, swl, InR, up, cpy, ↓reduceIte, if_true, if_false, Nat.left_eq_add, Nat.add_eq_left, Nat.add_left_cancel_iff, Nat.reduceEqDiff, Nat.zero_le, true_and, and_true, true_or, or_true, not_true_eq_false, not_false_eq_true, false_and, and_false, false_implies, true_implies, forall_const, ne_eq, Decidable.not_not, List.length_cons, List.length_nil, reduceCtorEq, Int.toNat_zero, Int.toNat_one, Int.cast_ofNat_Int, Nat.reduceAdd, Nat.reduceSub, Nat.reduceMul, Nat.reduceLT, Nat.reduceLeDiff, Nat.reduceEqDiff, Int.reduceAdd, Int.reduceSub, Int.reduceMul, Int.reduceNeg, Int.reduceLT, Int.reduceLE, Int.reduceEq, Int.reduceNe, Int.reduceToNat, t_8_sets X])
    refine blk_at (tok_8_sets X) 1 rfl ?_
    simp (maxSteps := 4000000) only [blk_s, blk_z, a_const, a_iload, a_aload, a_istore, a_astore, a_iinc, a_add, a_sub, a_mul, a_div, a_rem, a_dup, a_dup2, a_goto, a_ifnull, a_tsw, a_gi, a_gr, a_pi, a_ald, a_sld, a_ast, a_aald, a_len, a_gst, a_copy, a_max, a_min, a_iret, a_zret, a_aret, a_ret, a_cv, a_cn, a_sv, a_sn, icmp_t, icmp_f, aif_t, aif_f, lget, lset, fget, rget, apop, isO, Kv, Kn, fitb0, cmp, swl, InR, up, cpy, ↓reduceIte, if_true, if_false, Nat.left_eq_add, Nat.add_eq_left, Nat.add_left_cancel_iff, Nat.reduceEqDiff, Nat.zero_le, true_and, and_true, true_or, or_true, not_true_eq_false, not_false_eq_true, false_and, and_false, false_implies, true_implies, forall_const, ne_eq, Decidable.not_not, List.length_cons, List.length_nil, reduceCtorEq, Int.toNat_zero, Int.toNat_one, Int.cast_ofNat_Int, Nat.reduceAdd, Nat.reduceSub, Nat.reduceMul, Nat.reduceLT, Nat.reduceLeDiff, Nat.reduceEqDiff, Int.reduceAdd, Int.reduceSub, Int.reduceMul, Int.reduceNeg, Int.reduceLT, Int.reduceLE, Int.reduceEq, Int.reduceNe, Int.reduceToNat, t_8_sets X]
    repeat (simp only [icmp_b, aif_b, cmp]; simp (maxSteps := 4000000) only [blk_s, blk_z, a_const, a_iload, a_aload, a_istore, a_astore, a_iinc, a_add, a_sub, a_mul, a_div, a_rem, a_dup, a_dup2, a_goto, a_ifnull, a_tsw, a_gi, a_gr, a_pi, a_ald, a_sld, a_ast, a_aald, a_len, a_gst, a_copy, a_max, a_min, a_iret, a_zret, a_aret, a_ret, a_cv, a_cn, a_sv, a_sn, icmp_t, icmp_f, aif_t, aif_f, lget, lset, fget, rget, apop, isO, Kv, Kn, fitb0, cmp, swl, InR, up, cpy, ↓reduceIte, if_true, if_false, Nat.left_eq_add, Nat.add_eq_left, Nat.add_left_cancel_iff, Nat.reduceEqDiff, Nat.zero_le, true_and, and_true, true_or, or_true, not_true_eq_false, not_false_eq_true, false_and, and_false, false_implies, true_implies, forall_const, ne_eq, Decidable.not_not, List.length_cons, List.length_nil, reduceCtorEq, Int.toNat_zero, Int.toNat_one, Int.cast_ofNat_Int, Nat.reduceAdd, Nat.reduceSub, Nat.reduceMul, Nat.reduceLT, Nat.reduceLeDiff, Nat.reduceEqDiff, Int.reduceAdd, Int.reduceSub, Int.reduceMul, Int.reduceNeg, Int.reduceLT, Int.reduceLE, Int.reduceEq, Int.reduceNe, Int.reduceToNat, t_8_sets X])
    exact fin
  | succ k ih =>
    intro A σ1 hX hg hp hB hf
    obtain ⟨hV, hA, hC, hP, hM, hL, hh, h6⟩ := id hX
    have hB' : @ite _ (goesA V A h) (Classical.propDecidable _) (spA V h (k + 1) (stepA V A h)) (stepA V A h) = B := hB
    have hs := aok_step hV hA hg hh.2
    refine blk_at (tok_8_sets X) 1000 rfl ?_
    simp (maxSteps := 4000000) only [blk_s, blk_z, a_const, a_iload, a_aload, a_istore, a_astore, a_iinc, a_add, a_sub, a_mul, a_div, a_rem, a_dup, a_dup2, a_goto, a_ifnull, a_tsw, a_gi, a_gr, a_pi, a_ald, a_sld, a_ast, a_aald, a_len, a_gst, a_copy, a_max, a_min, a_iret, a_zret, a_aret, a_ret, a_cv, a_cn, a_sv, a_sn, icmp_t, icmp_f, aif_t, aif_f, lget, lset, fget, rget, apop, isO, Kv, Kn, fitb0, cmp, swl, InR, up, cpy, ↓reduceIte, if_true, if_false, Nat.left_eq_add, Nat.add_eq_left, Nat.add_left_cancel_iff, Nat.reduceEqDiff, Nat.zero_le, true_and, and_true, true_or, or_true, not_true_eq_false, not_false_eq_true, false_and, and_false, false_implies, true_implies, forall_const, ne_eq, Decidable.not_not, List.length_cons, List.length_nil, reduceCtorEq, Int.toNat_zero, Int.toNat_one, Int.cast_ofNat_Int, Nat.reduceAdd, Nat.reduceSub, Nat.reduceMul, Nat.reduceLT, Nat.reduceLeDiff, Nat.reduceEqDiff, Int.reduceAdd, Int.reduceSub, Int.reduceMul, Int.reduceNeg, Int.reduceLT, Int.reduceLE, Int.reduceEq, Int.reduceNe, Int.reduceToNat, t_8_sets X, sxM hG]
    repeat (simp only [icmp_b, aif_b, cmp]; simp (maxSteps := 4000000) only [blk_s, blk_z, a_const, a_iload, a_aload, a_istore, a_astore, a_iinc, a_add, a_sub, a_mul, a_div, a_rem, a_dup, a_dup2, a_goto, a_ifnull, a_tsw, a_gi, a_gr, a_pi, a_ald, a_sld, a_ast, a_aald, a_len, a_gst, a_copy, a_max, a_min, a_iret, a_zret, a_aret, a_ret, a_cv, a_cn, a_sv, a_sn, icmp_t, icmp_f, aif_t, aif_f, lget, lset, fget, rget, apop, isO, Kv, Kn, fitb0, cmp, swl, InR, up, cpy, ↓reduceIte, if_true, if_false, Nat.left_eq_add, Nat.add_eq_left, Nat.add_left_cancel_iff, Nat.reduceEqDiff, Nat.zero_le, true_and, and_true, true_or, or_true, not_true_eq_false, not_false_eq_true, false_and, and_false, false_implies, true_implies, forall_const, ne_eq, Decidable.not_not, List.length_cons, List.length_nil, reduceCtorEq, Int.toNat_zero, Int.toNat_one, Int.cast_ofNat_Int, Nat.reduceAdd, Nat.reduceSub, Nat.reduceMul, Nat.reduceLT, Nat.reduceLeDiff, Nat.reduceEqDiff, Int.reduceAdd, Int.reduceSub, Int.reduceMul, Int.reduceNeg, Int.reduceLT, Int.reduceLE, Int.reduceEq, Int.reduceNe, Int.reduceToNat, t_8_sets X, sxM hG])
    repeat' (first | assumption | with_reducible apply And.intro | with_reducible intro _)
    all_goals (try omega)
    refine mm_goesOn hG hX (fun c σ2 m2 f2 => ?_) (fun c σ2 m2 f2 => ?_)
    · rw [if_pos c] at hB'
      have X2 : MX V h (stepA V A h) σ2 := ⟨hV, hs.1, ci_step hV hA hC, pi_c hP hs.2.1, by rw [f2.1 180 (by omega) (by omega)]; exact hM, m2, hh, by rw [hs.2.1.1]; exact h6⟩
      have q := hs.2.2 c
      have ih := ih (stepA V A h) σ2 X2 q.1 (by omega) hB' (frm_t hf f2)
      simp (maxSteps := 4000000) only [blk_s, blk_z, a_const, a_iload, a_aload, a_istore, a_astore, a_iinc, a_add, a_sub, a_mul, a_div, a_rem, a_dup, a_dup2, a_goto, a_ifnull, a_tsw, a_gi, a_gr, a_pi, a_ald, a_sld, a_ast, a_aald, a_len, a_gst, a_copy, a_max, a_min, a_iret, a_zret, a_aret, a_ret, a_cv, a_cn, a_sv, a_sn, icmp_t, icmp_f, aif_t, aif_f, lget, lset, fget, rget, apop, isO, Kv, Kn, fitb0, cmp, swl, InR, up, cpy, ↓reduceIte, if_true, if_false, Nat.left_eq_add, Nat.add_eq_left, Nat.add_left_cancel_iff, Nat.reduceEqDiff, Nat.zero_le, true_and, and_true, true_or, or_true, not_true_eq_false, not_false_eq_true, false_and, and_false, false_implies, true_implies, forall_const, ne_eq, Decidable.not_not, List.length_cons, List.length_nil, reduceCtorEq, Int.toNat_zero, Int.toNat_one, Int.cast_ofNat_Int, Nat.reduceAdd, Nat.reduceSub, Nat.reduceMul, Nat.reduceLT, Nat.reduceLeDiff, Nat.reduceEqDiff, Int.reduceAdd, Int.reduceSub, Int.reduceMul, Int.reduceNeg, Int.reduceLT, Int.reduceLE, Int.reduceEq, Int.reduceNe, Int.reduceToNat, t_8_sets X]
      repeat (simp only [icmp_b, aif_b, cmp]; simp (maxSteps := 4000000) only [blk_s, blk_z, a_const, a_iload, a_aload, a_istore, a_astore, a_iinc, a_add, a_sub, a_mul, a_div, a_rem, a_dup, a_dup2, a_goto, a_ifnull, a_tsw, a_gi, a_gr, a_pi, a_ald, a_sld, a_ast, a_aald, a_len, a_gst, a_copy, a_max, a_min, a_iret, a_zret, a_aret, a_ret, a_cv, a_cn, a_sv, a_sn, icmp_t, icmp_f, aif_t, aif_f, lget, lset, fget, rget, apop, isO, Kv, Kn, fitb0, cmp, swl, InR, up, cpy, ↓reduceIte, if_true, if_false, Nat.left_eq_add, Nat.add_eq_left, Nat.add_left_cancel_iff, Nat.reduceEqDiff, Nat.zero_le, true_and, and_true, true_or, or_true, not_true_eq_false, not_false_eq_true, false_and, and_false, false_implies, true_implies, forall_const, ne_eq, Decidable.not_not, List.length_cons, List.length_nil, reduceCtorEq, Int.toNat_zero, Int.toNat_one, Int.cast_ofNat_Int, Nat.reduceAdd, Nat.reduceSub, Nat.reduceMul, Nat.reduceLT, Nat.reduceLeDiff, Nat.reduceEqDiff, Int.reduceAdd, Int.reduceSub, Int.reduceMul, Int.reduceNeg, Int.reduceLT, Int.reduceLE, Int.reduceEq, Int.reduceNe, Int.reduceToNat, t_8_sets X])
      exact ih
    · rw [if_neg c] at hB'
      have X2 : MX V h (stepA V A h) σ2 := ⟨hV, hs.1, ci_step hV hA hC, pi_c hP hs.2.1, by rw [f2.1 180 (by omega) (by omega)]; exact hM, m2, hh, by rw [hs.2.1.1]; exact h6⟩
      rw [hB'] at X2
      have fin := hE σ2 X2 (frm_t hf f2)
      simp (maxSteps := 4000000) only [blk_s, blk_z, a_const, a_iload, a_aload, a_istore, a_astore, a_iinc, a_add, a_sub, a_mul, a_div, a_rem, a_dup, a_dup2, a_goto, a_ifnull, a_tsw, a_gi, a_gr, a_pi, a_ald, a_sld, a_ast, a_aald, a_len, a_gst, a_copy, a_max, a_min, a_iret, a_zret, a_aret, a_ret, a_cv, a_cn, a_sv, a_sn, icmp_t, icmp_f, aif_t, aif_f, lget, lset, fget, rget, apop, isO, Kv, Kn, fitb0, cmp, swl, InR, up, cpy, ↓reduceIte, if_true, if_false, Nat.left_eq_add, Nat.add_eq_left, Nat.add_left_cancel_iff, Nat.reduceEqDiff, Nat.zero_le, true_and, and_true, true_or, or_true, not_true_eq_false, not_false_eq_true, false_and, and_false, false_implies, true_implies, forall_const, ne_eq, Decidable.not_not, List.length_cons, List.length_nil, reduceCtorEq, Int.toNat_zero, Int.toNat_one, Int.cast_ofNat_Int, Nat.reduceAdd, Nat.reduceSub, Nat.reduceMul, Nat.reduceLT, Nat.reduceLeDiff, Nat.reduceEqDiff, Int.reduceAdd, Int.reduceSub, Int.reduceMul, Int.reduceNeg, Int.reduceLT, Int.reduceLE, Int.reduceEq, Int.reduceNe, Int.reduceToNat, t_8_sets X]
      repeat (simp only [icmp_b, aif_b, cmp]; simp (maxSteps := 4000000) only [blk_s, blk_z, a_const, a_iload, a_aload, a_istore, a_astore, a_iinc, a_add, a_sub, a_mul, a_div, a_rem, a_dup, a_dup2, a_goto, a_ifnull, a_tsw, a_gi, a_gr, a_pi, a_ald, a_sld, a_ast, a_aald, a_len, a_gst, a_copy, a_max, a_min, a_iret, a_zret, a_aret, a_ret, a_cv, a_cn, a_sv, a_sn, icmp_t, icmp_f, aif_t, aif_f, lget, lset, fget, rget, apop, isO, Kv, Kn, fitb0, cmp, swl, InR, up, cpy, ↓reduceIte, if_true, if_false, Nat.left_eq_add, Nat.add_eq_left, Nat.add_left_cancel_iff, Nat.reduceEqDiff, Nat.zero_le, true_and, and_true, true_or, or_true, not_true_eq_false, not_false_eq_true, false_and, and_false, false_implies, true_implies, forall_const, ne_eq, Decidable.not_not, List.length_cons, List.length_nil, reduceCtorEq, Int.toNat_zero, Int.toNat_one, Int.cast_ofNat_Int, Nat.reduceAdd, Nat.reduceSub, Nat.reduceMul, Nat.reduceLT, Nat.reduceLeDiff, Nat.reduceEqDiff, Int.reduceAdd, Int.reduceSub, Int.reduceMul, Int.reduceNeg, Int.reduceLT, Int.reduceLE, Int.reduceEq, Int.reduceNe, Int.reduceToNat, t_8_sets X])
      refine blk_at (tok_8_sets X) 1 rfl ?_
      simp (maxSteps := 4000000) only [blk_s, blk_z, a_const, a_iload, a_aload, a_istore, a_astore, a_iinc, a_add, a_sub, a_mul, a_div, a_rem, a_dup, a_dup2, a_goto, a_ifnull, a_tsw, a_gi, a_gr, a_pi, a_ald, a_sld, a_ast, a_aald, a_len, a_gst, a_copy, a_max, a_min, a_iret, a_zret, a_aret, a_ret, a_cv, a_cn, a_sv, a_sn, icmp_t, icmp_f, aif_t, aif_f, lget, lset, fget, rget, apop, isO, Kv, Kn, fitb0, cmp, swl, InR, up, cpy, ↓reduceIte, if_true, if_false, Nat.left_eq_add, Nat.add_eq_left, Nat.add_left_cancel_iff, Nat.reduceEqDiff, Nat.zero_le, true_and, and_true, true_or, or_true, not_true_eq_false, not_false_eq_true, false_and, and_false, false_implies, true_implies, forall_const, ne_eq, Decidable.not_not, List.length_cons, List.length_nil, reduceCtorEq, Int.toNat_zero, Int.toNat_one, Int.cast_ofNat_Int, Nat.reduceAdd, Nat.reduceSub, Nat.reduceMul, Nat.reduceLT, Nat.reduceLeDiff, Nat.reduceEqDiff, Int.reduceAdd, Int.reduceSub, Int.reduceMul, Int.reduceNeg, Int.reduceLT, Int.reduceLE, Int.reduceEq, Int.reduceNe, Int.reduceToNat, t_8_sets X]
      repeat (simp only [icmp_b, aif_b, cmp]; simp (maxSteps := 4000000) only [blk_s, blk_z, a_const, a_iload, a_aload, a_istore, a_astore, a_iinc, a_add, a_sub, a_mul, a_div, a_rem, a_dup, a_dup2, a_goto, a_ifnull, a_tsw, a_gi, a_gr, a_pi, a_ald, a_sld, a_ast, a_aald, a_len, a_gst, a_copy, a_max, a_min, a_iret, a_zret, a_aret, a_ret, a_cv, a_cn, a_sv, a_sn, icmp_t, icmp_f, aif_t, aif_f, lget, lset, fget, rget, apop, isO, Kv, Kn, fitb0, cmp, swl, InR, up, cpy, ↓reduceIte, if_true, if_false, Nat.left_eq_add, Nat.add_eq_left, Nat.add_left_cancel_iff, Nat.reduceEqDiff, Nat.zero_le, true_and, and_true, true_or, or_true, not_true_eq_false, not_false_eq_true, false_and, and_false, false_implies, true_implies, forall_const, ne_eq, Decidable.not_not, List.length_cons, List.length_nil, reduceCtorEq, Int.toNat_zero, Int.toNat_one, Int.cast_ofNat_Int, Nat.reduceAdd, Nat.reduceSub, Nat.reduceMul, Nat.reduceLT, Nat.reduceLeDiff, Nat.reduceEqDiff, Int.reduceAdd, Int.reduceSub, Int.reduceMul, Int.reduceNeg, Int.reduceLT, Int.reduceLE, Int.reduceEq, Int.reduceNe, Int.reduceToNat, t_8_sets X])
      exact fin
set_option maxRecDepth 40000 in
theorem lp_sets (hG : MSh G) {V R : Sto} {h : Int} (hV : EdOK V) (hh : 8 ≤ h ∧ h ≤ 60) (hQ : ∀ σ', MF V R σ' → FrM σ σ' → Q none G σ') :
    ∀ (m : Nat) (n : Int) (A σ1 : Sto) (b : Int), n + m = 602 → 1 ≤ m → A 0 2 = n → AOK V A → AFr A → ASp V A → PI V A h → MDh V h (σ1 180) → ML V A 0 σ1 → layA V h m A = R → FrM σ σ1 → (b = 1 ∧ (A 0 0 < V 1 0 ∨ 0 < A 3 0 + A 3 1) ∨ b = 0 ∧ ¬ (A 0 0 < V 1 0 ∨ 0 < A 3 0 + A 3 1)) → WPc X M_8_sets Q 58 [some (.inr 179), some (.inl b), none] [] (G, 0, 0) σ1 := by
  intro m
  induction m with
  | zero => intro n A σ1 b h1 h2; omega
  | succ m ih =>
    intro n A σ1 b h1 h2 h3 hA hfr hsp hP hM hL hR hf hb
    have hn := hV.1
    have hnn := hA.2.2.2.1
    have sgb := (sg_b hV hA).1
    have sg0 := hA.2.2.1.1
    obtain ⟨⟨l1, l2, l3⟩, l4, l5, l6, l7, l8⟩ := id hL
    rcases hb with ⟨rfl, c⟩ | ⟨rfl, c⟩
    · obtain ⟨g1, g2, g3, g4, g5⟩ := asp_end hV hA hfr hh.2 hsp c
      have hR' : layA V h m (endA V (spA V h 21 (up A 124 (A 0 2) 0)) h) = R := by
        rw [← hR]
        show _ = (if A 0 0 < V 1 0 ∨ 0 < A 3 0 + A 3 1 then layA V h m (endA V (spA V h 21 (up A 124 (A 0 2) 0)) h) else A)
        rw [if_pos c]
      obtain ⟨A1, hA1⟩ : ∃ Z, Z = up A 124 (A 0 2) 0 := ⟨_, rfl⟩
      have u : ∀ a, a ≠ 124 → A1 a = A a := fun a ha => by rw [hA1, up_other ha]
      have f1 : AFr A1 := by
        unfold AFr at *
        rw [u 123 (by omega), u 0 (by omega), u 1 (by omega), u 2 (by omega), u 4 (by omega), u 5 (by omega)]
        exact hfr
      have ak : AKp A A1 := ⟨by rw [u 0 (by omega)], u 123 (by omega), u 3 (by omega), u 4 (by omega), fun w hw => u w (by omega), by rw [u 0 (by omega)]; exact Int.le_refl _, fun j hj => by rw [hA1]; simp [up, hj]⟩
      obtain ⟨σ2, E2⟩ : ∃ z, z = up (up σ1 188 (A 0 2) (A 0 1)) 189 (A 0 2) 0 := ⟨_, rfl⟩
      have k2 : ∀ a, a ≠ 188 → a ≠ 189 → σ2 a = σ1 a := fun a a1 a2 => by rw [E2, up_other a2, up_other a1]
      have X2 : MX V h A1 σ2 := by
        refine ⟨hV, by rw [hA1]; exact aok_up hA, ci_fr f1, pi_c hP ak, by rw [k2 180 (by omega) (by omega)]; exact hM, ?_, hh, by rw [u 0 (by omega)]; exact g1⟩
        have e1 : ∀ s, sB s ≠ 124 ∧ sN s ≠ 124 ∧ sF s ≠ 124 := fun s => by unfold sB sN sF; omega
        refine ⟨by rw [k2 179 (by omega) (by omega), u 0 (by omega)]; exact ⟨l1, l2, l3⟩, fun s hs => by rw [k2 194 (by omega) (by omega), u 6 (by omega)]; exact l4 s hs, fun k k0 k1 => ?_, fun j j0 j1 => ?_, fun j s j0 j1 hs => ?_, fun s hs => by rw [k2 193 (by omega) (by omega), u 0 (by omega), u 4 (by omega)]; exact l8 s hs⟩
        · rw [u 0 (by omega)] at k1
          rw [k2 184 (by omega) (by omega), k2 185 (by omega) (by omega), k2 186 (by omega) (by omega), k2 187 (by omega) (by omega), u 126 (by omega)]
          obtain ⟨q1, q2⟩ := l5 k k0 k1
          refine ⟨q1, fun s hs => ?_⟩
          rw [u _ (e1 s).1, u _ (e1 s).2.1, u _ (e1 s).2.2]
          exact q2 s hs
        · rw [u 0 (by omega)] at j1
          rw [u 123 (by omega)]
          by_cases e : j = A 0 2
          · rw [e, hfr.1, E2, hA1]
            simp [up]
          · have := l6 j j0 (by omega)
            rw [E2, hA1]
            simp only [up, e, and_false, if_false, Nat.reduceEqDiff, false_and]
            exact this
        · rw [u 0 (by omega)] at j1
          rw [k2 190 (by omega) (by omega), k2 191 (by omega) (by omega), k2 192 (by omega) (by omega), k2 193 (by omega) (by omega), u 135 (by omega), u 138 (by omega), u 139 (by omega), u 140 (by omega), u 141 (by omega)]
          exact l7 j s j0 j1 hs
      have fr2 : FrM σ σ2 := ⟨fun a a1 a2 => by rw [k2 a (by omega) (by omega)]; exact hf.1 a a1 a2, by rw [k2 179 (by omega) (by omega)]; exact hf.2⟩
      have lp : WPc X M_8_sets Q 87 [some (.inr 179), some (.inl 1), some (.inl 1)] [] (G, 0, 0) σ2 := by
        refine lp_min (σ := σ) hG (fun σ3 X3 f3 => ?_) 20 A1 σ2 X2 (afr_go f1) (by rw [u 0 (by omega)]; have := hA.1; omega) rfl fr2
        obtain ⟨B, hB⟩ : ∃ B, B = spA V h (20 + 1) A1 := ⟨_, rfl⟩
        rw [← hB] at X3
        have hB' : spA V h 21 (up A 124 (A 0 2) 0) = B := by rw [hB, hA1]
        rw [hB'] at g2 g3 g4 g5 hR'
        obtain ⟨-, hA3, hC3, hP3, hM3, hL3, -, h63⟩ := id X3
        have b2 : B 0 2 = A 0 2 := by
          obtain ⟨⟨a1, a2, a3⟩, -⟩ := endA_v V B h
          omega
        have hO : OM B := by
          rw [hB]
          refine om_sp hV hh.2 _ A1 X2.2.1 (afr_go f1) ?_
          unfold OM
          rw [u 0 (by omega), hA1]
          left
          simp [up]
        refine blk_at (tok_8_sets X) 1000 rfl ?_
        simp (maxSteps := 4000000) only [blk_s, blk_z, a_const, a_iload, a_aload, a_istore, a_astore, a_iinc, a_add, a_sub, a_mul, a_div, a_rem, a_dup, a_dup2, a_goto, a_ifnull, a_tsw, a_gi, a_gr, a_pi, a_ald, a_sld, a_ast, a_aald, a_len, a_gst, a_copy, a_max, a_min, a_iret, a_zret, a_aret, a_ret, a_cv, a_cn, a_sv, a_sn, icmp_t, icmp_f, aif_t, aif_f, lget, lset, fget, rget, apop, isO, Kv, Kn, fitb0, cmp, swl, InR, up, cpy, ↓reduceIte, if_true, if_false, Nat.left_eq_add, Nat.add_eq_left, Nat.add_left_cancel_iff, Nat.reduceEqDiff, Nat.zero_le, true_and, and_true, true_or, or_true, not_true_eq_false, not_false_eq_true, false_and, and_false, false_implies, true_implies, forall_const, ne_eq, Decidable.not_not, List.length_cons, List.length_nil, reduceCtorEq, Int.toNat_zero, Int.toNat_one, Int.cast_ofNat_Int, Nat.reduceAdd, Nat.reduceSub, Nat.reduceMul, Nat.reduceLT, Nat.reduceLeDiff, Nat.reduceEqDiff, Int.reduceAdd, Int.reduceSub, Int.reduceMul, Int.reduceNeg, Int.reduceLT, Int.reduceLE, Int.reduceEq, Int.reduceNe, Int.reduceToNat, t_8_sets X, sxM hG]
        repeat (simp only [icmp_b, aif_b, cmp]; simp (maxSteps := 4000000) only [blk_s, blk_z, a_const, a_iload, a_aload, a_istore, a_astore, a_iinc, a_add, a_sub, a_mul, a_div, a_rem, a_dup, a_dup2, a_goto, a_ifnull, a_tsw, a_gi, a_gr, a_pi, a_ald, a_sld, a_ast, a_aald, a_len, a_gst, a_copy, a_max, a_min, a_iret, a_zret, a_aret, a_ret, a_cv, a_cn, a_sv, a_sn, icmp_t, icmp_f, aif_t, aif_f, lget, lset, fget, rget, apop, isO, Kv, Kn, fitb0, cmp, swl, InR, up, cpy, ↓reduceIte, if_true, if_false, Nat.left_eq_add, Nat.add_eq_left, Nat.add_left_cancel_iff, Nat.reduceEqDiff, Nat.zero_le, true_and, and_true, true_or, or_true, not_true_eq_false, not_false_eq_true, false_and, and_false, false_implies, true_implies, forall_const, ne_eq, Decidable.not_not, List.length_cons, List.length_nil, reduceCtorEq, Int.toNat_zero, Int.toNat_one, Int.cast_ofNat_Int, Nat.reduceAdd, Nat.reduceSub, Nat.reduceMul, Nat.reduceLT, Nat.reduceLeDiff, Nat.reduceEqDiff, Int.reduceAdd, Int.reduceSub, Int.reduceMul, Int.reduceNeg, Int.reduceLT, Int.reduceLE, Int.reduceEq, Int.reduceNe, Int.reduceToNat, t_8_sets X, sxM hG])
        repeat' (first | assumption | with_reducible apply And.intro | with_reducible intro _)
        all_goals (try omega)
        refine mm_closes hG X3 (Or.inl rfl) (fun σ4 c4 => ?_)
        have L4 := ml_cl (Or.inl rfl) hL3 c4
        have X4 : MX V h B σ4 := ⟨hV, hA3, hC3, hP3, by rw [c4.1 180 (by omega)]; exact hM3, L4, hh, h63⟩
        simp (maxSteps := 4000000) only [blk_s, blk_z, a_const, a_iload, a_aload, a_istore, a_astore, a_iinc, a_add, a_sub, a_mul, a_div, a_rem, a_dup, a_dup2, a_goto, a_ifnull, a_tsw, a_gi, a_gr, a_pi, a_ald, a_sld, a_ast, a_aald, a_len, a_gst, a_copy, a_max, a_min, a_iret, a_zret, a_aret, a_ret, a_cv, a_cn, a_sv, a_sn, icmp_t, icmp_f, aif_t, aif_f, lget, lset, fget, rget, apop, isO, Kv, Kn, fitb0, cmp, swl, InR, up, cpy, ↓reduceIte, if_true, if_false, Nat.left_eq_add, Nat.add_eq_left, Nat.add_left_cancel_iff, Nat.reduceEqDiff, Nat.zero_le, true_and, and_true, true_or, or_true, not_true_eq_false, not_false_eq_true, false_and, and_false, false_implies, true_implies, forall_const, ne_eq, Decidable.not_not, List.length_cons, List.length_nil, reduceCtorEq, Int.toNat_zero, Int.toNat_one, Int.cast_ofNat_Int, Nat.reduceAdd, Nat.reduceSub, Nat.reduceMul, Nat.reduceLT, Nat.reduceLeDiff, Nat.reduceEqDiff, Int.reduceAdd, Int.reduceSub, Int.reduceMul, Int.reduceNeg, Int.reduceLT, Int.reduceLE, Int.reduceEq, Int.reduceNe, Int.reduceToNat, t_8_sets X, sxM hG]
        repeat (simp only [icmp_b, aif_b, cmp]; simp (maxSteps := 4000000) only [blk_s, blk_z, a_const, a_iload, a_aload, a_istore, a_astore, a_iinc, a_add, a_sub, a_mul, a_div, a_rem, a_dup, a_dup2, a_goto, a_ifnull, a_tsw, a_gi, a_gr, a_pi, a_ald, a_sld, a_ast, a_aald, a_len, a_gst, a_copy, a_max, a_min, a_iret, a_zret, a_aret, a_ret, a_cv, a_cn, a_sv, a_sn, icmp_t, icmp_f, aif_t, aif_f, lget, lset, fget, rget, apop, isO, Kv, Kn, fitb0, cmp, swl, InR, up, cpy, ↓reduceIte, if_true, if_false, Nat.left_eq_add, Nat.add_eq_left, Nat.add_left_cancel_iff, Nat.reduceEqDiff, Nat.zero_le, true_and, and_true, true_or, or_true, not_true_eq_false, not_false_eq_true, false_and, and_false, false_implies, true_implies, forall_const, ne_eq, Decidable.not_not, List.length_cons, List.length_nil, reduceCtorEq, Int.toNat_zero, Int.toNat_one, Int.cast_ofNat_Int, Nat.reduceAdd, Nat.reduceSub, Nat.reduceMul, Nat.reduceLT, Nat.reduceLeDiff, Nat.reduceEqDiff, Int.reduceAdd, Int.reduceSub, Int.reduceMul, Int.reduceNeg, Int.reduceLT, Int.reduceLE, Int.reduceEq, Int.reduceNe, Int.reduceToNat, t_8_sets X, sxM hG])
        repeat' (first | assumption | with_reducible apply And.intro | with_reducible intro _)
        all_goals (try omega)
        refine mm_closes hG X4 (Or.inr rfl) (fun σ5 c5 => ?_)
        have L6 := ml_end (by omega) hL3 c4 c5
        have M5 : MDh V h (σ5 180) := by rw [c5.1 180 (by omega), c4.1 180 (by omega)]; exact hM3
        have z10 : σ5 179 10 = B 0 2 := by rw [c5.1 179 (by omega), c4.1 179 (by omega)]; exact hL3.1.2.1
        have z17 : σ5 179 17 = B 0 0 := by rw [c5.1 179 (by omega), c4.1 179 (by omega)]; exact hL3.1.2.2
        have zd := M5.1
        have zc0 : σ5 192 (2 * (B 0 2 + 1) - 2) = cA V B h 0 := by
          rw [c5.2.2.2.1, if_neg (by omega), c4.2.2.2.1, if_pos (by omega)]
        have zc1 : σ5 192 (2 * (B 0 2 + 1) - 1) = cA V B h 1 := by
          rw [c5.2.2.2.1, if_pos (by omega)]
        obtain ⟨⟨a1, a2, a3⟩, a4, -⟩ := endA_v V B h
        have ec0 : endA V B h 3 0 = cA V B h 0 := (a4 0 (Or.inl rfl)).2.2.1
        have ec1 : endA V B h 3 1 = cA V B h 1 := (a4 1 (Or.inr rfl)).2.2.1
        have cb0 := cA_b (V := V) (A := B) (h := h) (s := 0) hV.2.2.2.2.2.2.2
        have cb1 := cA_b (V := V) (A := B) (h := h) (s := 1) hV.2.2.2.2.2.2.2
        have fr6 : FrM σ (up σ5 179 10 (B 0 2 + 1)) := by
          have := frm_t (frm_t f3 (cl_fr c4)) (cl_fr c5)
          exact ⟨fun a a1 a2 => by rw [up_other a2]; exact this.1 a a1 a2, by simp [up]; exact this.2⟩
        have nx : ∀ b', (b' = 1 ∧ (endA V B h 0 0 < V 1 0 ∨ 0 < endA V B h 3 0 + endA V B h 3 1) ∨ b' = 0 ∧ ¬ (endA V B h 0 0 < V 1 0 ∨ 0 < endA V B h 3 0 + endA V B h 3 1)) → WPc X M_8_sets Q 58 [some (.inr 179), some (.inl b'), some (.inl 0)] [] (G, 0, 0) (up σ5 179 10 (B 0 2 + 1)) := fun b' hb' =>
          WPc_L (L' := [some (.inr 179), some (.inl b'), none]) (lsub_c (lsub_c (lsub_n lsub_r))) (ih (n + 1) (endA V B h) (up σ5 179 10 (B 0 2 + 1)) b' (by omega) (by omega) (by rw [a3, b2, h3]) g2 g3 g4 (pi_end hV hA3 hP3 hO) (by rw [up_other (by omega)]; exact M5) L6 hR' fr6 hb')
        rw [a1, ec0, ec1] at nx
        by_cases d1 : B 0 0 < V 1 0
        · have nx := nx 1 (Or.inl ⟨rfl, Or.inl d1⟩)
          simp (maxSteps := 4000000) only [blk_s, blk_z, a_const, a_iload, a_aload, a_istore, a_astore, a_iinc, a_add, a_sub, a_mul, a_div, a_rem, a_dup, a_dup2, a_goto, a_ifnull, a_tsw, a_gi, a_gr, a_pi, a_ald, a_sld, a_ast, a_aald, a_len, a_gst, a_copy, a_max, a_min, a_iret, a_zret, a_aret, a_ret, a_cv, a_cn, a_sv, a_sn, icmp_t, icmp_f, aif_t, aif_f, lget, lset, fget, rget, apop, isO, Kv, Kn, fitb0, cmp, swl, InR, up, cpy, ↓reduceIte, if_true, if_false, Nat.left_eq_add, Nat.add_eq_left, Nat.add_left_cancel_iff, Nat.reduceEqDiff, Nat.zero_le, true_and, and_true, true_or, or_true, not_true_eq_false, not_false_eq_true, false_and, and_false, false_implies, true_implies, forall_const, ne_eq, Decidable.not_not, List.length_cons, List.length_nil, reduceCtorEq, Int.toNat_zero, Int.toNat_one, Int.cast_ofNat_Int, Nat.reduceAdd, Nat.reduceSub, Nat.reduceMul, Nat.reduceLT, Nat.reduceLeDiff, Nat.reduceEqDiff, Int.reduceAdd, Int.reduceSub, Int.reduceMul, Int.reduceNeg, Int.reduceLT, Int.reduceLE, Int.reduceEq, Int.reduceNe, Int.reduceToNat, t_8_sets X, sxM hG, z10, z17, zd, d1]
          repeat (simp only [icmp_b, aif_b, cmp]; simp (maxSteps := 4000000) only [blk_s, blk_z, a_const, a_iload, a_aload, a_istore, a_astore, a_iinc, a_add, a_sub, a_mul, a_div, a_rem, a_dup, a_dup2, a_goto, a_ifnull, a_tsw, a_gi, a_gr, a_pi, a_ald, a_sld, a_ast, a_aald, a_len, a_gst, a_copy, a_max, a_min, a_iret, a_zret, a_aret, a_ret, a_cv, a_cn, a_sv, a_sn, icmp_t, icmp_f, aif_t, aif_f, lget, lset, fget, rget, apop, isO, Kv, Kn, fitb0, cmp, swl, InR, up, cpy, ↓reduceIte, if_true, if_false, Nat.left_eq_add, Nat.add_eq_left, Nat.add_left_cancel_iff, Nat.reduceEqDiff, Nat.zero_le, true_and, and_true, true_or, or_true, not_true_eq_false, not_false_eq_true, false_and, and_false, false_implies, true_implies, forall_const, ne_eq, Decidable.not_not, List.length_cons, List.length_nil, reduceCtorEq, Int.toNat_zero, Int.toNat_one, Int.cast_ofNat_Int, Nat.reduceAdd, Nat.reduceSub, Nat.reduceMul, Nat.reduceLT, Nat.reduceLeDiff, Nat.reduceEqDiff, Int.reduceAdd, Int.reduceSub, Int.reduceMul, Int.reduceNeg, Int.reduceLT, Int.reduceLE, Int.reduceEq, Int.reduceNe, Int.reduceToNat, t_8_sets X, sxM hG, z10, z17, zd, d1])
          repeat' (first | assumption | with_reducible apply And.intro | with_reducible intro _)
          all_goals (try omega)
        · by_cases d2 : 0 < cA V B h 0
          · have nx := nx 1 (Or.inl ⟨rfl, Or.inr (by omega)⟩)
            simp (maxSteps := 4000000) only [blk_s, blk_z, a_const, a_iload, a_aload, a_istore, a_astore, a_iinc, a_add, a_sub, a_mul, a_div, a_rem, a_dup, a_dup2, a_goto, a_ifnull, a_tsw, a_gi, a_gr, a_pi, a_ald, a_sld, a_ast, a_aald, a_len, a_gst, a_copy, a_max, a_min, a_iret, a_zret, a_aret, a_ret, a_cv, a_cn, a_sv, a_sn, icmp_t, icmp_f, aif_t, aif_f, lget, lset, fget, rget, apop, isO, Kv, Kn, fitb0, cmp, swl, InR, up, cpy, ↓reduceIte, if_true, if_false, Nat.left_eq_add, Nat.add_eq_left, Nat.add_left_cancel_iff, Nat.reduceEqDiff, Nat.zero_le, true_and, and_true, true_or, or_true, not_true_eq_false, not_false_eq_true, false_and, and_false, false_implies, true_implies, forall_const, ne_eq, Decidable.not_not, List.length_cons, List.length_nil, reduceCtorEq, Int.toNat_zero, Int.toNat_one, Int.cast_ofNat_Int, Nat.reduceAdd, Nat.reduceSub, Nat.reduceMul, Nat.reduceLT, Nat.reduceLeDiff, Nat.reduceEqDiff, Int.reduceAdd, Int.reduceSub, Int.reduceMul, Int.reduceNeg, Int.reduceLT, Int.reduceLE, Int.reduceEq, Int.reduceNe, Int.reduceToNat, t_8_sets X, sxM hG, z10, z17, zd, d1, zc0, zc1, d2]
            repeat (simp only [icmp_b, aif_b, cmp]; simp (maxSteps := 4000000) only [blk_s, blk_z, a_const, a_iload, a_aload, a_istore, a_astore, a_iinc, a_add, a_sub, a_mul, a_div, a_rem, a_dup, a_dup2, a_goto, a_ifnull, a_tsw, a_gi, a_gr, a_pi, a_ald, a_sld, a_ast, a_aald, a_len, a_gst, a_copy, a_max, a_min, a_iret, a_zret, a_aret, a_ret, a_cv, a_cn, a_sv, a_sn, icmp_t, icmp_f, aif_t, aif_f, lget, lset, fget, rget, apop, isO, Kv, Kn, fitb0, cmp, swl, InR, up, cpy, ↓reduceIte, if_true, if_false, Nat.left_eq_add, Nat.add_eq_left, Nat.add_left_cancel_iff, Nat.reduceEqDiff, Nat.zero_le, true_and, and_true, true_or, or_true, not_true_eq_false, not_false_eq_true, false_and, and_false, false_implies, true_implies, forall_const, ne_eq, Decidable.not_not, List.length_cons, List.length_nil, reduceCtorEq, Int.toNat_zero, Int.toNat_one, Int.cast_ofNat_Int, Nat.reduceAdd, Nat.reduceSub, Nat.reduceMul, Nat.reduceLT, Nat.reduceLeDiff, Nat.reduceEqDiff, Int.reduceAdd, Int.reduceSub, Int.reduceMul, Int.reduceNeg, Int.reduceLT, Int.reduceLE, Int.reduceEq, Int.reduceNe, Int.reduceToNat, t_8_sets X, sxM hG, z10, z17, zd, d1, zc0, zc1, d2])
            repeat' (first | assumption | with_reducible apply And.intro | with_reducible intro _)
            all_goals (try omega)
          · by_cases d3 : 0 < cA V B h 1
            · have nx := nx 1 (Or.inl ⟨rfl, Or.inr (by omega)⟩)
              simp (maxSteps := 4000000) only [blk_s, blk_z, a_const, a_iload, a_aload, a_istore, a_astore, a_iinc, a_add, a_sub, a_mul, a_div, a_rem, a_dup, a_dup2, a_goto, a_ifnull, a_tsw, a_gi, a_gr, a_pi, a_ald, a_sld, a_ast, a_aald, a_len, a_gst, a_copy, a_max, a_min, a_iret, a_zret, a_aret, a_ret, a_cv, a_cn, a_sv, a_sn, icmp_t, icmp_f, aif_t, aif_f, lget, lset, fget, rget, apop, isO, Kv, Kn, fitb0, cmp, swl, InR, up, cpy, ↓reduceIte, if_true, if_false, Nat.left_eq_add, Nat.add_eq_left, Nat.add_left_cancel_iff, Nat.reduceEqDiff, Nat.zero_le, true_and, and_true, true_or, or_true, not_true_eq_false, not_false_eq_true, false_and, and_false, false_implies, true_implies, forall_const, ne_eq, Decidable.not_not, List.length_cons, List.length_nil, reduceCtorEq, Int.toNat_zero, Int.toNat_one, Int.cast_ofNat_Int, Nat.reduceAdd, Nat.reduceSub, Nat.reduceMul, Nat.reduceLT, Nat.reduceLeDiff, Nat.reduceEqDiff, Int.reduceAdd, Int.reduceSub, Int.reduceMul, Int.reduceNeg, Int.reduceLT, Int.reduceLE, Int.reduceEq, Int.reduceNe, Int.reduceToNat, t_8_sets X, sxM hG, z10, z17, zd, d1, zc0, zc1, d2, show ¬ (cA V B h 1 ≤ 0) by omega]
              repeat (simp only [icmp_b, aif_b, cmp]; simp (maxSteps := 4000000) only [blk_s, blk_z, a_const, a_iload, a_aload, a_istore, a_astore, a_iinc, a_add, a_sub, a_mul, a_div, a_rem, a_dup, a_dup2, a_goto, a_ifnull, a_tsw, a_gi, a_gr, a_pi, a_ald, a_sld, a_ast, a_aald, a_len, a_gst, a_copy, a_max, a_min, a_iret, a_zret, a_aret, a_ret, a_cv, a_cn, a_sv, a_sn, icmp_t, icmp_f, aif_t, aif_f, lget, lset, fget, rget, apop, isO, Kv, Kn, fitb0, cmp, swl, InR, up, cpy, ↓reduceIte, if_true, if_false, Nat.left_eq_add, Nat.add_eq_left, Nat.add_left_cancel_iff, Nat.reduceEqDiff, Nat.zero_le, true_and, and_true, true_or, or_true, not_true_eq_false, not_false_eq_true, false_and, and_false, false_implies, true_implies, forall_const, ne_eq, Decidable.not_not, List.length_cons, List.length_nil, reduceCtorEq, Int.toNat_zero, Int.toNat_one, Int.cast_ofNat_Int, Nat.reduceAdd, Nat.reduceSub, Nat.reduceMul, Nat.reduceLT, Nat.reduceLeDiff, Nat.reduceEqDiff, Int.reduceAdd, Int.reduceSub, Int.reduceMul, Int.reduceNeg, Int.reduceLT, Int.reduceLE, Int.reduceEq, Int.reduceNe, Int.reduceToNat, t_8_sets X, sxM hG, z10, z17, zd, d1, zc0, zc1, d2, show ¬ (cA V B h 1 ≤ 0) by omega])
              repeat' (first | assumption | with_reducible apply And.intro | with_reducible intro _)
              all_goals (try omega)
            · have nx := nx 0 (Or.inr ⟨rfl, by omega⟩)
              simp (maxSteps := 4000000) only [blk_s, blk_z, a_const, a_iload, a_aload, a_istore, a_astore, a_iinc, a_add, a_sub, a_mul, a_div, a_rem, a_dup, a_dup2, a_goto, a_ifnull, a_tsw, a_gi, a_gr, a_pi, a_ald, a_sld, a_ast, a_aald, a_len, a_gst, a_copy, a_max, a_min, a_iret, a_zret, a_aret, a_ret, a_cv, a_cn, a_sv, a_sn, icmp_t, icmp_f, aif_t, aif_f, lget, lset, fget, rget, apop, isO, Kv, Kn, fitb0, cmp, swl, InR, up, cpy, ↓reduceIte, if_true, if_false, Nat.left_eq_add, Nat.add_eq_left, Nat.add_left_cancel_iff, Nat.reduceEqDiff, Nat.zero_le, true_and, and_true, true_or, or_true, not_true_eq_false, not_false_eq_true, false_and, and_false, false_implies, true_implies, forall_const, ne_eq, Decidable.not_not, List.length_cons, List.length_nil, reduceCtorEq, Int.toNat_zero, Int.toNat_one, Int.cast_ofNat_Int, Nat.reduceAdd, Nat.reduceSub, Nat.reduceMul, Nat.reduceLT, Nat.reduceLeDiff, Nat.reduceEqDiff, Int.reduceAdd, Int.reduceSub, Int.reduceMul, Int.reduceNeg, Int.reduceLT, Int.reduceLE, Int.reduceEq, Int.reduceNe, Int.reduceToNat, t_8_sets X, sxM hG, z10, z17, zd, d1, zc0, zc1, d2, show cA V B h 1 ≤ 0 by omega]
              repeat (simp only [icmp_b, aif_b, cmp]; simp (maxSteps := 4000000) only [blk_s, blk_z, a_const, a_iload, a_aload, a_istore, a_astore, a_iinc, a_add, a_sub, a_mul, a_div, a_rem, a_dup, a_dup2, a_goto, a_ifnull, a_tsw, a_gi, a_gr, a_pi, a_ald, a_sld, a_ast, a_aald, a_len, a_gst, a_copy, a_max, a_min, a_iret, a_zret, a_aret, a_ret, a_cv, a_cn, a_sv, a_sn, icmp_t, icmp_f, aif_t, aif_f, lget, lset, fget, rget, apop, isO, Kv, Kn, fitb0, cmp, swl, InR, up, cpy, ↓reduceIte, if_true, if_false, Nat.left_eq_add, Nat.add_eq_left, Nat.add_left_cancel_iff, Nat.reduceEqDiff, Nat.zero_le, true_and, and_true, true_or, or_true, not_true_eq_false, not_false_eq_true, false_and, and_false, false_implies, true_implies, forall_const, ne_eq, Decidable.not_not, List.length_cons, List.length_nil, reduceCtorEq, Int.toNat_zero, Int.toNat_one, Int.cast_ofNat_Int, Nat.reduceAdd, Nat.reduceSub, Nat.reduceMul, Nat.reduceLT, Nat.reduceLeDiff, Nat.reduceEqDiff, Int.reduceAdd, Int.reduceSub, Int.reduceMul, Int.reduceNeg, Int.reduceLT, Int.reduceLE, Int.reduceEq, Int.reduceNe, Int.reduceToNat, t_8_sets X, sxM hG, z10, z17, zd, d1, zc0, zc1, d2, show cA V B h 1 ≤ 0 by omega])
              repeat' (first | assumption | with_reducible apply And.intro | with_reducible intro _)
              all_goals (try omega)
      rw [E2] at lp
      refine blk_at (tok_8_sets X) 1000 rfl ?_
      simp (maxSteps := 4000000) only [blk_s, blk_z, a_const, a_iload, a_aload, a_istore, a_astore, a_iinc, a_add, a_sub, a_mul, a_div, a_rem, a_dup, a_dup2, a_goto, a_ifnull, a_tsw, a_gi, a_gr, a_pi, a_ald, a_sld, a_ast, a_aald, a_len, a_gst, a_copy, a_max, a_min, a_iret, a_zret, a_aret, a_ret, a_cv, a_cn, a_sv, a_sn, icmp_t, icmp_f, aif_t, aif_f, lget, lset, fget, rget, apop, isO, Kv, Kn, fitb0, cmp, swl, InR, up, cpy, ↓reduceIte, if_true, if_false, Nat.left_eq_add, Nat.add_eq_left, Nat.add_left_cancel_iff, Nat.reduceEqDiff, Nat.zero_le, true_and, and_true, true_or, or_true, not_true_eq_false, not_false_eq_true, false_and, and_false, false_implies, true_implies, forall_const, ne_eq, Decidable.not_not, List.length_cons, List.length_nil, reduceCtorEq, Int.toNat_zero, Int.toNat_one, Int.cast_ofNat_Int, Nat.reduceAdd, Nat.reduceSub, Nat.reduceMul, Nat.reduceLT, Nat.reduceLeDiff, Nat.reduceEqDiff, Int.reduceAdd, Int.reduceSub, Int.reduceMul, Int.reduceNeg, Int.reduceLT, Int.reduceLE, Int.reduceEq, Int.reduceNe, Int.reduceToNat, t_8_sets X, sxM hG, l1, l2]
      repeat (simp only [icmp_b, aif_b, cmp]; simp (maxSteps := 4000000) only [blk_s, blk_z, a_const, a_iload, a_aload, a_istore, a_astore, a_iinc, a_add, a_sub, a_mul, a_div, a_rem, a_dup, a_dup2, a_goto, a_ifnull, a_tsw, a_gi, a_gr, a_pi, a_ald, a_sld, a_ast, a_aald, a_len, a_gst, a_copy, a_max, a_min, a_iret, a_zret, a_aret, a_ret, a_cv, a_cn, a_sv, a_sn, icmp_t, icmp_f, aif_t, aif_f, lget, lset, fget, rget, apop, isO, Kv, Kn, fitb0, cmp, swl, InR, up, cpy, ↓reduceIte, if_true, if_false, Nat.left_eq_add, Nat.add_eq_left, Nat.add_left_cancel_iff, Nat.reduceEqDiff, Nat.zero_le, true_and, and_true, true_or, or_true, not_true_eq_false, not_false_eq_true, false_and, and_false, false_implies, true_implies, forall_const, ne_eq, Decidable.not_not, List.length_cons, List.length_nil, reduceCtorEq, Int.toNat_zero, Int.toNat_one, Int.cast_ofNat_Int, Nat.reduceAdd, Nat.reduceSub, Nat.reduceMul, Nat.reduceLT, Nat.reduceLeDiff, Nat.reduceEqDiff, Int.reduceAdd, Int.reduceSub, Int.reduceMul, Int.reduceNeg, Int.reduceLT, Int.reduceLE, Int.reduceEq, Int.reduceNe, Int.reduceToNat, t_8_sets X, sxM hG, l1, l2])
      repeat' (first | assumption | with_reducible apply And.intro | with_reducible intro _)
      all_goals (try omega)
    · rw [lay_end c] at hR
      subst hR
      have fin := hQ (up σ1 188 (A 0 2) (A 0 1)) ⟨by rw [up_other (by omega)]; exact ⟨l1, l2⟩, fun k k0 k1 => by rw [up_other (by omega), up_other (by omega), up_other (by omega), up_other (by omega)]; exact l5 k k0 k1, fun j j0 j1 => by
        simp only [up, true_and]
        by_cases e : j = A 0 2
        · rw [if_pos e, e, hfr.1]
        · rw [if_neg e]
          exact (l6 j j0 (by omega)).1, fun j j0 j1 => by rw [up_other (by omega)]; exact (l6 j j0 (by omega)).2, fun j s j0 j1 hs => by rw [up_other (by omega), up_other (by omega), up_other (by omega), up_other (by omega)]; exact l7 j s j0 j1 hs, fun s hs => by rw [up_other (by omega)]; exact l8 s hs⟩ ⟨fun a a1 a2 => by rw [up_other (by omega)]; exact hf.1 a a1 a2, by rw [up_other (by omega)]; exact hf.2⟩
      refine blk_at (tok_8_sets X) 1000 rfl ?_
      simp (maxSteps := 4000000) only [blk_s, blk_z, a_const, a_iload, a_aload, a_istore, a_astore, a_iinc, a_add, a_sub, a_mul, a_div, a_rem, a_dup, a_dup2, a_goto, a_ifnull, a_tsw, a_gi, a_gr, a_pi, a_ald, a_sld, a_ast, a_aald, a_len, a_gst, a_copy, a_max, a_min, a_iret, a_zret, a_aret, a_ret, a_cv, a_cn, a_sv, a_sn, icmp_t, icmp_f, aif_t, aif_f, lget, lset, fget, rget, apop, isO, Kv, Kn, fitb0, cmp, swl, InR, up, cpy, ↓reduceIte, if_true, if_false, Nat.left_eq_add, Nat.add_eq_left, Nat.add_left_cancel_iff, Nat.reduceEqDiff, Nat.zero_le, true_and, and_true, true_or, or_true, not_true_eq_false, not_false_eq_true, false_and, and_false, false_implies, true_implies, forall_const, ne_eq, Decidable.not_not, List.length_cons, List.length_nil, reduceCtorEq, Int.toNat_zero, Int.toNat_one, Int.cast_ofNat_Int, Nat.reduceAdd, Nat.reduceSub, Nat.reduceMul, Nat.reduceLT, Nat.reduceLeDiff, Nat.reduceEqDiff, Int.reduceAdd, Int.reduceSub, Int.reduceMul, Int.reduceNeg, Int.reduceLT, Int.reduceLE, Int.reduceEq, Int.reduceNe, Int.reduceToNat, t_8_sets X, sxM hG, l1, l2]
      repeat (simp only [icmp_b, aif_b, cmp]; simp (maxSteps := 4000000) only [blk_s, blk_z, a_const, a_iload, a_aload, a_istore, a_astore, a_iinc, a_add, a_sub, a_mul, a_div, a_rem, a_dup, a_dup2, a_goto, a_ifnull, a_tsw, a_gi, a_gr, a_pi, a_ald, a_sld, a_ast, a_aald, a_len, a_gst, a_copy, a_max, a_min, a_iret, a_zret, a_aret, a_ret, a_cv, a_cn, a_sv, a_sn, icmp_t, icmp_f, aif_t, aif_f, lget, lset, fget, rget, apop, isO, Kv, Kn, fitb0, cmp, swl, InR, up, cpy, ↓reduceIte, if_true, if_false, Nat.left_eq_add, Nat.add_eq_left, Nat.add_left_cancel_iff, Nat.reduceEqDiff, Nat.zero_le, true_and, and_true, true_or, or_true, not_true_eq_false, not_false_eq_true, false_and, and_false, false_implies, true_implies, forall_const, ne_eq, Decidable.not_not, List.length_cons, List.length_nil, reduceCtorEq, Int.toNat_zero, Int.toNat_one, Int.cast_ofNat_Int, Nat.reduceAdd, Nat.reduceSub, Nat.reduceMul, Nat.reduceLT, Nat.reduceLeDiff, Nat.reduceEqDiff, Int.reduceAdd, Int.reduceSub, Int.reduceMul, Int.reduceNeg, Int.reduceLT, Int.reduceLE, Int.reduceEq, Int.reduceNe, Int.reduceToNat, t_8_sets X, sxM hG, l1, l2])
      repeat' (first | assumption | with_reducible apply And.intro | with_reducible intro _)
      all_goals (try omega)
set_option maxRecDepth 40000 in
theorem mm_sets (hG : MSh G) {V : Sto} {h : Int} (hV : EdOK V) (hh : 8 ≤ h ∧ h ≤ 60) (hM : MDh V h (σ 180)) (hQ : ∀ σ', MF V (lay V h) σ' → FrM σ σ' → Q none G σ') : MS X M_8_sets [.inr 179] G σ Q := by
  have hn := hV.1
  have hd := hM.1
  obtain ⟨σ1, E1⟩ : ∃ z, z = up (up (up (up (up (up (up σ 179 10 0) 179 5 0) 179 17 0) 194 0 0) 194 1 0) 193 0 0) 193 1 0 := ⟨_, rfl⟩
  have k1 : ∀ a, a ≠ 179 → a ≠ 193 → a ≠ 194 → σ1 a = σ a := fun a a1 a2 a3 => by
    rw [E1, up_other a2, up_other a2, up_other a3, up_other a3, up_other a1, up_other a1, up_other a1]
  have L1 : ML V z0 0 σ1 := by
    refine ⟨⟨by rw [E1]; simp [up, z0], by rw [E1]; simp [up, z0], by rw [E1]; simp [up, z0]⟩, fun s hs => by rw [E1]; rcases hs with rfl | rfl <;> simp [up, z0], fun k k0 k1 => ?_, fun j j0 j1 => ?_, fun j s j0 j1 => ?_, fun s hs => ?_⟩
    · have k1 : k < 0 := k1
      omega
    · have j1 : j < 0 + 0 := j1
      omega
    · have j1 : j < 0 := j1
      omega
    · show σ1 193 (2 * 0 + s) = 0
      rw [E1]
      rcases hs with rfl | rfl <;> simp [up]
  obtain ⟨az, fz, sz⟩ := aok_z hV
  have P0 : PI V z0 h := by
    refine ⟨rfl, fun j j0 j1 => ?_, fun _ s _ => ⟨rfl, rfl⟩, fun q => ?_, fun j s j0 j1 => ?_⟩
    · have j1 : j < 0 := j1
      omega
    · have q : (0 : Int) < 0 := q
      omega
    · have j1 : j < 0 := j1
      omega
  have lp := fun b hb => lp_sets (X := X) (σ := σ1) (Q := Q) hG hV hh (R := lay V h) (fun σ' m f => hQ σ' m ⟨fun a a1 a2 => by rw [f.1 a a1 a2, k1 a a2 (by omega) (by omega)], by rw [f.2, E1]; simp [up]⟩) 602 0 z0 σ1 b (by omega) (by omega) rfl az fz sz P0 (by rw [k1 180 (by omega) (by omega) (by omega)]; exact hM) L1 rfl ⟨fun _ _ _ => rfl, rfl⟩ hb
  have lp : ∀ b, (b = 1 ∧ 0 < V 1 0 ∨ b = 0 ∧ ¬ 0 < V 1 0) → WPc X M_8_sets Q 58 [some (.inr 179), some (.inl b), none] [] (G, 0, 0) σ1 := fun b hb => lp b (by
    rcases hb with ⟨q1, q2⟩ | ⟨q1, q2⟩
    · exact Or.inl ⟨q1, Or.inl q2⟩
    · refine Or.inr ⟨q1, fun q => ?_⟩
      rcases q with q | q
      · exact q2 q
      · have q : (0 : Int) < 0 + 0 := q
        omega)
  rw [E1] at lp
  refine MS_in [some (.inr 179), none, none] mok_8_sets (Nat.le_of_ble_eq_true rfl) rfl ?_
  by_cases c : 0 < V 1 0
  · have lp := lp 1 (Or.inl ⟨rfl, c⟩)
    refine blk_wp (tok_8_sets X) 1000 _ _ _ _ _ ?_
    simp (maxSteps := 4000000) only [blk_s, blk_z, a_const, a_iload, a_aload, a_istore, a_astore, a_iinc, a_add, a_sub, a_mul, a_div, a_rem, a_dup, a_dup2, a_goto, a_ifnull, a_tsw, a_gi, a_gr, a_pi, a_ald, a_sld, a_ast, a_aald, a_len, a_gst, a_copy, a_max, a_min, a_iret, a_zret, a_aret, a_ret, a_cv, a_cn, a_sv, a_sn, icmp_t, icmp_f, aif_t, aif_f, lget, lset, fget, rget, apop, isO, Kv, Kn, fitb0, cmp, swl, InR, up, cpy, ↓reduceIte, if_true, if_false, Nat.left_eq_add, Nat.add_eq_left, Nat.add_left_cancel_iff, Nat.reduceEqDiff, Nat.zero_le, true_and, and_true, true_or, or_true, not_true_eq_false, not_false_eq_true, false_and, and_false, false_implies, true_implies, forall_const, ne_eq, Decidable.not_not, List.length_cons, List.length_nil, reduceCtorEq, Int.toNat_zero, Int.toNat_one, Int.cast_ofNat_Int, Nat.reduceAdd, Nat.reduceSub, Nat.reduceMul, Nat.reduceLT, Nat.reduceLeDiff, Nat.reduceEqDiff, Int.reduceAdd, Int.reduceSub, Int.reduceMul, Int.reduceNeg, Int.reduceLT, Int.reduceLE, Int.reduceEq, Int.reduceNe, Int.reduceToNat, t_8_sets X, sxM hG, hd, show ¬ (V 1 0 ≤ 0) by omega]
    repeat (simp only [icmp_b, aif_b, cmp]; simp (maxSteps := 4000000) only [blk_s, blk_z, a_const, a_iload, a_aload, a_istore, a_astore, a_iinc, a_add, a_sub, a_mul, a_div, a_rem, a_dup, a_dup2, a_goto, a_ifnull, a_tsw, a_gi, a_gr, a_pi, a_ald, a_sld, a_ast, a_aald, a_len, a_gst, a_copy, a_max, a_min, a_iret, a_zret, a_aret, a_ret, a_cv, a_cn, a_sv, a_sn, icmp_t, icmp_f, aif_t, aif_f, lget, lset, fget, rget, apop, isO, Kv, Kn, fitb0, cmp, swl, InR, up, cpy, ↓reduceIte, if_true, if_false, Nat.left_eq_add, Nat.add_eq_left, Nat.add_left_cancel_iff, Nat.reduceEqDiff, Nat.zero_le, true_and, and_true, true_or, or_true, not_true_eq_false, not_false_eq_true, false_and, and_false, false_implies, true_implies, forall_const, ne_eq, Decidable.not_not, List.length_cons, List.length_nil, reduceCtorEq, Int.toNat_zero, Int.toNat_one, Int.cast_ofNat_Int, Nat.reduceAdd, Nat.reduceSub, Nat.reduceMul, Nat.reduceLT, Nat.reduceLeDiff, Nat.reduceEqDiff, Int.reduceAdd, Int.reduceSub, Int.reduceMul, Int.reduceNeg, Int.reduceLT, Int.reduceLE, Int.reduceEq, Int.reduceNe, Int.reduceToNat, t_8_sets X, sxM hG, hd, show ¬ (V 1 0 ≤ 0) by omega])
    repeat' (first | assumption | with_reducible apply And.intro | with_reducible intro _)
    all_goals (try omega)
  · have lp := lp 0 (Or.inr ⟨rfl, c⟩)
    refine blk_wp (tok_8_sets X) 1000 _ _ _ _ _ ?_
    simp (maxSteps := 4000000) only [blk_s, blk_z, a_const, a_iload, a_aload, a_istore, a_astore, a_iinc, a_add, a_sub, a_mul, a_div, a_rem, a_dup, a_dup2, a_goto, a_ifnull, a_tsw, a_gi, a_gr, a_pi, a_ald, a_sld, a_ast, a_aald, a_len, a_gst, a_copy, a_max, a_min, a_iret, a_zret, a_aret, a_ret, a_cv, a_cn, a_sv, a_sn, icmp_t, icmp_f, aif_t, aif_f, lget, lset, fget, rget, apop, isO, Kv, Kn, fitb0, cmp, swl, InR, up, cpy, ↓reduceIte, if_true, if_false, Nat.left_eq_add, Nat.add_eq_left, Nat.add_left_cancel_iff, Nat.reduceEqDiff, Nat.zero_le, true_and, and_true, true_or, or_true, not_true_eq_false, not_false_eq_true, false_and, and_false, false_implies, true_implies, forall_const, ne_eq, Decidable.not_not, List.length_cons, List.length_nil, reduceCtorEq, Int.toNat_zero, Int.toNat_one, Int.cast_ofNat_Int, Nat.reduceAdd, Nat.reduceSub, Nat.reduceMul, Nat.reduceLT, Nat.reduceLeDiff, Nat.reduceEqDiff, Int.reduceAdd, Int.reduceSub, Int.reduceMul, Int.reduceNeg, Int.reduceLT, Int.reduceLE, Int.reduceEq, Int.reduceNe, Int.reduceToNat, t_8_sets X, sxM hG, hd, show V 1 0 ≤ 0 by omega]
    repeat (simp only [icmp_b, aif_b, cmp]; simp (maxSteps := 4000000) only [blk_s, blk_z, a_const, a_iload, a_aload, a_istore, a_astore, a_iinc, a_add, a_sub, a_mul, a_div, a_rem, a_dup, a_dup2, a_goto, a_ifnull, a_tsw, a_gi, a_gr, a_pi, a_ald, a_sld, a_ast, a_aald, a_len, a_gst, a_copy, a_max, a_min, a_iret, a_zret, a_aret, a_ret, a_cv, a_cn, a_sv, a_sn, icmp_t, icmp_f, aif_t, aif_f, lget, lset, fget, rget, apop, isO, Kv, Kn, fitb0, cmp, swl, InR, up, cpy, ↓reduceIte, if_true, if_false, Nat.left_eq_add, Nat.add_eq_left, Nat.add_left_cancel_iff, Nat.reduceEqDiff, Nat.zero_le, true_and, and_true, true_or, or_true, not_true_eq_false, not_false_eq_true, false_and, and_false, false_implies, true_implies, forall_const, ne_eq, Decidable.not_not, List.length_cons, List.length_nil, reduceCtorEq, Int.toNat_zero, Int.toNat_one, Int.cast_ofNat_Int, Nat.reduceAdd, Nat.reduceSub, Nat.reduceMul, Nat.reduceLT, Nat.reduceLeDiff, Nat.reduceEqDiff, Int.reduceAdd, Int.reduceSub, Int.reduceMul, Int.reduceNeg, Int.reduceLT, Int.reduceLE, Int.reduceEq, Int.reduceNe, Int.reduceToNat, t_8_sets X, sxM hG, hd, show V 1 0 ≤ 0 by omega])
    repeat' (first | assumption | with_reducible apply And.intro | with_reducible intro _)
    all_goals (try omega)
end
