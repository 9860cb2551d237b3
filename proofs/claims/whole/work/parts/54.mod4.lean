theorem of_iff {V : Sto} (hV : EdOK V) {s p i : Int} (hs : s = 0 ∨ s = 1) (i0 : 0 ≤ i) (i1 : i < V (nbS s) 0) : V (nbS s + 2) i = p ↔ nA V (nbS s) p 0 ≤ i ∧ i < nA V (nbS s) (p + 1) 0 := by
  obtain ⟨o1, o2, o3⟩ := nbO hV hs
  have hr : ∀ k, 0 ≤ k → k < V (nbS s) 0 → 0 ≤ V (nbS s + 3) k := fun k k0 k1 => (o2 k k0 k1).2.1.1
  have h1 := nA_ge o1 hr (f := p) i0 i1
  have h2 := nA_ge o1 hr (f := p + 1) i0 i1
  omega
theorem ln_iff {V : Sto} (hV : EdOK V) {s p v : Int} (hs : s = 0 ∨ s = 1) : nA V (nbS s) p v < nA V (nbS s) (p + 1) 0 → V (nbS s + 2) (nA V (nbS s) p v) = p ∧ v ≤ V (nbS s + 3) (nA V (nbS s) p v) ∧ nA V (nbS s) p v < V (nbS s) 0 := by
  obtain ⟨o1, o2, o3⟩ := nbO hV hs
  obtain ⟨a1, a2, a3, a4⟩ := nA_is o1 p v
  obtain ⟨b1, b2, b3, b4⟩ := nA_is o1 (p + 1) 0
  intro h
  have h1 := a4 _ (Int.le_refl _) (by omega)
  have h2 := b3 _ a1 h
  have h3 := o2 _ a1 (by omega)
  unfold bef at h1 h2
  omega
section
variable {X : XT} {G : List Sh} {σ : Sto} {Q : QT}
theorem mm_remove (hG : MSh G) {V : Sto} {p : Int} (hV : EdOK V) (hM : MR V σ) (hm : 0 ≤ σ 179 2 ∧ σ 179 2 ≤ 6) (h1 : ¬ (0 ≤ p ∧ p < V 1 0) → Q (some (.inl (-1))) G σ)
    (h2 : (0 ≤ p ∧ p < V 1 0) → ∀ σ', ChM σ σ' → (∀ V', deR V V' p → MR V' σ') → Q (some (.inl (V 1 0 - 1))) G σ') : MS X M_8_remove [.inr 179, .inl p] G σ Q := by
  have hn := hV.1
  refine MS_in [some (.inr 179), some (.inl p), none, none] mok_8_remove (Nat.le_of_ble_eq_true rfl) rfl ?_
  refine blk_wp (tok_8_remove X) 1000 _ _ _ _ _ ?_
  simp (maxSteps := 4000000) only [blk_s, blk_z, a_const, a_iload, a_aload, a_istore, a_astore, a_iinc, a_add, a_sub, a_mul, a_div, a_rem, a_dup, a_dup2, a_goto, a_ifnull, a_tsw, a_gi, a_gr, a_pi, a_ald, a_sld, a_ast, a_aald, a_len, a_gst, a_copy, a_max, a_min, a_iret, a_zret, a_aret, a_ret, a_cv, a_cn, a_sv, a_sn, icmp_t, icmp_f, aif_t, aif_f, lget, lset, fget, rget, apop, isO, Kv, Kn, fitb0, cmp, swl, InR, up, cpy, ↓reduceIte, if_true, if_false, Nat.left_eq_add, Nat.add_eq_left, Nat.add_left_cancel_iff, Nat.reduceEqDiff, Nat.zero_le, true_and, and_true, true_or, or_true, not_true_eq_false, not_false_eq_true, false_and, and_false, false_implies, true_implies, forall_const, ne_eq, Decidable.not_not, List.length_cons, List.length_nil, reduceCtorEq, Int.toNat_zero, Int.toNat_one, Int.cast_ofNat_Int, Nat.reduceAdd, Nat.reduceSub, Nat.reduceMul, Nat.reduceLT, Nat.reduceLeDiff, Nat.reduceEqDiff, Int.reduceAdd, Int.reduceSub, Int.reduceMul, Int.reduceNeg, Int.reduceLT, Int.reduceLE, Int.reduceEq, Int.reduceNe, Int.reduceToNat, t_8_remove X, sxM hG]
  repeat (simp only [icmp_b, aif_b, cmp]; simp (maxSteps := 4000000) only [blk_s, blk_z, a_const, a_iload, a_aload, a_istore, a_astore, a_iinc, a_add, a_sub, a_mul, a_div, a_rem, a_dup, a_dup2, a_goto, a_ifnull, a_tsw, a_gi, a_gr, a_pi, a_ald, a_sld, a_ast, a_aald, a_len, a_gst, a_copy, a_max, a_min, a_iret, a_zret, a_aret, a_ret, a_cv, a_cn, a_sv, a_sn, icmp_t, icmp_f, aif_t, aif_f, lget, lset, fget, rget, apop, isO, Kv, Kn, fitb0, cmp, swl, InR, up, cpy, ↓reduceIte, if_true, if_false, Nat.left_eq_add, Nat.add_eq_left, Nat.add_left_cancel_iff, Nat.reduceEqDiff, Nat.zero_le, true_and, and_true, true_or, or_true, not_true_eq_false, not_false_eq_true, false_and, and_false, false_implies, true_implies, forall_const, ne_eq, Decidable.not_not, List.length_cons, List.length_nil, reduceCtorEq, Int.toNat_zero, Int.toNat_one, Int.cast_ofNat_Int, Nat.reduceAdd, Nat.reduceSub, Nat.reduceMul, Nat.reduceLT, Nat.reduceLeDiff, Nat.reduceEqDiff, Int.reduceAdd, Int.reduceSub, Int.reduceMul, Int.reduceNeg, Int.reduceLT, Int.reduceLE, Int.reduceEq, Int.reduceNe, Int.reduceToNat, t_8_remove X, sxM hG])
  repeat' (first | assumption | with_reducible apply And.intro | with_reducible intro _)
  all_goals (try omega)
  refine mm_isPair hG hV hM.1 ?_
  by_cases c1 : 0 ≤ p ∧ p < V 1 0
  case neg =>
    rw [if_neg c1]
    simp (maxSteps := 4000000) only [blk_s, blk_z, a_const, a_iload, a_aload, a_istore, a_astore, a_iinc, a_add, a_sub, a_mul, a_div, a_rem, a_dup, a_dup2, a_goto, a_ifnull, a_tsw, a_gi, a_gr, a_pi, a_ald, a_sld, a_ast, a_aald, a_len, a_gst, a_copy, a_max, a_min, a_iret, a_zret, a_aret, a_ret, a_cv, a_cn, a_sv, a_sn, icmp_t, icmp_f, aif_t, aif_f, lget, lset, fget, rget, apop, isO, Kv, Kn, fitb0, cmp, swl, InR, up, cpy, ↓reduceIte, if_true, if_false, Nat.left_eq_add, Nat.add_eq_left, Nat.add_left_cancel_iff, Nat.reduceEqDiff, Nat.zero_le, true_and, and_true, true_or, or_true, not_true_eq_false, not_false_eq_true, false_and, and_false, false_implies, true_implies, forall_const, ne_eq, Decidable.not_not, List.length_cons, List.length_nil, reduceCtorEq, Int.toNat_zero, Int.toNat_one, Int.cast_ofNat_Int, Nat.reduceAdd, Nat.reduceSub, Nat.reduceMul, Nat.reduceLT, Nat.reduceLeDiff, Nat.reduceEqDiff, Int.reduceAdd, Int.reduceSub, Int.reduceMul, Int.reduceNeg, Int.reduceLT, Int.reduceLE, Int.reduceEq, Int.reduceNe, Int.reduceToNat, t_8_remove X]
    repeat (simp only [icmp_b, aif_b, cmp]; simp (maxSteps := 4000000) only [blk_s, blk_z, a_const, a_iload, a_aload, a_istore, a_astore, a_iinc, a_add, a_sub, a_mul, a_div, a_rem, a_dup, a_dup2, a_goto, a_ifnull, a_tsw, a_gi, a_gr, a_pi, a_ald, a_sld, a_ast, a_aald, a_len, a_gst, a_copy, a_max, a_min, a_iret, a_zret, a_aret, a_ret, a_cv, a_cn, a_sv, a_sn, icmp_t, icmp_f, aif_t, aif_f, lget, lset, fget, rget, apop, isO, Kv, Kn, fitb0, cmp, swl, InR, up, cpy, ↓reduceIte, if_true, if_false, Nat.left_eq_add, Nat.add_eq_left, Nat.add_left_cancel_iff, Nat.reduceEqDiff, Nat.zero_le, true_and, and_true, true_or, or_true, not_true_eq_false, not_false_eq_true, false_and, and_false, false_implies, true_implies, forall_const, ne_eq, Decidable.not_not, List.length_cons, List.length_nil, reduceCtorEq, Int.toNat_zero, Int.toNat_one, Int.cast_ofNat_Int, Nat.reduceAdd, Nat.reduceSub, Nat.reduceMul, Nat.reduceLT, Nat.reduceLeDiff, Nat.reduceEqDiff, Int.reduceAdd, Int.reduceSub, Int.reduceMul, Int.reduceNeg, Int.reduceLT, Int.reduceLE, Int.reduceEq, Int.reduceNe, Int.reduceToNat, t_8_remove X])
    exact h1 c1
  rw [if_pos c1]
  simp (maxSteps := 4000000) only [blk_s, blk_z, a_const, a_iload, a_aload, a_istore, a_astore, a_iinc, a_add, a_sub, a_mul, a_div, a_rem, a_dup, a_dup2, a_goto, a_ifnull, a_tsw, a_gi, a_gr, a_pi, a_ald, a_sld, a_ast, a_aald, a_len, a_gst, a_copy, a_max, a_min, a_iret, a_zret, a_aret, a_ret, a_cv, a_cn, a_sv, a_sn, icmp_t, icmp_f, aif_t, aif_f, lget, lset, fget, rget, apop, isO, Kv, Kn, fitb0, cmp, swl, InR, up, cpy, ↓reduceIte, if_true, if_false, Nat.left_eq_add, Nat.add_eq_left, Nat.add_left_cancel_iff, Nat.reduceEqDiff, Nat.zero_le, true_and, and_true, true_or, or_true, not_true_eq_false, not_false_eq_true, false_and, and_false, false_implies, true_implies, forall_const, ne_eq, Decidable.not_not, List.length_cons, List.length_nil, reduceCtorEq, Int.toNat_zero, Int.toNat_one, Int.cast_ofNat_Int, Nat.reduceAdd, Nat.reduceSub, Nat.reduceMul, Nat.reduceLT, Nat.reduceLeDiff, Nat.reduceEqDiff, Int.reduceAdd, Int.reduceSub, Int.reduceMul, Int.reduceNeg, Int.reduceLT, Int.reduceLE, Int.reduceEq, Int.reduceNe, Int.reduceToNat, t_8_remove X, sxM hG]
  repeat (simp only [icmp_b, aif_b, cmp]; simp (maxSteps := 4000000) only [blk_s, blk_z, a_const, a_iload, a_aload, a_istore, a_astore, a_iinc, a_add, a_sub, a_mul, a_div, a_rem, a_dup, a_dup2, a_goto, a_ifnull, a_tsw, a_gi, a_gr, a_pi, a_ald, a_sld, a_ast, a_aald, a_len, a_gst, a_copy, a_max, a_min, a_iret, a_zret, a_aret, a_ret, a_cv, a_cn, a_sv, a_sn, icmp_t, icmp_f, aif_t, aif_f, lget, lset, fget, rget, apop, isO, Kv, Kn, fitb0, cmp, swl, InR, up, cpy, ↓reduceIte, if_true, if_false, Nat.left_eq_add, Nat.add_eq_left, Nat.add_left_cancel_iff, Nat.reduceEqDiff, Nat.zero_le, true_and, and_true, true_or, or_true, not_true_eq_false, not_false_eq_true, false_and, and_false, false_implies, true_implies, forall_const, ne_eq, Decidable.not_not, List.length_cons, List.length_nil, reduceCtorEq, Int.toNat_zero, Int.toNat_one, Int.cast_ofNat_Int, Nat.reduceAdd, Nat.reduceSub, Nat.reduceMul, Nat.reduceLT, Nat.reduceLeDiff, Nat.reduceEqDiff, Int.reduceAdd, Int.reduceSub, Int.reduceMul, Int.reduceNeg, Int.reduceLT, Int.reduceLE, Int.reduceEq, Int.reduceNe, Int.reduceToNat, t_8_remove X, sxM hG])
  repeat' (first | assumption | with_reducible apply And.intro | with_reducible intro _)
  all_goals (try omega)
  refine mm_records hG hm (fun σ1 r1 => ?_)
  have d1 := rec_d r1
  have hb := hM.2.2.2.2
  obtain ⟨c, hc⟩ : ∃ c, V 1 0 = c := ⟨_, rfl⟩
  obtain ⟨o70, o71, o72⟩ := nbO hV (s := 0) (Or.inl rfl)
  obtain ⟨oc0, oc1, oc2⟩ := nbO hV (s := 1) (Or.inr rfl)
  obtain ⟨y70, y71⟩ := hM.2.2.2.1 0 (Or.inl rfl)
  obtain ⟨yc0, yc1⟩ := hM.2.2.2.1 1 (Or.inr rfl)
  rw [← d1] at y70 y71 yc0 yc1 hb
  obtain ⟨n7, hn7⟩ : ∃ n, V (nbS 0) 0 = n := ⟨_, rfl⟩
  obtain ⟨n12, hn12⟩ : ∃ n, V (nbS 1) 0 = n := ⟨_, rfl⟩
  obtain ⟨a7, ha7⟩ : ∃ n, nA V (nbS 0) p 0 = n := ⟨_, rfl⟩
  obtain ⟨b7, hb7⟩ : ∃ n, nA V (nbS 0) (p + 1) 0 = n := ⟨_, rfl⟩
  obtain ⟨a12, ha12⟩ : ∃ n, nA V (nbS 1) p 0 = n := ⟨_, rfl⟩
  obtain ⟨b12, hb12⟩ : ∃ n, nA V (nbS 1) (p + 1) 0 = n := ⟨_, rfl⟩
  have ab7 := nA_le o70 p
  have ab12 := nA_le oc0 p
  have x7 := (nA_is o70 p 0).1
  have x7' := (nA_is o70 (p + 1) 0).2.1
  have x12 := (nA_is oc0 p 0).1
  have x12' := (nA_is oc0 (p + 1) 0).2.1
  have l7 := o70.1
  have l12 := oc0.1
  have of7 := fun i i0 i1 => of_iff hV (s := 0) (p := p) (i := i) (Or.inl rfl) i0 i1
  have of12 := fun i i0 i1 => of_iff hV (s := 1) (p := p) (i := i) (Or.inr rfl) i0 i1
  rw [hn7] at y70 y71 x7' l7 of7
  rw [hn12] at yc0 yc1 x12' l12 of12
  rw [ha7] at ab7 x7 of7
  rw [hb7] at ab7 x7' of7
  rw [ha12] at ab12 x12 of12
  rw [hb12] at ab12 x12' of12
  rw [hc] at c1 hn
  have hd1 : σ1 180 0 = c := by rw [d1, ← hc]; exact hM.1
  -- all behind the left side's notes
  have all : ∀ σ2, DrR σ1 σ2 0 n7 a7 b7 → WPc X M_8_remove Q 33 [some (.inr 179), some (.inl p), some (.inl 0), some (.inl (-1))] [] (G, 0, 0) σ2 := by
    intro σ2 R2
    obtain ⟨g1, g2, g3, g4, g5⟩ := R2
    obtain ⟨σ3, S3⟩ : ∃ s, s = deF σ2 (89 + 40 * 0) p (n7 - (b7 - a7)) := ⟨_, rfl⟩
    have f3 : ∀ x, σ3 180 x = if (89 + 40 * 0 ≤ x ∧ x < 89 + 40 * 0 + (n7 - (b7 - a7))) ∧ p < σ2 180 x then σ2 180 x - 1 else σ2 180 x := fun x => by rw [S3]; simp [deF]
    have k3 : ∀ a, a ≠ 180 → σ3 a = σ1 a := fun a ha => by rw [S3, ← g1 a ha]; funext i; simp [deF, ha]
    have b3 : ∀ x, 0 ≤ x → x < 329 → 0 ≤ σ3 180 x ∧ σ3 180 x ≤ 100 := fun x x0 x1 => by
      have := g5 x x0 x1
      rw [f3]
      split <;> omega
    have same3 : ∀ x, (x < 87 ∨ x = 88 ∨ (129 ≤ x ∧ x < 169) ∨ (209 ≤ x ∧ x < 249) ∨ 289 ≤ x) → σ3 180 x = σ1 180 x := fun x hx => by
      rw [f3, if_neg (by omega)]
      exact g4 x (by omega) (by omega) (by omega) (by omega)
    have all2 : ∀ σ4, DrR σ3 σ4 1 n12 a12 b12 → WPc X M_8_remove Q 33 [some (.inr 179), some (.inl p), some (.inl 1), some (.inl (-1))] [] (G, 0, 0) σ4 := by
      intro σ4 R4
      obtain ⟨q1, q2, q3, q4, q5⟩ := R4
      obtain ⟨σ5, S5⟩ : ∃ s, s = deF σ4 (89 + 40 * 1) p (n12 - (b12 - a12)) := ⟨_, rfl⟩
      have f5 : ∀ x, σ5 180 x = if (89 + 40 * 1 ≤ x ∧ x < 89 + 40 * 1 + (n12 - (b12 - a12))) ∧ p < σ4 180 x then σ4 180 x - 1 else σ4 180 x := fun x => by rw [S5]; simp [deF]
      have k5 : ∀ a, a ≠ 180 → σ5 a = σ1 a := fun a ha => by rw [S5, ← k3 a ha, ← q1 a ha]; funext i; simp [deF, ha]
      have b5 : ∀ x, 0 ≤ x → x < 329 → 0 ≤ σ5 180 x ∧ σ5 180 x ≤ 100 := fun x x0 x1 => by
        have := q5 x x0 x1
        rw [f5]
        split <;> omega
      have same5 : ∀ x, (x < 88 ∨ (89 ≤ x ∧ x < 129) ∨ (169 ≤ x ∧ x < 209) ∨ (249 ≤ x ∧ x < 289)) → σ5 180 x = σ3 180 x := fun x hx => by
        rw [f5, if_neg (by omega)]
        exact q4 x (by omega) (by omega) (by omega) (by omega)
      have z5 : σ5 180 0 = c := by rw [same5 0 (by omega), same3 0 (by omega), hd1]
      obtain ⟨s0, S0⟩ : ∃ s, s = up σ5 180 0 (c - 1) := ⟨_, rfl⟩
      have u0 : ∀ i, s0 180 i = if i = 0 then c - 1 else σ5 180 i := fun i => by rw [S0]; simp [up]
      obtain ⟨s1, S1⟩ : ∃ s, s = clD s0 1 p (c - 1) := ⟨_, rfl⟩
      obtain ⟨s2, S2⟩ : ∃ s, s = clD s1 21 p (c - 1) := ⟨_, rfl⟩
      obtain ⟨s3, S3'⟩ : ∃ s, s = clD s2 41 p (c - 1) := ⟨_, rfl⟩
      obtain ⟨s4, S4⟩ : ∃ s, s = clD s3 61 p (c - 1) := ⟨_, rfl⟩
      have t1 : ∀ i, s1 180 i = if 1 + p ≤ i ∧ i < 1 + (c - 1) then s0 180 (i + 1) else s0 180 i := fun i => by rw [S1]; simp [clD]
      have t2 : ∀ i, s2 180 i = if 21 + p ≤ i ∧ i < 21 + (c - 1) then s1 180 (i + 1) else s1 180 i := fun i => by rw [S2]; simp [clD]
      have t3 : ∀ i, s3 180 i = if 41 + p ≤ i ∧ i < 41 + (c - 1) then s2 180 (i + 1) else s2 180 i := fun i => by rw [S3']; simp [clD]
      have t4 : ∀ i, s4 180 i = if 61 + p ≤ i ∧ i < 61 + (c - 1) then s3 180 (i + 1) else s3 180 i := fun i => by rw [S4]; simp [clD]
      have o0 : ∀ a, a ≠ 180 → s0 a = σ1 a := fun a ha => by rw [S0, up_other ha, k5 a ha]
      have o1 : ∀ a, a ≠ 180 → s1 a = σ1 a := fun a ha => by rw [S1, ← o0 a ha]; funext i; simp [clD, ha]
      have o2 : ∀ a, a ≠ 180 → s2 a = σ1 a := fun a ha => by rw [S2, ← o1 a ha]; funext i; simp [clD, ha]
      have o3 : ∀ a, a ≠ 180 → s3 a = σ1 a := fun a ha => by rw [S3', ← o2 a ha]; funext i; simp [clD, ha]
      have o4 : ∀ a, a ≠ 180 → s4 a = σ1 a := fun a ha => by rw [S4, ← o3 a ha]; funext i; simp [clD, ha]
      have z0 : s0 180 0 = c - 1 := by rw [u0, if_pos rfl]
      have z1 : s1 180 0 = c - 1 := by rw [t1, if_neg (by omega), z0]
      have z2 : s2 180 0 = c - 1 := by rw [t2, if_neg (by omega), z1]
      have z3 : s3 180 0 = c - 1 := by rw [t3, if_neg (by omega), z2]
      have z4 : s4 180 0 = c - 1 := by rw [t4, if_neg (by omega), z3]
      have high : ∀ x, 81 ≤ x → s4 180 x = σ5 180 x := fun x hx => by rw [t4, if_neg (by omega), t3, if_neg (by omega), t2, if_neg (by omega), t1, if_neg (by omega), u0, if_neg (by omega)]
      have fin : Q (some (.inl (c - 1))) G s4 := by
        rw [← hc]
        refine h2 (by omega) s4 (chm_of r1 o4) (fun V' hV' => ?_)
        obtain ⟨v1, v2, v7, v12, v17⟩ := hV'
        have bb0 : ∀ x, 0 ≤ x → x < 329 → 0 ≤ s0 180 x ∧ s0 180 x ≤ 100 := fun x x0 x1 => by
          have := b5 x x0 x1
          rw [u0]
          split <;> omega
        have bb1 : ∀ x, 0 ≤ x → x < 329 → 0 ≤ s1 180 x ∧ s1 180 x ≤ 100 := fun x x0 x1 => by rw [t1]; split <;> exact bb0 _ (by omega) (by omega)
        have bb2 : ∀ x, 0 ≤ x → x < 329 → 0 ≤ s2 180 x ∧ s2 180 x ≤ 100 := fun x x0 x1 => by rw [t2]; split <;> exact bb1 _ (by omega) (by omega)
        have bb3 : ∀ x, 0 ≤ x → x < 329 → 0 ≤ s3 180 x ∧ s3 180 x ≤ 100 := fun x x0 x1 => by rw [t3]; split <;> exact bb2 _ (by omega) (by omega)
        refine ⟨by rw [z4, v1, hc], fun ρ i ρ0 ρ1 i0 i1 => ?_, ⟨?_, fun j j0 j1 => ?_⟩, fun s hs => ?_, fun x x0 x1 => by rw [t4]; split <;> exact bb3 _ (by omega) (by omega)⟩
        · rw [v1, hc] at i1
          obtain ⟨w1, w2, w3, w4⟩ := v2 i i0 (by omega)
          have mm := fun q q0 q1 => hM.2.1 ρ q ρ0 ρ1 q0 q1
          rw [hc, ← d1] at mm
          have low : ∀ x, 1 ≤ x → x ≤ 80 → s0 180 x = σ1 180 x := fun x x0 x1 => by rw [u0, if_neg (by omega), same5 x (by omega), same3 x (by omega)]
          have m1 := mm i i0 (by omega)
          have m2 := mm (i + 1) (by omega) (by omega)
          rw [show 1 + 20 * ρ + (i + 1) = 1 + 20 * ρ + i + 1 by omega] at m2
          have hρ : ρ = 0 ∨ ρ = 1 ∨ ρ = 2 ∨ ρ = 3 := by omega
          rcases hρ with rfl | rfl | rfl | rfl
          · rw [show 3 + (0 : Int).toNat = 3 from rfl] at *
            rw [w1]
            by_cases q : i < p
            · rw [if_pos q, t4, if_neg (by omega), t3, if_neg (by omega), t2, if_neg (by omega), t1, if_neg (by omega), low _ (by omega) (by omega), m1]
            · have l1 := low (1 + 20 * 0 + i + 1) (by omega) (by omega)
              have e4 : s4 180 (1 + 20 * 0 + i) = s0 180 (1 + 20 * 0 + i + 1) := by rw [t4, if_neg (by omega), t3, if_neg (by omega), t2, if_neg (by omega), t1, if_pos (by omega)]
              rw [if_neg q, e4, l1, m2]
          · rw [show 3 + (1 : Int).toNat = 4 from rfl] at *
            rw [w2]
            by_cases q : i < p
            · rw [if_pos q, t4, if_neg (by omega), t3, if_neg (by omega), t2, if_neg (by omega), t1, if_neg (by omega), low _ (by omega) (by omega), m1]
            · have l1 := low (1 + 20 * 1 + i + 1) (by omega) (by omega)
              have e4 : s4 180 (1 + 20 * 1 + i) = s0 180 (1 + 20 * 1 + i + 1) := by rw [t4, if_neg (by omega), t3, if_neg (by omega), t2, if_pos (by omega), t1, if_neg (by omega)]
              rw [if_neg q, e4, l1, m2]
          · rw [show 3 + (2 : Int).toNat = 5 from rfl] at *
            rw [w3]
            by_cases q : i < p
            · rw [if_pos q, t4, if_neg (by omega), t3, if_neg (by omega), t2, if_neg (by omega), t1, if_neg (by omega), low _ (by omega) (by omega), m1]
            · have l1 := low (1 + 20 * 2 + i + 1) (by omega) (by omega)
              have e4 : s4 180 (1 + 20 * 2 + i) = s0 180 (1 + 20 * 2 + i + 1) := by rw [t4, if_neg (by omega), t3, if_pos (by omega), t2, if_neg (by omega), t1, if_neg (by omega)]
              rw [if_neg q, e4, l1, m2]
          · rw [show 3 + (3 : Int).toNat = 6 from rfl] at *
            rw [w4]
            by_cases q : i < p
            · rw [if_pos q, t4, if_neg (by omega), t3, if_neg (by omega), t2, if_neg (by omega), t1, if_neg (by omega), low _ (by omega) (by omega), m1]
            · have l1 := low (1 + 20 * 3 + i + 1) (by omega) (by omega)
              have e4 : s4 180 (1 + 20 * 3 + i) = s0 180 (1 + 20 * 3 + i + 1) := by rw [t4, if_pos (by omega), t3, if_neg (by omega), t2, if_neg (by omega), t1, if_neg (by omega)]
              rw [if_neg q, e4, l1, m2]
        · rw [high 81 (by omega), same5 81 (by omega), same3 81 (by omega), d1, hM.2.2.1.1, v17 0 (by omega) (by omega)]
        · rw [high (81 + j) (by omega), same5 (81 + j) (by omega), same3 (81 + j) (by omega), d1, hM.2.2.1.2 j j0 j1, v17 j (by omega) (by omega)]
        · rcases hs with rfl | rfl
          · obtain ⟨e1, e2, e3, e4⟩ := v7
            rw [nbS0] at *
            rw [ha7, hb7] at e1 e2 e3 e4
            rw [hn7] at e1 e2 e3 e4
            rw [e1]
            refine ⟨by rw [high _ (by omega), same5 _ (by omega), f3, if_neg (by omega), g2], fun k k0 k1 => ?_⟩
            obtain ⟨w1, w2, w3⟩ := g3 k k0 k1
            have y := y71 (if k < a7 then k else k + (b7 - a7)) (by split <;> omega) (by split <;> omega)
            have oo := of7 (if k < a7 then k else k + (b7 - a7)) (by split <;> omega) (by split <;> omega)
            rw [high _ (by omega), high _ (by omega), high _ (by omega), same5 _ (by omega), same5 _ (by omega), same5 _ (by omega), f3, f3, f3, e2 k k0 k1, e3 k k0 k1, e4 k k0 k1, w1, w2, w3, y.1, y.2.1, y.2.2]
            have ge := nA_ge o70 (fun k k0 k1 => (o71 k k0 k1).2.1.1) (k := if k < a7 then k else k + (b7 - a7)) (f := p) (by split <;> omega) (by rw [hn7]; split <;> omega)
            have ge2 := nA_ge o70 (fun k k0 k1 => (o71 k k0 k1).2.1.1) (k := if k < a7 then k else k + (b7 - a7)) (f := p + 1) (by split <;> omega) (by rw [hn7]; split <;> omega)
            rw [ha7] at ge
            rw [hb7] at ge2
            by_cases q : k < a7
            · simp only [q, if_true] at ge ge2 ⊢
              rw [if_neg (by omega), if_neg (by omega), if_neg (by omega)]
              exact ⟨rfl, rfl, rfl⟩
            · simp only [q, if_false] at ge ge2 ⊢
              rw [if_pos (by omega), if_neg (by omega), if_neg (by omega)]
              exact ⟨rfl, rfl, rfl⟩
          · obtain ⟨e1, e2, e3, e4⟩ := v12
            rw [nbS1] at *
            rw [ha12, hb12] at e1 e2 e3 e4
            rw [hn12] at e1 e2 e3 e4
            rw [e1]
            refine ⟨by rw [high _ (by omega), f5, if_neg (by omega), q2], fun k k0 k1 => ?_⟩
            obtain ⟨w1, w2, w3⟩ := q3 k k0 k1
            have y := yc1 (if k < a12 then k else k + (b12 - a12)) (by split <;> omega) (by split <;> omega)
            have sm : ∀ w, (w = 89 ∨ w = 169 ∨ w = 249) → σ3 180 (w + 40 * 1 + (if k < a12 then k else k + (b12 - a12))) = σ1 180 (w + 40 * 1 + (if k < a12 then k else k + (b12 - a12))) := fun w hw => same3 _ (by split <;> omega)
            rw [high _ (by omega), high _ (by omega), high _ (by omega), f5, f5, f5, e2 k k0 k1, e3 k k0 k1, e4 k k0 k1, w1, w2, w3, sm 89 (by omega), sm 169 (by omega), sm 249 (by omega), y.1, y.2.1, y.2.2]
            have ge := nA_ge oc0 (fun k k0 k1 => (oc1 k k0 k1).2.1.1) (k := if k < a12 then k else k + (b12 - a12)) (f := p) (by split <;> omega) (by rw [hn12]; split <;> omega)
            have ge2 := nA_ge oc0 (fun k k0 k1 => (oc1 k k0 k1).2.1.1) (k := if k < a12 then k else k + (b12 - a12)) (f := p + 1) (by split <;> omega) (by rw [hn12]; split <;> omega)
            rw [ha12] at ge
            rw [hb12] at ge2
            by_cases q : k < a12
            · simp only [q, if_true] at ge ge2 ⊢
              rw [if_neg (by omega), if_neg (by omega), if_neg (by omega)]
              exact ⟨rfl, rfl, rfl⟩
            · simp only [q, if_false] at ge ge2 ⊢
              rw [if_pos (by omega), if_neg (by omega), if_neg (by omega)]
              exact ⟨rfl, rfl, rfl⟩
      have at0 : ∀ (s : Sto) (base : Int), clD s base p p = s := fun s base => by
        funext b i
        unfold clD
        rw [if_neg (by omega)]
      have w3 := lp_cl3 (X := X) (Q := Q) (σ := s3) hG (a := p) (c := c - 1) (by omega) z3 ?_ c.toNat p (Int.le_refl _) (by omega) (by omega)
      · rw [at0] at w3
        have w2 := lp_cl2 (X := X) (Q := Q) (σ := s2) hG (a := p) (c := c - 1) (by omega) z2 ?_ c.toNat p (Int.le_refl _) (by omega) (by omega)
        · rw [at0] at w2
          have w1 := lp_cl1 (X := X) (Q := Q) (σ := s1) hG (a := p) (c := c - 1) (by omega) z1 ?_ c.toNat p (Int.le_refl _) (by omega) (by omega)
          · rw [at0] at w1
            have w0 := lp_cl0 (X := X) (Q := Q) (σ := s0) hG (a := p) (c := c - 1) (by omega) z0 ?_ c.toNat p (Int.le_refl _) (by omega) (by omega)
            · rw [at0] at w0
              have v5 := lp_deF (X := X) (Q := Q) (σ := σ4) (s := 1) (p := p) (n := n12 - (b12 - a12)) hG (Or.inr rfl) (by omega) q2 q5 ?_ 100 0 (by omega) (by omega) (by omega)
              · have e0 : deF σ4 (89 + 40 * 1) p 0 = σ4 := by
                  funext b i
                  unfold deF
                  rw [if_neg (by omega)]
                rw [e0] at v5
                refine blk_at (tok_8_remove X) 1000 rfl ?_
                simp (maxSteps := 4000000) only [blk_s, blk_z, a_const, a_iload, a_aload, a_istore, a_astore, a_iinc, a_add, a_sub, a_mul, a_div, a_rem, a_dup, a_dup2, a_goto, a_ifnull, a_tsw, a_gi, a_gr, a_pi, a_ald, a_sld, a_ast, a_aald, a_len, a_gst, a_copy, a_max, a_min, a_iret, a_zret, a_aret, a_ret, a_cv, a_cn, a_sv, a_sn, icmp_t, icmp_f, aif_t, aif_f, lget, lset, fget, rget, apop, isO, Kv, Kn, fitb0, cmp, swl, InR, up, cpy, ↓reduceIte, if_true, if_false, Nat.left_eq_add, Nat.add_eq_left, Nat.add_left_cancel_iff, Nat.reduceEqDiff, Nat.zero_le, true_and, and_true, true_or, or_true, not_true_eq_false, not_false_eq_true, false_and, and_false, false_implies, true_implies, forall_const, ne_eq, Decidable.not_not, List.length_cons, List.length_nil, reduceCtorEq, Int.toNat_zero, Int.toNat_one, Int.cast_ofNat_Int, Nat.reduceAdd, Nat.reduceSub, Nat.reduceMul, Nat.reduceLT, Nat.reduceLeDiff, Nat.reduceEqDiff, Int.reduceAdd, Int.reduceSub, Int.reduceMul, Int.reduceNeg, Int.reduceLT, Int.reduceLE, Int.reduceEq, Int.reduceNe, Int.reduceToNat, t_8_remove X, sxM hG]
                repeat (simp only [icmp_b, aif_b, cmp]; simp (maxSteps := 4000000) only [blk_s, blk_z, a_const, a_iload, a_aload, a_istore, a_astore, a_iinc, a_add, a_sub, a_mul, a_div, a_rem, a_dup, a_dup2, a_goto, a_ifnull, a_tsw, a_gi, a_gr, a_pi, a_ald, a_sld, a_ast, a_aald, a_len, a_gst, a_copy, a_max, a_min, a_iret, a_zret, a_aret, a_ret, a_cv, a_cn, a_sv, a_sn, icmp_t, icmp_f, aif_t, aif_f, lget, lset, fget, rget, apop, isO, Kv, Kn, fitb0, cmp, swl, InR, up, cpy, ↓reduceIte, if_true, if_false, Nat.left_eq_add, Nat.add_eq_left, Nat.add_left_cancel_iff, Nat.reduceEqDiff, Nat.zero_le, true_and, and_true, true_or, or_true, not_true_eq_false, not_false_eq_true, false_and, and_false, false_implies, true_implies, forall_const, ne_eq, Decidable.not_not, List.length_cons, List.length_nil, reduceCtorEq, Int.toNat_zero, Int.toNat_one, Int.cast_ofNat_Int, Nat.reduceAdd, Nat.reduceSub, Nat.reduceMul, Nat.reduceLT, Nat.reduceLeDiff, Nat.reduceEqDiff, Int.reduceAdd, Int.reduceSub, Int.reduceMul, Int.reduceNeg, Int.reduceLT, Int.reduceLE, Int.reduceEq, Int.reduceNe, Int.reduceToNat, t_8_remove X, sxM hG])
                repeat' (first | assumption | with_reducible apply And.intro | with_reducible intro _)
                all_goals (try omega)
              · rw [← S5]
                have e88 : σ5 180 88 = n12 - (b12 - a12) := by rw [f5, if_neg (by omega)]; exact q2
                rw [S0] at w0
                refine blk_at (tok_8_remove X) 1000 rfl ?_
                simp (maxSteps := 4000000) only [blk_s, blk_z, a_const, a_iload, a_aload, a_istore, a_astore, a_iinc, a_add, a_sub, a_mul, a_div, a_rem, a_dup, a_dup2, a_goto, a_ifnull, a_tsw, a_gi, a_gr, a_pi, a_ald, a_sld, a_ast, a_aald, a_len, a_gst, a_copy, a_max, a_min, a_iret, a_zret, a_aret, a_ret, a_cv, a_cn, a_sv, a_sn, icmp_t, icmp_f, aif_t, aif_f, lget, lset, fget, rget, apop, isO, Kv, Kn, fitb0, cmp, swl, InR, up, cpy, ↓reduceIte, if_true, if_false, Nat.left_eq_add, Nat.add_eq_left, Nat.add_left_cancel_iff, Nat.reduceEqDiff, Nat.zero_le, true_and, and_true, true_or, or_true, not_true_eq_false, not_false_eq_true, false_and, and_false, false_implies, true_implies, forall_const, ne_eq, Decidable.not_not, List.length_cons, List.length_nil, reduceCtorEq, Int.toNat_zero, Int.toNat_one, Int.cast_ofNat_Int, Nat.reduceAdd, Nat.reduceSub, Nat.reduceMul, Nat.reduceLT, Nat.reduceLeDiff, Nat.reduceEqDiff, Int.reduceAdd, Int.reduceSub, Int.reduceMul, Int.reduceNeg, Int.reduceLT, Int.reduceLE, Int.reduceEq, Int.reduceNe, Int.reduceToNat, t_8_remove X, sxM hG, e88, z5, Int.le_refl]
                repeat (simp only [icmp_b, aif_b, cmp]; simp (maxSteps := 4000000) only [blk_s, blk_z, a_const, a_iload, a_aload, a_istore, a_astore, a_iinc, a_add, a_sub, a_mul, a_div, a_rem, a_dup, a_dup2, a_goto, a_ifnull, a_tsw, a_gi, a_gr, a_pi, a_ald, a_sld, a_ast, a_aald, a_len, a_gst, a_copy, a_max, a_min, a_iret, a_zret, a_aret, a_ret, a_cv, a_cn, a_sv, a_sn, icmp_t, icmp_f, aif_t, aif_f, lget, lset, fget, rget, apop, isO, Kv, Kn, fitb0, cmp, swl, InR, up, cpy, ↓reduceIte, if_true, if_false, Nat.left_eq_add, Nat.add_eq_left, Nat.add_left_cancel_iff, Nat.reduceEqDiff, Nat.zero_le, true_and, and_true, true_or, or_true, not_true_eq_false, not_false_eq_true, false_and, and_false, false_implies, true_implies, forall_const, ne_eq, Decidable.not_not, List.length_cons, List.length_nil, reduceCtorEq, Int.toNat_zero, Int.toNat_one, Int.cast_ofNat_Int, Nat.reduceAdd, Nat.reduceSub, Nat.reduceMul, Nat.reduceLT, Nat.reduceLeDiff, Nat.reduceEqDiff, Int.reduceAdd, Int.reduceSub, Int.reduceMul, Int.reduceNeg, Int.reduceLT, Int.reduceLE, Int.reduceEq, Int.reduceNe, Int.reduceToNat, t_8_remove X, sxM hG, e88, z5, Int.le_refl])
                repeat' (first | assumption | with_reducible apply And.intro | with_reducible intro _)
                all_goals (try omega)
            · rw [← S1]
              refine blk_at (tok_8_remove X) 1000 rfl ?_
              simp (maxSteps := 4000000) only [blk_s, blk_z, a_const, a_iload, a_aload, a_istore, a_astore, a_iinc, a_add, a_sub, a_mul, a_div, a_rem, a_dup, a_dup2, a_goto, a_ifnull, a_tsw, a_gi, a_gr, a_pi, a_ald, a_sld, a_ast, a_aald, a_len, a_gst, a_copy, a_max, a_min, a_iret, a_zret, a_aret, a_ret, a_cv, a_cn, a_sv, a_sn, icmp_t, icmp_f, aif_t, aif_f, lget, lset, fget, rget, apop, isO, Kv, Kn, fitb0, cmp, swl, InR, up, cpy, ↓reduceIte, if_true, if_false, Nat.left_eq_add, Nat.add_eq_left, Nat.add_left_cancel_iff, Nat.reduceEqDiff, Nat.zero_le, true_and, and_true, true_or, or_true, not_true_eq_false, not_false_eq_true, false_and, and_false, false_implies, true_implies, forall_const, ne_eq, Decidable.not_not, List.length_cons, List.length_nil, reduceCtorEq, Int.toNat_zero, Int.toNat_one, Int.cast_ofNat_Int, Nat.reduceAdd, Nat.reduceSub, Nat.reduceMul, Nat.reduceLT, Nat.reduceLeDiff, Nat.reduceEqDiff, Int.reduceAdd, Int.reduceSub, Int.reduceMul, Int.reduceNeg, Int.reduceLT, Int.reduceLE, Int.reduceEq, Int.reduceNe, Int.reduceToNat, t_8_remove X, sxM hG, z1, Int.le_refl]
              repeat (simp only [icmp_b, aif_b, cmp]; simp (maxSteps := 4000000) only [blk_s, blk_z, a_const, a_iload, a_aload, a_istore, a_astore, a_iinc, a_add, a_sub, a_mul, a_div, a_rem, a_dup, a_dup2, a_goto, a_ifnull, a_tsw, a_gi, a_gr, a_pi, a_ald, a_sld, a_ast, a_aald, a_len, a_gst, a_copy, a_max, a_min, a_iret, a_zret, a_aret, a_ret, a_cv, a_cn, a_sv, a_sn, icmp_t, icmp_f, aif_t, aif_f, lget, lset, fget, rget, apop, isO, Kv, Kn, fitb0, cmp, swl, InR, up, cpy, ↓reduceIte, if_true, if_false, Nat.left_eq_add, Nat.add_eq_left, Nat.add_left_cancel_iff, Nat.reduceEqDiff, Nat.zero_le, true_and, and_true, true_or, or_true, not_true_eq_false, not_false_eq_true, false_and, and_false, false_implies, true_implies, forall_const, ne_eq, Decidable.not_not, List.length_cons, List.length_nil, reduceCtorEq, Int.toNat_zero, Int.toNat_one, Int.cast_ofNat_Int, Nat.reduceAdd, Nat.reduceSub, Nat.reduceMul, Nat.reduceLT, Nat.reduceLeDiff, Nat.reduceEqDiff, Int.reduceAdd, Int.reduceSub, Int.reduceMul, Int.reduceNeg, Int.reduceLT, Int.reduceLE, Int.reduceEq, Int.reduceNe, Int.reduceToNat, t_8_remove X, sxM hG, z1, Int.le_refl])
              repeat' (first | assumption | with_reducible apply And.intro | with_reducible intro _)
              all_goals (try omega)
          · rw [← S2]
            refine blk_at (tok_8_remove X) 1000 rfl ?_
            simp (maxSteps := 4000000) only [blk_s, blk_z, a_const, a_iload, a_aload, a_istore, a_astore, a_iinc, a_add, a_sub, a_mul, a_div, a_rem, a_dup, a_dup2, a_goto, a_ifnull, a_tsw, a_gi, a_gr, a_pi, a_ald, a_sld, a_ast, a_aald, a_len, a_gst, a_copy, a_max, a_min, a_iret, a_zret, a_aret, a_ret, a_cv, a_cn, a_sv, a_sn, icmp_t, icmp_f, aif_t, aif_f, lget, lset, fget, rget, apop, isO, Kv, Kn, fitb0, cmp, swl, InR, up, cpy, ↓reduceIte, if_true, if_false, Nat.left_eq_add, Nat.add_eq_left, Nat.add_left_cancel_iff, Nat.reduceEqDiff, Nat.zero_le, true_and, and_true, true_or, or_true, not_true_eq_false, not_false_eq_true, false_and, and_false, false_implies, true_implies, forall_const, ne_eq, Decidable.not_not, List.length_cons, List.length_nil, reduceCtorEq, Int.toNat_zero, Int.toNat_one, Int.cast_ofNat_Int, Nat.reduceAdd, Nat.reduceSub, Nat.reduceMul, Nat.reduceLT, Nat.reduceLeDiff, Nat.reduceEqDiff, Int.reduceAdd, Int.reduceSub, Int.reduceMul, Int.reduceNeg, Int.reduceLT, Int.reduceLE, Int.reduceEq, Int.reduceNe, Int.reduceToNat, t_8_remove X, sxM hG, z2, Int.le_refl]
            repeat (simp only [icmp_b, aif_b, cmp]; simp (maxSteps := 4000000) only [blk_s, blk_z, a_const, a_iload, a_aload, a_istore, a_astore, a_iinc, a_add, a_sub, a_mul, a_div, a_rem, a_dup, a_dup2, a_goto, a_ifnull, a_tsw, a_gi, a_gr, a_pi, a_ald, a_sld, a_ast, a_aald, a_len, a_gst, a_copy, a_max, a_min, a_iret, a_zret, a_aret, a_ret, a_cv, a_cn, a_sv, a_sn, icmp_t, icmp_f, aif_t, aif_f, lget, lset, fget, rget, apop, isO, Kv, Kn, fitb0, cmp, swl, InR, up, cpy, ↓reduceIte, if_true, if_false, Nat.left_eq_add, Nat.add_eq_left, Nat.add_left_cancel_iff, Nat.reduceEqDiff, Nat.zero_le, true_and, and_true, true_or, or_true, not_true_eq_false, not_false_eq_true, false_and, and_false, false_implies, true_implies, forall_const, ne_eq, Decidable.not_not, List.length_cons, List.length_nil, reduceCtorEq, Int.toNat_zero, Int.toNat_one, Int.cast_ofNat_Int, Nat.reduceAdd, Nat.reduceSub, Nat.reduceMul, Nat.reduceLT, Nat.reduceLeDiff, Nat.reduceEqDiff, Int.reduceAdd, Int.reduceSub, Int.reduceMul, Int.reduceNeg, Int.reduceLT, Int.reduceLE, Int.reduceEq, Int.reduceNe, Int.reduceToNat, t_8_remove X, sxM hG, z2, Int.le_refl])
            repeat' (first | assumption | with_reducible apply And.intro | with_reducible intro _)
            all_goals (try omega)
        · rw [← S3']
          refine blk_at (tok_8_remove X) 1000 rfl ?_
          simp (maxSteps := 4000000) only [blk_s, blk_z, a_const, a_iload, a_aload, a_istore, a_astore, a_iinc, a_add, a_sub, a_mul, a_div, a_rem, a_dup, a_dup2, a_goto, a_ifnull, a_tsw, a_gi, a_gr, a_pi, a_ald, a_sld, a_ast, a_aald, a_len, a_gst, a_copy, a_max, a_min, a_iret, a_zret, a_aret, a_ret, a_cv, a_cn, a_sv, a_sn, icmp_t, icmp_f, aif_t, aif_f, lget, lset, fget, rget, apop, isO, Kv, Kn, fitb0, cmp, swl, InR, up, cpy, ↓reduceIte, if_true, if_false, Nat.left_eq_add, Nat.add_eq_left, Nat.add_left_cancel_iff, Nat.reduceEqDiff, Nat.zero_le, true_and, and_true, true_or, or_true, not_true_eq_false, not_false_eq_true, false_and, and_false, false_implies, true_implies, forall_const, ne_eq, Decidable.not_not, List.length_cons, List.length_nil, reduceCtorEq, Int.toNat_zero, Int.toNat_one, Int.cast_ofNat_Int, Nat.reduceAdd, Nat.reduceSub, Nat.reduceMul, Nat.reduceLT, Nat.reduceLeDiff, Nat.reduceEqDiff, Int.reduceAdd, Int.reduceSub, Int.reduceMul, Int.reduceNeg, Int.reduceLT, Int.reduceLE, Int.reduceEq, Int.reduceNe, Int.reduceToNat, t_8_remove X, sxM hG, z3, Int.le_refl]
          repeat (simp only [icmp_b, aif_b, cmp]; simp (maxSteps := 4000000) only [blk_s, blk_z, a_const, a_iload, a_aload, a_istore, a_astore, a_iinc, a_add, a_sub, a_mul, a_div, a_rem, a_dup, a_dup2, a_goto, a_ifnull, a_tsw, a_gi, a_gr, a_pi, a_ald, a_sld, a_ast, a_aald, a_len, a_gst, a_copy, a_max, a_min, a_iret, a_zret, a_aret, a_ret, a_cv, a_cn, a_sv, a_sn, icmp_t, icmp_f, aif_t, aif_f, lget, lset, fget, rget, apop, isO, Kv, Kn, fitb0, cmp, swl, InR, up, cpy, ↓reduceIte, if_true, if_false, Nat.left_eq_add, Nat.add_eq_left, Nat.add_left_cancel_iff, Nat.reduceEqDiff, Nat.zero_le, true_and, and_true, true_or, or_true, not_true_eq_false, not_false_eq_true, false_and, and_false, false_implies, true_implies, forall_const, ne_eq, Decidable.not_not, List.length_cons, List.length_nil, reduceCtorEq, Int.toNat_zero, Int.toNat_one, Int.cast_ofNat_Int, Nat.reduceAdd, Nat.reduceSub, Nat.reduceMul, Nat.reduceLT, Nat.reduceLeDiff, Nat.reduceEqDiff, Int.reduceAdd, Int.reduceSub, Int.reduceMul, Int.reduceNeg, Int.reduceLT, Int.reduceLE, Int.reduceEq, Int.reduceNe, Int.reduceToNat, t_8_remove X, sxM hG, z3, Int.le_refl])
          repeat' (first | assumption | with_reducible apply And.intro | with_reducible intro _)
          all_goals (try omega)
      · rw [← S4]
        refine blk_at (tok_8_remove X) 1000 rfl ?_
        simp (maxSteps := 4000000) only [blk_s, blk_z, a_const, a_iload, a_aload, a_istore, a_astore, a_iinc, a_add, a_sub, a_mul, a_div, a_rem, a_dup, a_dup2, a_goto, a_ifnull, a_tsw, a_gi, a_gr, a_pi, a_ald, a_sld, a_ast, a_aald, a_len, a_gst, a_copy, a_max, a_min, a_iret, a_zret, a_aret, a_ret, a_cv, a_cn, a_sv, a_sn, icmp_t, icmp_f, aif_t, aif_f, lget, lset, fget, rget, apop, isO, Kv, Kn, fitb0, cmp, swl, InR, up, cpy, ↓reduceIte, if_true, if_false, Nat.left_eq_add, Nat.add_eq_left, Nat.add_left_cancel_iff, Nat.reduceEqDiff, Nat.zero_le, true_and, and_true, true_or, or_true, not_true_eq_false, not_false_eq_true, false_and, and_false, false_implies, true_implies, forall_const, ne_eq, Decidable.not_not, List.length_cons, List.length_nil, reduceCtorEq, Int.toNat_zero, Int.toNat_one, Int.cast_ofNat_Int, Nat.reduceAdd, Nat.reduceSub, Nat.reduceMul, Nat.reduceLT, Nat.reduceLeDiff, Nat.reduceEqDiff, Int.reduceAdd, Int.reduceSub, Int.reduceMul, Int.reduceNeg, Int.reduceLT, Int.reduceLE, Int.reduceEq, Int.reduceNe, Int.reduceToNat, t_8_remove X, sxM hG, z4, Int.le_refl]
        repeat (simp only [icmp_b, aif_b, cmp]; simp (maxSteps := 4000000) only [blk_s, blk_z, a_const, a_iload, a_aload, a_istore, a_astore, a_iinc, a_add, a_sub, a_mul, a_div, a_rem, a_dup, a_dup2, a_goto, a_ifnull, a_tsw, a_gi, a_gr, a_pi, a_ald, a_sld, a_ast, a_aald, a_len, a_gst, a_copy, a_max, a_min, a_iret, a_zret, a_aret, a_ret, a_cv, a_cn, a_sv, a_sn, icmp_t, icmp_f, aif_t, aif_f, lget, lset, fget, rget, apop, isO, Kv, Kn, fitb0, cmp, swl, InR, up, cpy, ↓reduceIte, if_true, if_false, Nat.left_eq_add, Nat.add_eq_left, Nat.add_left_cancel_iff, Nat.reduceEqDiff, Nat.zero_le, true_and, and_true, true_or, or_true, not_true_eq_false, not_false_eq_true, false_and, and_false, false_implies, true_implies, forall_const, ne_eq, Decidable.not_not, List.length_cons, List.length_nil, reduceCtorEq, Int.toNat_zero, Int.toNat_one, Int.cast_ofNat_Int, Nat.reduceAdd, Nat.reduceSub, Nat.reduceMul, Nat.reduceLT, Nat.reduceLeDiff, Nat.reduceEqDiff, Int.reduceAdd, Int.reduceSub, Int.reduceMul, Int.reduceNeg, Int.reduceLT, Int.reduceLE, Int.reduceEq, Int.reduceNe, Int.reduceToNat, t_8_remove X, sxM hG, z4, Int.le_refl])
        repeat' (first | assumption | with_reducible apply And.intro | with_reducible intro _)
        all_goals (try omega)
    have h88 : σ3 180 88 = n12 := by rw [same3 88 (by omega)]; exact yc0
    have r2 := lp_rmv (X := X) (Q := Q) (σ := σ3) (s := 1) (p := p) (n := n12) (a := a12) (b := b12) hG (Or.inr rfl) (by omega) (by omega) (fun i i0 i1 => by rw [same3 _ (by omega), (yc1 i i0 i1).1]; exact of12 i i0 i1) all2 100 (n12 - 1) σ3 (by omega) (by omega) (by omega) (by
      rw [show max a12 (min (n12 - 1 + 1) b12) = b12 by omega]
      exact drR_0 h88 b3)
    have v3 := lp_deF (X := X) (Q := Q) (σ := σ2) (s := 0) (p := p) (n := n7 - (b7 - a7)) hG (Or.inl rfl) (by omega) g2 g5 ?_ 100 0 (by omega) (by omega) (by omega)
    · have e0 : deF σ2 (89 + 40 * 0) p 0 = σ2 := by
        funext b i
        unfold deF
        rw [if_neg (by omega)]
      rw [e0] at v3
      refine blk_at (tok_8_remove X) 1000 rfl ?_
      simp (maxSteps := 4000000) only [blk_s, blk_z, a_const, a_iload, a_aload, a_istore, a_astore, a_iinc, a_add, a_sub, a_mul, a_div, a_rem, a_dup, a_dup2, a_goto, a_ifnull, a_tsw, a_gi, a_gr, a_pi, a_ald, a_sld, a_ast, a_aald, a_len, a_gst, a_copy, a_max, a_min, a_iret, a_zret, a_aret, a_ret, a_cv, a_cn, a_sv, a_sn, icmp_t, icmp_f, aif_t, aif_f, lget, lset, fget, rget, apop, isO, Kv, Kn, fitb0, cmp, swl, InR, up, cpy, ↓reduceIte, if_true, if_false, Nat.left_eq_add, Nat.add_eq_left, Nat.add_left_cancel_iff, Nat.reduceEqDiff, Nat.zero_le, true_and, and_true, true_or, or_true, not_true_eq_false, not_false_eq_true, false_and, and_false, false_implies, true_implies, forall_const, ne_eq, Decidable.not_not, List.length_cons, List.length_nil, reduceCtorEq, Int.toNat_zero, Int.toNat_one, Int.cast_ofNat_Int, Nat.reduceAdd, Nat.reduceSub, Nat.reduceMul, Nat.reduceLT, Nat.reduceLeDiff, Nat.reduceEqDiff, Int.reduceAdd, Int.reduceSub, Int.reduceMul, Int.reduceNeg, Int.reduceLT, Int.reduceLE, Int.reduceEq, Int.reduceNe, Int.reduceToNat, t_8_remove X, sxM hG]
      repeat (simp only [icmp_b, aif_b, cmp]; simp (maxSteps := 4000000) only [blk_s, blk_z, a_const, a_iload, a_aload, a_istore, a_astore, a_iinc, a_add, a_sub, a_mul, a_div, a_rem, a_dup, a_dup2, a_goto, a_ifnull, a_tsw, a_gi, a_gr, a_pi, a_ald, a_sld, a_ast, a_aald, a_len, a_gst, a_copy, a_max, a_min, a_iret, a_zret, a_aret, a_ret, a_cv, a_cn, a_sv, a_sn, icmp_t, icmp_f, aif_t, aif_f, lget, lset, fget, rget, apop, isO, Kv, Kn, fitb0, cmp, swl, InR, up, cpy, ↓reduceIte, if_true, if_false, Nat.left_eq_add, Nat.add_eq_left, Nat.add_left_cancel_iff, Nat.reduceEqDiff, Nat.zero_le, true_and, and_true, true_or, or_true, not_true_eq_false, not_false_eq_true, false_and, and_false, false_implies, true_implies, forall_const, ne_eq, Decidable.not_not, List.length_cons, List.length_nil, reduceCtorEq, Int.toNat_zero, Int.toNat_one, Int.cast_ofNat_Int, Nat.reduceAdd, Nat.reduceSub, Nat.reduceMul, Nat.reduceLT, Nat.reduceLeDiff, Nat.reduceEqDiff, Int.reduceAdd, Int.reduceSub, Int.reduceMul, Int.reduceNeg, Int.reduceLT, Int.reduceLE, Int.reduceEq, Int.reduceNe, Int.reduceToNat, t_8_remove X, sxM hG])
      repeat' (first | assumption | with_reducible apply And.intro | with_reducible intro _)
      all_goals (try omega)
    · rw [← S3]
      have e87 : σ3 180 87 = n7 - (b7 - a7) := by rw [f3, if_neg (by omega)]; exact g2
      refine blk_at (tok_8_remove X) 1000 rfl ?_
      simp (maxSteps := 4000000) only [blk_s, blk_z, a_const, a_iload, a_aload, a_istore, a_astore, a_iinc, a_add, a_sub, a_mul, a_div, a_rem, a_dup, a_dup2, a_goto, a_ifnull, a_tsw, a_gi, a_gr, a_pi, a_ald, a_sld, a_ast, a_aald, a_len, a_gst, a_copy, a_max, a_min, a_iret, a_zret, a_aret, a_ret, a_cv, a_cn, a_sv, a_sn, icmp_t, icmp_f, aif_t, aif_f, lget, lset, fget, rget, apop, isO, Kv, Kn, fitb0, cmp, swl, InR, up, cpy, ↓reduceIte, if_true, if_false, Nat.left_eq_add, Nat.add_eq_left, Nat.add_left_cancel_iff, Nat.reduceEqDiff, Nat.zero_le, true_and, and_true, true_or, or_true, not_true_eq_false, not_false_eq_true, false_and, and_false, false_implies, true_implies, forall_const, ne_eq, Decidable.not_not, List.length_cons, List.length_nil, reduceCtorEq, Int.toNat_zero, Int.toNat_one, Int.cast_ofNat_Int, Nat.reduceAdd, Nat.reduceSub, Nat.reduceMul, Nat.reduceLT, Nat.reduceLeDiff, Nat.reduceEqDiff, Int.reduceAdd, Int.reduceSub, Int.reduceMul, Int.reduceNeg, Int.reduceLT, Int.reduceLE, Int.reduceEq, Int.reduceNe, Int.reduceToNat, t_8_remove X, sxM hG, e87, h88, Int.le_refl]
      repeat (simp only [icmp_b, aif_b, cmp]; simp (maxSteps := 4000000) only [blk_s, blk_z, a_const, a_iload, a_aload, a_istore, a_astore, a_iinc, a_add, a_sub, a_mul, a_div, a_rem, a_dup, a_dup2, a_goto, a_ifnull, a_tsw, a_gi, a_gr, a_pi, a_ald, a_sld, a_ast, a_aald, a_len, a_gst, a_copy, a_max, a_min, a_iret, a_zret, a_aret, a_ret, a_cv, a_cn, a_sv, a_sn, icmp_t, icmp_f, aif_t, aif_f, lget, lset, fget, rget, apop, isO, Kv, Kn, fitb0, cmp, swl, InR, up, cpy, ↓reduceIte, if_true, if_false, Nat.left_eq_add, Nat.add_eq_left, Nat.add_left_cancel_iff, Nat.reduceEqDiff, Nat.zero_le, true_and, and_true, true_or, or_true, not_true_eq_false, not_false_eq_true, false_and, and_false, false_implies, true_implies, forall_const, ne_eq, Decidable.not_not, List.length_cons, List.length_nil, reduceCtorEq, Int.toNat_zero, Int.toNat_one, Int.cast_ofNat_Int, Nat.reduceAdd, Nat.reduceSub, Nat.reduceMul, Nat.reduceLT, Nat.reduceLeDiff, Nat.reduceEqDiff, Int.reduceAdd, Int.reduceSub, Int.reduceMul, Int.reduceNeg, Int.reduceLT, Int.reduceLE, Int.reduceEq, Int.reduceNe, Int.reduceToNat, t_8_remove X, sxM hG, e87, h88, Int.le_refl])
      repeat' (first | assumption | with_reducible apply And.intro | with_reducible intro _)
      all_goals (try omega)
  have r0 := lp_rmv (X := X) (Q := Q) (σ := σ1) (s := 0) (p := p) (n := n7) (a := a7) (b := b7) hG (Or.inl rfl) (by omega) (by omega) (fun i i0 i1 => by rw [(y71 i i0 i1).1]; exact of7 i i0 i1) all 100 (n7 - 1) σ1 (by omega) (by omega) (by omega) (by
    rw [show max a7 (min (n7 - 1 + 1) b7) = b7 by omega]
    exact drR_0 y70 hb)
  simp (maxSteps := 4000000) only [blk_s, blk_z, a_const, a_iload, a_aload, a_istore, a_astore, a_iinc, a_add, a_sub, a_mul, a_div, a_rem, a_dup, a_dup2, a_goto, a_ifnull, a_tsw, a_gi, a_gr, a_pi, a_ald, a_sld, a_ast, a_aald, a_len, a_gst, a_copy, a_max, a_min, a_iret, a_zret, a_aret, a_ret, a_cv, a_cn, a_sv, a_sn, icmp_t, icmp_f, aif_t, aif_f, lget, lset, fget, rget, apop, isO, Kv, Kn, fitb0, cmp, swl, InR, up, cpy, ↓reduceIte, if_true, if_false, Nat.left_eq_add, Nat.add_eq_left, Nat.add_left_cancel_iff, Nat.reduceEqDiff, Nat.zero_le, true_and, and_true, true_or, or_true, not_true_eq_false, not_false_eq_true, false_and, and_false, false_implies, true_implies, forall_const, ne_eq, Decidable.not_not, List.length_cons, List.length_nil, reduceCtorEq, Int.toNat_zero, Int.toNat_one, Int.cast_ofNat_Int, Nat.reduceAdd, Nat.reduceSub, Nat.reduceMul, Nat.reduceLT, Nat.reduceLeDiff, Nat.reduceEqDiff, Int.reduceAdd, Int.reduceSub, Int.reduceMul, Int.reduceNeg, Int.reduceLT, Int.reduceLE, Int.reduceEq, Int.reduceNe, Int.reduceToNat, t_8_remove X, sxM hG, show σ1 180 87 = n7 from y70]
  repeat (simp only [icmp_b, aif_b, cmp]; simp (maxSteps := 4000000) only [blk_s, blk_z, a_const, a_iload, a_aload, a_istore, a_astore, a_iinc, a_add, a_sub, a_mul, a_div, a_rem, a_dup, a_dup2, a_goto, a_ifnull, a_tsw, a_gi, a_gr, a_pi, a_ald, a_sld, a_ast, a_aald, a_len, a_gst, a_copy, a_max, a_min, a_iret, a_zret, a_aret, a_ret, a_cv, a_cn, a_sv, a_sn, icmp_t, icmp_f, aif_t, aif_f, lget, lset, fget, rget, apop, isO, Kv, Kn, fitb0, cmp, swl, InR, up, cpy, ↓reduceIte, if_true, if_false, Nat.left_eq_add, Nat.add_eq_left, Nat.add_left_cancel_iff, Nat.reduceEqDiff, Nat.zero_le, true_and, and_true, true_or, or_true, not_true_eq_false, not_false_eq_true, false_and, and_false, false_implies, true_implies, forall_const, ne_eq, Decidable.not_not, List.length_cons, List.length_nil, reduceCtorEq, Int.toNat_zero, Int.toNat_one, Int.cast_ofNat_Int, Nat.reduceAdd, Nat.reduceSub, Nat.reduceMul, Nat.reduceLT, Nat.reduceLeDiff, Nat.reduceEqDiff, Int.reduceAdd, Int.reduceSub, Int.reduceMul, Int.reduceNeg, Int.reduceLT, Int.reduceLE, Int.reduceEq, Int.reduceNe, Int.reduceToNat, t_8_remove X, sxM hG, show σ1 180 87 = n7 from y70])
  repeat' (first | assumption | with_reducible apply And.intro | with_reducible intro _)
  all_goals (try omega)
end
