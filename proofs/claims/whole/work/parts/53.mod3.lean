/-- notes behind one a place ahead -/
def drN (σ : Sto) (lo i : Int) (b : Nat) (x : Int) : Int := if b = 180 ∧ ((89 + lo ≤ x ∧ x < 89 + i) ∨ (169 + lo ≤ x ∧ x < 169 + i) ∨ (249 + lo ≤ x ∧ x < 249 + i)) then σ 180 (x + 1) else σ b x
theorem drN_s {σ : Sto} {lo i : Int} (h0 : 0 ≤ lo) (h : lo ≤ i) (hi : i < 79) : up (up (up (drN σ lo i) 180 (89 + i) (σ 180 (89 + i + 1))) 180 (169 + i) (σ 180 (169 + i + 1))) 180 (249 + i) (σ 180 (249 + i + 1)) = drN σ lo (i + 1) := by
  funext b x
  unfold up drN
  by_cases q1 : b = 180 ∧ x = 249 + i
  · rw [if_pos q1, if_pos (by omega), q1.2]
  rw [if_neg q1]
  by_cases q2 : b = 180 ∧ x = 169 + i
  · rw [if_pos q2, if_pos (by omega), q2.2]
  rw [if_neg q2]
  by_cases q3 : b = 180 ∧ x = 89 + i
  · rw [if_pos q3, if_pos (by omega), q3.2]
  rw [if_neg q3]
  by_cases q : b = 180 ∧ ((89 + lo ≤ x ∧ x < 89 + i) ∨ (169 + lo ≤ x ∧ x < 169 + i) ∨ (249 + lo ≤ x ∧ x < 249 + i))
  · rw [if_pos q, if_pos (by omega)]
  · rw [if_neg q, if_neg (by omega)]
section
variable {X : XT} {G : List Sh} {σ : Sto} {Q : QT}
set_option maxRecDepth 40000 in
theorem lp_drN (hG : MSh G) {s k n : Int} (hs : 0 ≤ s ∧ s ≤ 1) (hk : 0 ≤ k ∧ k < n ∧ n ≤ 40) (hn : σ 180 (87 + s) = n - 1) (hQ : Q none G (drN σ (40 * s + k) (40 * s + (n - 1)))) : ∀ (m : Nat) (i : Int), 40 * s + k ≤ i → i ≤ 40 * s + (n - 1) → 40 * s + (n - 1) - i ≤ m → WPc X M_8_dropsNote Q 20 [some (.inr 179), some (.inl s), some (.inl k), some (.inl i)] [] (G, 0, 0) (drN σ (40 * s + k) i) := by
  have h87 : ∀ i, drN σ (40 * s + k) i 180 (87 + s) = n - 1 := fun i => by
    unfold drN
    rw [if_neg (by omega)]
    exact hn
  intro m
  have last : WPc X M_8_dropsNote Q 20 [some (.inr 179), some (.inl s), some (.inl k), some (.inl (40 * s + (n - 1)))] [] (G, 0, 0) (drN σ (40 * s + k) (40 * s + (n - 1))) := by
    refine blk_at (tok_8_dropsNote X) 1000 rfl ?_
    simp (maxSteps := 4000000) only [blk_s, blk_z, a_const, a_iload, a_aload, a_istore, a_astore, a_iinc, a_add, a_sub, a_mul, a_div, a_rem, a_dup, a_dup2, a_goto, a_ifnull, a_tsw, a_gi, a_gr, a_pi, a_ald, a_sld, a_ast, a_aald, a_len, a_gst, a_copy, a_max, a_min, a_iret, a_zret, a_aret, a_ret, a_cv, a_cn, a_sv, a_sn, icmp_t, icmp_f, aif_t, aif_f, lget, lset, fget, rget, apop, isO, Kv, Kn, fitb0, cmp, swl, InR, up, cpy, ↓reduceIte, if_true, if_false, Nat.left_eq_add, Nat.add_eq_left, Nat.add_left_cancel_iff, Nat.reduceEqDiff, Nat.zero_le, true_and, and_true, true_or, or_true, not_true_eq_false, not_false_eq_true, false_and, and_false, false_implies, true_implies, forall_const, ne_eq, Decidable.not_not, List.length_cons, List.length_nil, reduceCtorEq, Int.toNat_zero, Int.toNat_one, Int.cast_ofNat_Int, Nat.reduceAdd, Nat.reduceSub, Nat.reduceMul, Nat.reduceLT, Nat.reduceLeDiff, Nat.reduceEqDiff, Int.reduceAdd, Int.reduceSub, Int.reduceMul, Int.reduceNeg, Int.reduceLT, Int.reduceLE, Int.reduceEq, Int.reduceNe, Int.reduceToNat, t_8_dropsNote X, sxM hG, h87, Int.le_refl]
    repeat (simp only [icmp_b, aif_b, cmp]; simp (maxSteps := 4000000) only [blk_s, blk_z, a_const, a_iload, a_aload, a_istore, a_astore, a_iinc, a_add, a_sub, a_mul, a_div, a_rem, a_dup, a_dup2, a_goto, a_ifnull, a_tsw, a_gi, a_gr, a_pi, a_ald, a_sld, a_ast, a_aald, a_len, a_gst, a_copy, a_max, a_min, a_iret, a_zret, a_aret, a_ret, a_cv, a_cn, a_sv, a_sn, icmp_t, icmp_f, aif_t, aif_f, lget, lset, fget, rget, apop, isO, Kv, Kn, fitb0, cmp, swl, InR, up, cpy, ↓reduceIte, if_true, if_false, Nat.left_eq_add, Nat.add_eq_left, Nat.add_left_cancel_iff, Nat.reduceEqDiff, Nat.zero_le, true_and, and_true, true_or, or_true, not_true_eq_false, not_false_eq_true, false_and, and_false, false_implies, true_implies, forall_const, ne_eq, Decidable.not_not, List.length_cons, List.length_nil, reduceCtorEq, Int.toNat_zero, Int.toNat_one, Int.cast_ofNat_Int, Nat.reduceAdd, Nat.reduceSub, Nat.reduceMul, Nat.reduceLT, Nat.reduceLeDiff, Nat.reduceEqDiff, Int.reduceAdd, Int.reduceSub, Int.reduceMul, Int.reduceNeg, Int.reduceLT, Int.reduceLE, Int.reduceEq, Int.reduceNe, Int.reduceToNat, t_8_dropsNote X, sxM hG, h87, Int.le_refl])
    repeat' (first | assumption | with_reducible apply And.intro | with_reducible intro _)
    all_goals (try omega)
  induction m with
  | zero =>
    intro i i0 i1 i2
    rw [show i = 40 * s + (n - 1) by omega]
    exact last
  | succ m ih =>
    intro i i0 i1 i2
    by_cases c : i = 40 * s + (n - 1)
    · rw [c]
      exact last
    · have ih := ih (i + 1) (by omega) (by omega) (by omega)
      rw [← drN_s (by omega) i0 (by omega)] at ih
      have r : ∀ x, (x = 89 + i + 1 ∨ x = 169 + i + 1 ∨ x = 249 + i + 1) → drN σ (40 * s + k) i 180 x = σ 180 x := fun x hx => by
        unfold drN
        rw [if_neg (by omega)]
      refine blk_at (tok_8_dropsNote X) 1000 rfl ?_
      simp (maxSteps := 4000000) only [blk_s, blk_z, a_const, a_iload, a_aload, a_istore, a_astore, a_iinc, a_add, a_sub, a_mul, a_div, a_rem, a_dup, a_dup2, a_goto, a_ifnull, a_tsw, a_gi, a_gr, a_pi, a_ald, a_sld, a_ast, a_aald, a_len, a_gst, a_copy, a_max, a_min, a_iret, a_zret, a_aret, a_ret, a_cv, a_cn, a_sv, a_sn, icmp_t, icmp_f, aif_t, aif_f, lget, lset, fget, rget, apop, isO, Kv, Kn, fitb0, cmp, swl, InR, up, cpy, ↓reduceIte, if_true, if_false, Nat.left_eq_add, Nat.add_eq_left, Nat.add_left_cancel_iff, Nat.reduceEqDiff, Nat.zero_le, true_and, and_true, true_or, or_true, not_true_eq_false, not_false_eq_true, false_and, and_false, false_implies, true_implies, forall_const, ne_eq, Decidable.not_not, List.length_cons, List.length_nil, reduceCtorEq, Int.toNat_zero, Int.toNat_one, Int.cast_ofNat_Int, Nat.reduceAdd, Nat.reduceSub, Nat.reduceMul, Nat.reduceLT, Nat.reduceLeDiff, Nat.reduceEqDiff, Int.reduceAdd, Int.reduceSub, Int.reduceMul, Int.reduceNeg, Int.reduceLT, Int.reduceLE, Int.reduceEq, Int.reduceNe, Int.reduceToNat, t_8_dropsNote X, sxM hG, h87, show ¬ (40 * s + (n - 1) ≤ i) by omega, r (89 + i + 1) (by omega), r (169 + i + 1) (by omega), r (249 + i + 1) (by omega), show ¬ (169 + i + 1 = 89 + i) by omega, show ¬ (249 + i + 1 = 169 + i) by omega, show ¬ (249 + i + 1 = 89 + i) by omega]
      repeat (simp only [icmp_b, aif_b, cmp]; simp (maxSteps := 4000000) only [blk_s, blk_z, a_const, a_iload, a_aload, a_istore, a_astore, a_iinc, a_add, a_sub, a_mul, a_div, a_rem, a_dup, a_dup2, a_goto, a_ifnull, a_tsw, a_gi, a_gr, a_pi, a_ald, a_sld, a_ast, a_aald, a_len, a_gst, a_copy, a_max, a_min, a_iret, a_zret, a_aret, a_ret, a_cv, a_cn, a_sv, a_sn, icmp_t, icmp_f, aif_t, aif_f, lget, lset, fget, rget, apop, isO, Kv, Kn, fitb0, cmp, swl, InR, up, cpy, ↓reduceIte, if_true, if_false, Nat.left_eq_add, Nat.add_eq_left, Nat.add_left_cancel_iff, Nat.reduceEqDiff, Nat.zero_le, true_and, and_true, true_or, or_true, not_true_eq_false, not_false_eq_true, false_and, and_false, false_implies, true_implies, forall_const, ne_eq, Decidable.not_not, List.length_cons, List.length_nil, reduceCtorEq, Int.toNat_zero, Int.toNat_one, Int.cast_ofNat_Int, Nat.reduceAdd, Nat.reduceSub, Nat.reduceMul, Nat.reduceLT, Nat.reduceLeDiff, Nat.reduceEqDiff, Int.reduceAdd, Int.reduceSub, Int.reduceMul, Int.reduceNeg, Int.reduceLT, Int.reduceLE, Int.reduceEq, Int.reduceNe, Int.reduceToNat, t_8_dropsNote X, sxM hG, h87, show ¬ (40 * s + (n - 1) ≤ i) by omega, r (89 + i + 1) (by omega), r (169 + i + 1) (by omega), r (249 + i + 1) (by omega), show ¬ (169 + i + 1 = 89 + i) by omega, show ¬ (249 + i + 1 = 169 + i) by omega, show ¬ (249 + i + 1 = 89 + i) by omega])
      repeat' (first | assumption | with_reducible apply And.intro | with_reducible intro _)
      all_goals (try omega)
theorem mm_dropsNote (hG : MSh G) {s k n : Int} (hs : 0 ≤ s ∧ s ≤ 1) (hk : 0 ≤ k ∧ k < n ∧ n ≤ 40) (hn : σ 180 (87 + s) = n) (hQ : Q none G (drN (up σ 180 (87 + s) (n - 1)) (40 * s + k) (40 * s + (n - 1)))) : MS X M_8_dropsNote [.inr 179, .inl s, .inl k] G σ Q := by
  have e0 : ∀ z : Sto, drN z (40 * s + k) (40 * s + k) = z := fun z => by
    funext b x
    unfold drN
    rw [if_neg (by omega)]
  have lp := lp_drN (X := X) (σ := up σ 180 (87 + s) (n - 1)) hG hs hk (by simp [up]) hQ n.toNat (40 * s + k) (Int.le_refl _) (by omega) (by omega)
  rw [e0] at lp
  refine MS_in [some (.inr 179), some (.inl s), some (.inl k), none] mok_8_dropsNote (Nat.le_of_ble_eq_true rfl) rfl ?_
  refine blk_wp (tok_8_dropsNote X) 1000 _ _ _ _ _ ?_
  simp (maxSteps := 4000000) only [blk_s, blk_z, a_const, a_iload, a_aload, a_istore, a_astore, a_iinc, a_add, a_sub, a_mul, a_div, a_rem, a_dup, a_dup2, a_goto, a_ifnull, a_tsw, a_gi, a_gr, a_pi, a_ald, a_sld, a_ast, a_aald, a_len, a_gst, a_copy, a_max, a_min, a_iret, a_zret, a_aret, a_ret, a_cv, a_cn, a_sv, a_sn, icmp_t, icmp_f, aif_t, aif_f, lget, lset, fget, rget, apop, isO, Kv, Kn, fitb0, cmp, swl, InR, up, cpy, ↓reduceIte, if_true, if_false, Nat.left_eq_add, Nat.add_eq_left, Nat.add_left_cancel_iff, Nat.reduceEqDiff, Nat.zero_le, true_and, and_true, true_or, or_true, not_true_eq_false, not_false_eq_true, false_and, and_false, false_implies, true_implies, forall_const, ne_eq, Decidable.not_not, List.length_cons, List.length_nil, reduceCtorEq, Int.toNat_zero, Int.toNat_one, Int.cast_ofNat_Int, Nat.reduceAdd, Nat.reduceSub, Nat.reduceMul, Nat.reduceLT, Nat.reduceLeDiff, Nat.reduceEqDiff, Int.reduceAdd, Int.reduceSub, Int.reduceMul, Int.reduceNeg, Int.reduceLT, Int.reduceLE, Int.reduceEq, Int.reduceNe, Int.reduceToNat, t_8_dropsNote X, sxM hG, hn]
  repeat (simp only [icmp_b, aif_b, cmp]; simp (maxSteps := 4000000) only [blk_s, blk_z, a_const, a_iload, a_aload, a_istore, a_astore, a_iinc, a_add, a_sub, a_mul, a_div, a_rem, a_dup, a_dup2, a_goto, a_ifnull, a_tsw, a_gi, a_gr, a_pi, a_ald, a_sld, a_ast, a_aald, a_len, a_gst, a_copy, a_max, a_min, a_iret, a_zret, a_aret, a_ret, a_cv, a_cn, a_sv, a_sn, icmp_t, icmp_f, aif_t, aif_f, lget, lset, fget, rget, apop, isO, Kv, Kn, fitb0, cmp, swl, InR, up, cpy, ↓reduceIte, if_true, if_false, Nat.left_eq_add, Nat.add_eq_left, Nat.add_left_cancel_iff, Nat.reduceEqDiff, Nat.zero_le, true_and, and_true, true_or, or_true, not_true_eq_false, not_false_eq_true, false_and, and_false, false_implies, true_implies, forall_const, ne_eq, Decidable.not_not, List.length_cons, List.length_nil, reduceCtorEq, Int.toNat_zero, Int.toNat_one, Int.cast_ofNat_Int, Nat.reduceAdd, Nat.reduceSub, Nat.reduceMul, Nat.reduceLT, Nat.reduceLeDiff, Nat.reduceEqDiff, Int.reduceAdd, Int.reduceSub, Int.reduceMul, Int.reduceNeg, Int.reduceLT, Int.reduceLE, Int.reduceEq, Int.reduceNe, Int.reduceToNat, t_8_dropsNote X, sxM hG, hn])
  repeat' (first | assumption | with_reducible apply And.intro | with_reducible intro _)
  all_goals (try omega)
/-- a side's notes of [j, b) gone -/
def DrR (σ σ1 : Sto) (s n j b : Int) : Prop := (∀ a, a ≠ 180 → σ1 a = σ a) ∧ σ1 180 (87 + s) = n - (b - j) ∧ (∀ i, 0 ≤ i → i < n - (b - j) → σ1 180 (89 + 40 * s + i) = σ 180 (89 + 40 * s + (if i < j then i else i + (b - j))) ∧ σ1 180 (169 + 40 * s + i) = σ 180 (169 + 40 * s + (if i < j then i else i + (b - j))) ∧ σ1 180 (249 + 40 * s + i) = σ 180 (249 + 40 * s + (if i < j then i else i + (b - j)))) ∧
  (∀ x, x ≠ 87 + s → (x < 89 + 40 * s ∨ 129 + 40 * s ≤ x) → (x < 169 + 40 * s ∨ 209 + 40 * s ≤ x) → (x < 249 + 40 * s ∨ 289 + 40 * s ≤ x) → σ1 180 x = σ 180 x) ∧ ∀ x, 0 ≤ x → x < 329 → 0 ≤ σ1 180 x ∧ σ1 180 x ≤ 100
theorem drR_0 {σ : Sto} {s n b : Int} (hn : σ 180 (87 + s) = n) (hb : ∀ x, 0 ≤ x → x < 329 → 0 ≤ σ 180 x ∧ σ 180 x ≤ 100) : DrR σ σ s n b b := by
  refine ⟨fun _ _ => rfl, by omega, fun i i0 i1 => ?_, fun _ _ _ _ _ => rfl, hb⟩
  have : (if i < b then i else i + (b - b)) = i := by split <;> omega
  rw [this]
  exact ⟨rfl, rfl, rfl⟩
theorem drR_s {σ σ1 : Sto} {s n j b : Int} (hs : s = 0 ∨ s = 1) (h : DrR σ σ1 s n j b) (hj : 1 ≤ j ∧ j ≤ b ∧ b ≤ n ∧ n ≤ 40) : DrR σ (drN (up σ1 180 (87 + s) (n - (b - j) - 1)) (40 * s + (j - 1)) (40 * s + (n - (b - j) - 1))) s n (j - 1) b := by
  obtain ⟨h1, h2, h3, h4, h5⟩ := h
  refine ⟨fun a ha => ?_, ?_, fun i i0 i1 => ?_, fun x x1 x2 x3 x4 => ?_, fun x x0 x1 => ?_⟩
  · funext i
    unfold drN
    rw [if_neg (by omega), up_other ha, h1 a ha]
  · unfold drN
    rw [if_neg (by omega)]
    simp [up]
    omega
  · have val : ∀ w, (w = 89 ∨ w = 169 ∨ w = 249) → drN (up σ1 180 (87 + s) (n - (b - j) - 1)) (40 * s + (j - 1)) (40 * s + (n - (b - j) - 1)) 180 (w + 40 * s + i) = σ1 180 (w + 40 * s + (if i < j - 1 then i else i + 1)) := by
      intro w hw
      unfold drN
      by_cases q : i < j - 1
      · rw [if_pos q, if_neg (by omega)]
        simp only [up, true_and]
        rw [if_neg (by omega)]
      · rw [if_neg q, if_pos ⟨rfl, by omega⟩]
        simp only [up, true_and]
        rw [if_neg (by omega), show w + 40 * s + i + 1 = w + 40 * s + (i + 1) by omega]
    rw [val 89 (by omega), val 169 (by omega), val 249 (by omega)]
    have := h3 (if i < j - 1 then i else i + 1) (by split <;> omega) (by split <;> omega)
    rw [this.1, this.2.1, this.2.2]
    have : (if (if i < j - 1 then i else i + 1) < j then (if i < j - 1 then i else i + 1) else (if i < j - 1 then i else i + 1) + (b - j)) = (if i < j - 1 then i else i + (b - (j - 1))) := by
      by_cases q : i < j - 1
      · rw [if_pos q, if_pos q, if_pos (by omega)]
      · rw [if_neg q, if_neg q, if_neg (by omega)]
        omega
    rw [this]
    exact ⟨rfl, rfl, rfl⟩
  · unfold drN
    rw [if_neg (by omega)]
    simp only [up, true_and]
    rw [if_neg x1]
    exact h4 x x1 x2 x3 x4
  · have hu : ∀ y, 0 ≤ y → y < 329 → 0 ≤ up σ1 180 (87 + s) (n - (b - j) - 1) 180 y ∧ up σ1 180 (87 + s) (n - (b - j) - 1) 180 y ≤ 100 := by
      intro y y0 y1
      simp only [up, true_and]
      split
      · omega
      · exact h5 y y0 y1
    unfold drN
    split
    · exact hu _ (by omega) (by omega)
    · exact hu _ x0 x1
set_option maxRecDepth 40000 in
theorem lp_rmv (hG : MSh G) {s p n a b : Int} (hs : s = 0 ∨ s = 1) (hn : 0 ≤ n ∧ n ≤ 40) (hab : 0 ≤ a ∧ a ≤ b ∧ b ≤ n) (hOF : ∀ i, 0 ≤ i → i < n → (σ 180 (89 + 40 * s + i) = p ↔ a ≤ i ∧ i < b))
    (hQ : ∀ σ', DrR σ σ' s n a b → WPc X M_8_remove Q 33 [some (.inr 179), some (.inl p), some (.inl s), some (.inl (-1))] [] (G, 0, 0) σ') :
    ∀ (m : Nat) (k : Int) (σ1 : Sto), -1 ≤ k → k < n → k + 1 ≤ m → DrR σ σ1 s n (max a (min (k + 1) b)) b → WPc X M_8_remove Q 33 [some (.inr 179), some (.inl p), some (.inl s), some (.inl k)] [] (G, 0, 0) σ1 := by
  intro m
  have last : ∀ σ1, DrR σ σ1 s n (max a (min (-1 + 1) b)) b → WPc X M_8_remove Q 33 [some (.inr 179), some (.inl p), some (.inl s), some (.inl (-1))] [] (G, 0, 0) σ1 := fun σ1 h => hQ σ1 (by
    rw [show max a (min (-1 + 1) b) = a by omega] at h
    exact h)
  induction m with
  | zero =>
    intro k σ1 k0 k1 k2 h
    have e : k = -1 := by omega
    subst e
    exact last σ1 h
  | succ m ih =>
    intro k σ1 k0 k1 k2 h
    by_cases c : k = -1
    · subst c
      exact last σ1 h
    · obtain ⟨h1, h2, h3, h4, h5⟩ := id h
      by_cases q : a ≤ k ∧ k < b
      · have ej : max a (min (k + 1) b) = k + 1 := by omega
        rw [ej] at h h2 h3
        have e1 := (h3 k (by omega) (by omega)).1
        rw [if_pos (by omega), (hOF k (by omega) k1).mpr q] at e1
        have st := drR_s hs h (by omega)
        have ih := ih (k - 1) _ (by omega) (by omega) (by omega) (by
          rw [show max a (min (k - 1 + 1) b) = k + 1 - 1 by omega]
          exact st)
        rw [show k - 1 = k + -1 by omega, show 40 * s + (k + 1 - 1) = 40 * s + k by omega] at ih
        refine blk_at (tok_8_remove X) 1000 rfl ?_
        simp (maxSteps := 4000000) only [blk_s, blk_z, a_const, a_iload, a_aload, a_istore, a_astore, a_iinc, a_add, a_sub, a_mul, a_div, a_rem, a_dup, a_dup2, a_goto, a_ifnull, a_tsw, a_gi, a_gr, a_pi, a_ald, a_sld, a_ast, a_aald, a_len, a_gst, a_copy, a_max, a_min, a_iret, a_zret, a_aret, a_ret, a_cv, a_cn, a_sv, a_sn, icmp_t, icmp_f, aif_t, aif_f, lget, lset, fget, rget, apop, isO, Kv, Kn, fitb0, cmp, swl, InR, up, cpy, ↓reduceIte, if_true, if_false, Nat.left_eq_add, Nat.add_eq_left, Nat.add_left_cancel_iff, Nat.reduceEqDiff, Nat.zero_le, true_and, and_true, true_or, or_true, not_true_eq_false, not_false_eq_true, false_and, and_false, false_implies, true_implies, forall_const, ne_eq, Decidable.not_not, List.length_cons, List.length_nil, reduceCtorEq, Int.toNat_zero, Int.toNat_one, Int.cast_ofNat_Int, Nat.reduceAdd, Nat.reduceSub, Nat.reduceMul, Nat.reduceLT, Nat.reduceLeDiff, Nat.reduceEqDiff, Int.reduceAdd, Int.reduceSub, Int.reduceMul, Int.reduceNeg, Int.reduceLT, Int.reduceLE, Int.reduceEq, Int.reduceNe, Int.reduceToNat, t_8_remove X, sxM hG, show ¬ (k < 0) by omega, e1]
        repeat (simp only [icmp_b, aif_b, cmp]; simp (maxSteps := 4000000) only [blk_s, blk_z, a_const, a_iload, a_aload, a_istore, a_astore, a_iinc, a_add, a_sub, a_mul, a_div, a_rem, a_dup, a_dup2, a_goto, a_ifnull, a_tsw, a_gi, a_gr, a_pi, a_ald, a_sld, a_ast, a_aald, a_len, a_gst, a_copy, a_max, a_min, a_iret, a_zret, a_aret, a_ret, a_cv, a_cn, a_sv, a_sn, icmp_t, icmp_f, aif_t, aif_f, lget, lset, fget, rget, apop, isO, Kv, Kn, fitb0, cmp, swl, InR, up, cpy, ↓reduceIte, if_true, if_false, Nat.left_eq_add, Nat.add_eq_left, Nat.add_left_cancel_iff, Nat.reduceEqDiff, Nat.zero_le, true_and, and_true, true_or, or_true, not_true_eq_false, not_false_eq_true, false_and, and_false, false_implies, true_implies, forall_const, ne_eq, Decidable.not_not, List.length_cons, List.length_nil, reduceCtorEq, Int.toNat_zero, Int.toNat_one, Int.cast_ofNat_Int, Nat.reduceAdd, Nat.reduceSub, Nat.reduceMul, Nat.reduceLT, Nat.reduceLeDiff, Nat.reduceEqDiff, Int.reduceAdd, Int.reduceSub, Int.reduceMul, Int.reduceNeg, Int.reduceLT, Int.reduceLE, Int.reduceEq, Int.reduceNe, Int.reduceToNat, t_8_remove X, sxM hG, show ¬ (k < 0) by omega, e1])
        repeat' (first | assumption | with_reducible apply And.intro | with_reducible intro _)
        all_goals (try omega)
        refine mm_dropsNote (n := n - (b - (k + 1))) hG (by omega) (by omega) h2 ?_
        simp (maxSteps := 4000000) only [blk_s, blk_z, a_const, a_iload, a_aload, a_istore, a_astore, a_iinc, a_add, a_sub, a_mul, a_div, a_rem, a_dup, a_dup2, a_goto, a_ifnull, a_tsw, a_gi, a_gr, a_pi, a_ald, a_sld, a_ast, a_aald, a_len, a_gst, a_copy, a_max, a_min, a_iret, a_zret, a_aret, a_ret, a_cv, a_cn, a_sv, a_sn, icmp_t, icmp_f, aif_t, aif_f, lget, lset, fget, rget, apop, isO, Kv, Kn, fitb0, cmp, swl, InR, up, cpy, ↓reduceIte, if_true, if_false, Nat.left_eq_add, Nat.add_eq_left, Nat.add_left_cancel_iff, Nat.reduceEqDiff, Nat.zero_le, true_and, and_true, true_or, or_true, not_true_eq_false, not_false_eq_true, false_and, and_false, false_implies, true_implies, forall_const, ne_eq, Decidable.not_not, List.length_cons, List.length_nil, reduceCtorEq, Int.toNat_zero, Int.toNat_one, Int.cast_ofNat_Int, Nat.reduceAdd, Nat.reduceSub, Nat.reduceMul, Nat.reduceLT, Nat.reduceLeDiff, Nat.reduceEqDiff, Int.reduceAdd, Int.reduceSub, Int.reduceMul, Int.reduceNeg, Int.reduceLT, Int.reduceLE, Int.reduceEq, Int.reduceNe, Int.reduceToNat, t_8_remove X]
        repeat (simp only [icmp_b, aif_b, cmp]; simp (maxSteps := 4000000) only [blk_s, blk_z, a_const, a_iload, a_aload, a_istore, a_astore, a_iinc, a_add, a_sub, a_mul, a_div, a_rem, a_dup, a_dup2, a_goto, a_ifnull, a_tsw, a_gi, a_gr, a_pi, a_ald, a_sld, a_ast, a_aald, a_len, a_gst, a_copy, a_max, a_min, a_iret, a_zret, a_aret, a_ret, a_cv, a_cn, a_sv, a_sn, icmp_t, icmp_f, aif_t, aif_f, lget, lset, fget, rget, apop, isO, Kv, Kn, fitb0, cmp, swl, InR, up, cpy, ↓reduceIte, if_true, if_false, Nat.left_eq_add, Nat.add_eq_left, Nat.add_left_cancel_iff, Nat.reduceEqDiff, Nat.zero_le, true_and, and_true, true_or, or_true, not_true_eq_false, not_false_eq_true, false_and, and_false, false_implies, true_implies, forall_const, ne_eq, Decidable.not_not, List.length_cons, List.length_nil, reduceCtorEq, Int.toNat_zero, Int.toNat_one, Int.cast_ofNat_Int, Nat.reduceAdd, Nat.reduceSub, Nat.reduceMul, Nat.reduceLT, Nat.reduceLeDiff, Nat.reduceEqDiff, Int.reduceAdd, Int.reduceSub, Int.reduceMul, Int.reduceNeg, Int.reduceLT, Int.reduceLE, Int.reduceEq, Int.reduceNe, Int.reduceToNat, t_8_remove X])
        repeat' (first | assumption | with_reducible apply And.intro | with_reducible intro _)
        all_goals (try omega)
      · have ej : max a (min (k + 1) b) = max a (min (k - 1 + 1) b) := by omega
        have e1 : ¬ (σ1 180 (89 + 40 * s + k) = p) := by
          intro hq
          by_cases q2 : k < a
          · have := (h3 k (by omega) (by omega)).1
            rw [if_pos (by omega), hq] at this
            have := (hOF k (by omega) k1).mp this.symm
            omega
          · have ej2 : max a (min (k + 1) b) = b := by omega
            rw [ej2] at h3
            have := (h3 k (by omega) (by omega)).1
            rw [if_neg (by omega), hq, show k + (b - b) = k by omega] at this
            have := (hOF k (by omega) k1).mp this.symm
            omega
        rw [ej] at h
        have ih := ih (k - 1) σ1 (by omega) (by omega) (by omega) h
        rw [show k - 1 = k + -1 by omega] at ih
        refine blk_at (tok_8_remove X) 1000 rfl ?_
        simp (maxSteps := 4000000) only [blk_s, blk_z, a_const, a_iload, a_aload, a_istore, a_astore, a_iinc, a_add, a_sub, a_mul, a_div, a_rem, a_dup, a_dup2, a_goto, a_ifnull, a_tsw, a_gi, a_gr, a_pi, a_ald, a_sld, a_ast, a_aald, a_len, a_gst, a_copy, a_max, a_min, a_iret, a_zret, a_aret, a_ret, a_cv, a_cn, a_sv, a_sn, icmp_t, icmp_f, aif_t, aif_f, lget, lset, fget, rget, apop, isO, Kv, Kn, fitb0, cmp, swl, InR, up, cpy, ↓reduceIte, if_true, if_false, Nat.left_eq_add, Nat.add_eq_left, Nat.add_left_cancel_iff, Nat.reduceEqDiff, Nat.zero_le, true_and, and_true, true_or, or_true, not_true_eq_false, not_false_eq_true, false_and, and_false, false_implies, true_implies, forall_const, ne_eq, Decidable.not_not, List.length_cons, List.length_nil, reduceCtorEq, Int.toNat_zero, Int.toNat_one, Int.cast_ofNat_Int, Nat.reduceAdd, Nat.reduceSub, Nat.reduceMul, Nat.reduceLT, Nat.reduceLeDiff, Nat.reduceEqDiff, Int.reduceAdd, Int.reduceSub, Int.reduceMul, Int.reduceNeg, Int.reduceLT, Int.reduceLE, Int.reduceEq, Int.reduceNe, Int.reduceToNat, t_8_remove X, sxM hG, show ¬ (k < 0) by omega, e1]
        repeat (simp only [icmp_b, aif_b, cmp]; simp (maxSteps := 4000000) only [blk_s, blk_z, a_const, a_iload, a_aload, a_istore, a_astore, a_iinc, a_add, a_sub, a_mul, a_div, a_rem, a_dup, a_dup2, a_goto, a_ifnull, a_tsw, a_gi, a_gr, a_pi, a_ald, a_sld, a_ast, a_aald, a_len, a_gst, a_copy, a_max, a_min, a_iret, a_zret, a_aret, a_ret, a_cv, a_cn, a_sv, a_sn, icmp_t, icmp_f, aif_t, aif_f, lget, lset, fget, rget, apop, isO, Kv, Kn, fitb0, cmp, swl, InR, up, cpy, ↓reduceIte, if_true, if_false, Nat.left_eq_add, Nat.add_eq_left, Nat.add_left_cancel_iff, Nat.reduceEqDiff, Nat.zero_le, true_and, and_true, true_or, or_true, not_true_eq_false, not_false_eq_true, false_and, and_false, false_implies, true_implies, forall_const, ne_eq, Decidable.not_not, List.length_cons, List.length_nil, reduceCtorEq, Int.toNat_zero, Int.toNat_one, Int.cast_ofNat_Int, Nat.reduceAdd, Nat.reduceSub, Nat.reduceMul, Nat.reduceLT, Nat.reduceLeDiff, Nat.reduceEqDiff, Int.reduceAdd, Int.reduceSub, Int.reduceMul, Int.reduceNeg, Int.reduceLT, Int.reduceLE, Int.reduceEq, Int.reduceNe, Int.reduceToNat, t_8_remove X, sxM hG, show ¬ (k < 0) by omega, e1])
        repeat' (first | assumption | with_reducible apply And.intro | with_reducible intro _)
        all_goals (try omega)
/-- pairs behind one a place ahead -/
def deF (σ : Sto) (lo p m : Int) (b : Nat) (x : Int) : Int := if (b = 180 ∧ lo ≤ x ∧ x < lo + m) ∧ p < σ 180 x then σ 180 x - 1 else σ b x
set_option maxRecDepth 40000 in
theorem lp_deF (hG : MSh G) {s p n : Int} (hs : s = 0 ∨ s = 1) (hn : 0 ≤ n ∧ n ≤ 40) (h87 : σ 180 (87 + s) = n) (hb : ∀ j, 0 ≤ j → j < 329 → 0 ≤ σ 180 j ∧ σ 180 j ≤ 100) (hQ : WPc X M_8_remove Q 69 [some (.inr 179), some (.inl p), some (.inl s), some (.inl n)] [] (G, 0, 0) (deF σ (89 + 40 * s) p n)) : ∀ (m : Nat) (k : Int), 0 ≤ k → k ≤ n → n - k ≤ m → WPc X M_8_remove Q 69 [some (.inr 179), some (.inl p), some (.inl s), some (.inl k)] [] (G, 0, 0) (deF σ (89 + 40 * s) p k) := by
  intro m
  induction m with
  | zero =>
    intro k k0 k1 k2
    rw [show k = n by omega]
    exact hQ
  | succ m ih =>
    intro k k0 k1 k2
    by_cases c : k = n
    · rw [c]
      exact hQ
    · have ih := ih (k + 1) (by omega) (by omega) (by omega)
      have e87 : deF σ (89 + 40 * s) p k 180 (87 + s) = n := by
        unfold deF
        rw [if_neg (by omega)]
        exact h87
      have e1 : deF σ (89 + 40 * s) p k 180 (89 + 40 * s + k) = σ 180 (89 + 40 * s + k) := by
        unfold deF
        rw [if_neg (by omega)]
      have b1 := hb (89 + 40 * s + k) (by omega) (by omega)
      by_cases c2 : p < σ 180 (89 + 40 * s + k)
      · have e : up (deF σ (89 + 40 * s) p k) 180 (89 + 40 * s + k) (σ 180 (89 + 40 * s + k) - 1) = deF σ (89 + 40 * s) p (k + 1) := by
          funext b x
          unfold up deF
          by_cases q : b = 180 ∧ x = 89 + 40 * s + k
          · obtain ⟨rfl, rfl⟩ := q
            rw [if_pos ⟨rfl, rfl⟩, if_pos ⟨by omega, c2⟩]
          · rw [if_neg q]
            by_cases q2 : (b = 180 ∧ 89 + 40 * s ≤ x ∧ x < 89 + 40 * s + k) ∧ p < σ 180 x
            · rw [if_pos q2, if_pos ⟨by omega, q2.2⟩]
            · rw [if_neg q2, if_neg (fun q3 => q2 ⟨by omega, q3.2⟩)]
        rw [← e] at ih
        refine blk_at (tok_8_remove X) 1000 rfl ?_
        simp (maxSteps := 4000000) only [blk_s, blk_z, a_const, a_iload, a_aload, a_istore, a_astore, a_iinc, a_add, a_sub, a_mul, a_div, a_rem, a_dup, a_dup2, a_goto, a_ifnull, a_tsw, a_gi, a_gr, a_pi, a_ald, a_sld, a_ast, a_aald, a_len, a_gst, a_copy, a_max, a_min, a_iret, a_zret, a_aret, a_ret, a_cv, a_cn, a_sv, a_sn, icmp_t, icmp_f, aif_t, aif_f, lget, lset, fget, rget, apop, isO, Kv, Kn, fitb0, cmp, swl, InR, up, cpy, ↓reduceIte, if_true, if_false, Nat.left_eq_add, Nat.add_eq_left, Nat.add_left_cancel_iff, Nat.reduceEqDiff, Nat.zero_le, true_and, and_true, true_or, or_true, not_true_eq_false, not_false_eq_true, false_and, and_false, false_implies, true_implies, forall_const, ne_eq, Decidable.not_not, List.length_cons, List.length_nil, reduceCtorEq, Int.toNat_zero, Int.toNat_one, Int.cast_ofNat_Int, Nat.reduceAdd, Nat.reduceSub, Nat.reduceMul, Nat.reduceLT, Nat.reduceLeDiff, Nat.reduceEqDiff, Int.reduceAdd, Int.reduceSub, Int.reduceMul, Int.reduceNeg, Int.reduceLT, Int.reduceLE, Int.reduceEq, Int.reduceNe, Int.reduceToNat, t_8_remove X, sxM hG, e87, e1, show ¬ (n ≤ k) by omega, show ¬ (σ 180 (89 + 40 * s + k) ≤ p) by omega]
        repeat (simp only [icmp_b, aif_b, cmp]; simp (maxSteps := 4000000) only [blk_s, blk_z, a_const, a_iload, a_aload, a_istore, a_astore, a_iinc, a_add, a_sub, a_mul, a_div, a_rem, a_dup, a_dup2, a_goto, a_ifnull, a_tsw, a_gi, a_gr, a_pi, a_ald, a_sld, a_ast, a_aald, a_len, a_gst, a_copy, a_max, a_min, a_iret, a_zret, a_aret, a_ret, a_cv, a_cn, a_sv, a_sn, icmp_t, icmp_f, aif_t, aif_f, lget, lset, fget, rget, apop, isO, Kv, Kn, fitb0, cmp, swl, InR, up, cpy, ↓reduceIte, if_true, if_false, Nat.left_eq_add, Nat.add_eq_left, Nat.add_left_cancel_iff, Nat.reduceEqDiff, Nat.zero_le, true_and, and_true, true_or, or_true, not_true_eq_false, not_false_eq_true, false_and, and_false, false_implies, true_implies, forall_const, ne_eq, Decidable.not_not, List.length_cons, List.length_nil, reduceCtorEq, Int.toNat_zero, Int.toNat_one, Int.cast_ofNat_Int, Nat.reduceAdd, Nat.reduceSub, Nat.reduceMul, Nat.reduceLT, Nat.reduceLeDiff, Nat.reduceEqDiff, Int.reduceAdd, Int.reduceSub, Int.reduceMul, Int.reduceNeg, Int.reduceLT, Int.reduceLE, Int.reduceEq, Int.reduceNe, Int.reduceToNat, t_8_remove X, sxM hG, e87, e1, show ¬ (n ≤ k) by omega, show ¬ (σ 180 (89 + 40 * s + k) ≤ p) by omega])
        repeat' (first | assumption | with_reducible apply And.intro | with_reducible intro _)
        all_goals (try omega)
      · have e : up (deF σ (89 + 40 * s) p k) 180 (89 + 40 * s + k) (σ 180 (89 + 40 * s + k) - 0) = deF σ (89 + 40 * s) p (k + 1) := by
          funext b x
          unfold up deF
          by_cases q : b = 180 ∧ x = 89 + 40 * s + k
          · obtain ⟨rfl, rfl⟩ := q
            rw [if_pos ⟨rfl, rfl⟩, if_neg (fun q3 => c2 q3.2), Int.sub_zero]
          · rw [if_neg q]
            by_cases q2 : (b = 180 ∧ 89 + 40 * s ≤ x ∧ x < 89 + 40 * s + k) ∧ p < σ 180 x
            · rw [if_pos q2, if_pos ⟨by omega, q2.2⟩]
            · rw [if_neg q2, if_neg (fun q3 => q2 ⟨by omega, q3.2⟩)]
        rw [← e] at ih
        refine blk_at (tok_8_remove X) 1000 rfl ?_
        simp (maxSteps := 4000000) only [blk_s, blk_z, a_const, a_iload, a_aload, a_istore, a_astore, a_iinc, a_add, a_sub, a_mul, a_div, a_rem, a_dup, a_dup2, a_goto, a_ifnull, a_tsw, a_gi, a_gr, a_pi, a_ald, a_sld, a_ast, a_aald, a_len, a_gst, a_copy, a_max, a_min, a_iret, a_zret, a_aret, a_ret, a_cv, a_cn, a_sv, a_sn, icmp_t, icmp_f, aif_t, aif_f, lget, lset, fget, rget, apop, isO, Kv, Kn, fitb0, cmp, swl, InR, up, cpy, ↓reduceIte, if_true, if_false, Nat.left_eq_add, Nat.add_eq_left, Nat.add_left_cancel_iff, Nat.reduceEqDiff, Nat.zero_le, true_and, and_true, true_or, or_true, not_true_eq_false, not_false_eq_true, false_and, and_false, false_implies, true_implies, forall_const, ne_eq, Decidable.not_not, List.length_cons, List.length_nil, reduceCtorEq, Int.toNat_zero, Int.toNat_one, Int.cast_ofNat_Int, Nat.reduceAdd, Nat.reduceSub, Nat.reduceMul, Nat.reduceLT, Nat.reduceLeDiff, Nat.reduceEqDiff, Int.reduceAdd, Int.reduceSub, Int.reduceMul, Int.reduceNeg, Int.reduceLT, Int.reduceLE, Int.reduceEq, Int.reduceNe, Int.reduceToNat, t_8_remove X, sxM hG, e87, e1, show ¬ (n ≤ k) by omega, show σ 180 (89 + 40 * s + k) ≤ p by omega]
        repeat (simp only [icmp_b, aif_b, cmp]; simp (maxSteps := 4000000) only [blk_s, blk_z, a_const, a_iload, a_aload, a_istore, a_astore, a_iinc, a_add, a_sub, a_mul, a_div, a_rem, a_dup, a_dup2, a_goto, a_ifnull, a_tsw, a_gi, a_gr, a_pi, a_ald, a_sld, a_ast, a_aald, a_len, a_gst, a_copy, a_max, a_min, a_iret, a_zret, a_aret, a_ret, a_cv, a_cn, a_sv, a_sn, icmp_t, icmp_f, aif_t, aif_f, lget, lset, fget, rget, apop, isO, Kv, Kn, fitb0, cmp, swl, InR, up, cpy, ↓reduceIte, if_true, if_false, Nat.left_eq_add, Nat.add_eq_left, Nat.add_left_cancel_iff, Nat.reduceEqDiff, Nat.zero_le, true_and, and_true, true_or, or_true, not_true_eq_false, not_false_eq_true, false_and, and_false, false_implies, true_implies, forall_const, ne_eq, Decidable.not_not, List.length_cons, List.length_nil, reduceCtorEq, Int.toNat_zero, Int.toNat_one, Int.cast_ofNat_Int, Nat.reduceAdd, Nat.reduceSub, Nat.reduceMul, Nat.reduceLT, Nat.reduceLeDiff, Nat.reduceEqDiff, Int.reduceAdd, Int.reduceSub, Int.reduceMul, Int.reduceNeg, Int.reduceLT, Int.reduceLE, Int.reduceEq, Int.reduceNe, Int.reduceToNat, t_8_remove X, sxM hG, e87, e1, show ¬ (n ≤ k) by omega, show σ 180 (89 + 40 * s + k) ≤ p by omega])
        repeat' (first | assumption | with_reducible apply And.intro | with_reducible intro _)
        all_goals (try omega)
/-- rows' places behind one closed -/
def clD (σ : Sto) (base a p : Int) (b : Nat) (i : Int) : Int := if b = 180 ∧ base + a ≤ i ∧ i < base + p then σ 180 (i + 1) else σ b i
set_option maxRecDepth 40000 in
theorem lp_cl0 (hG : MSh G) {a c : Int} (ha : 0 ≤ a ∧ a ≤ c ∧ c ≤ 19) (h0 : σ 180 0 = c) (hQ : WPc X M_8_remove Q 153 [some (.inr 179), some (.inl a), some (.inl 0), some (.inl c)] [] (G, 0, 0) (clD σ 1 a c)) : ∀ (n : Nat) (p : Int), a ≤ p → p ≤ c → c - p ≤ n → WPc X M_8_remove Q 153 [some (.inr 179), some (.inl a), some (.inl 0), some (.inl p)] [] (G, 0, 0) (clD σ 1 a p) := by
  intro n
  induction n with
  | zero =>
    intro p p0 p1 p2
    rw [show p = c by omega]
    exact hQ
  | succ n ih =>
    intro p p0 p1 p2
    by_cases c1 : p = c
    · rw [c1]
      exact hQ
    · have ih := ih (p + 1) (by omega) (by omega) (by omega)
      have e0 : clD σ 1 a p 180 0 = c := by
        unfold clD
        rw [if_neg (by omega)]
        exact h0
      have e : clD σ 1 a p 180 (1 + p + 1) = σ 180 (1 + p + 1) := by
        unfold clD
        rw [if_neg (by omega)]
      have es : up (clD σ 1 a p) 180 (1 + p) (σ 180 (1 + p + 1)) = clD σ 1 a (p + 1) := by
        funext b i
        unfold up clD
        by_cases q : b = 180 ∧ i = 1 + p
        · rw [if_pos q, if_pos (by omega), q.2]
        · rw [if_neg q]
          by_cases q2 : b = 180 ∧ 1 + a ≤ i ∧ i < 1 + p
          · rw [if_pos q2, if_pos (by omega)]
          · rw [if_neg q2, if_neg (by omega)]
      rw [← es] at ih
      refine blk_at (tok_8_remove X) 1000 rfl ?_
      simp (maxSteps := 4000000) only [blk_s, blk_z, a_const, a_iload, a_aload, a_istore, a_astore, a_iinc, a_add, a_sub, a_mul, a_div, a_rem, a_dup, a_dup2, a_goto, a_ifnull, a_tsw, a_gi, a_gr, a_pi, a_ald, a_sld, a_ast, a_aald, a_len, a_gst, a_copy, a_max, a_min, a_iret, a_zret, a_aret, a_ret, a_cv, a_cn, a_sv, a_sn, icmp_t, icmp_f, aif_t, aif_f, lget, lset, fget, rget, apop, isO, Kv, Kn, fitb0, cmp, swl, InR, up, cpy, ↓reduceIte, if_true, if_false, Nat.left_eq_add, Nat.add_eq_left, Nat.add_left_cancel_iff, Nat.reduceEqDiff, Nat.zero_le, true_and, and_true, true_or, or_true, not_true_eq_false, not_false_eq_true, false_and, and_false, false_implies, true_implies, forall_const, ne_eq, Decidable.not_not, List.length_cons, List.length_nil, reduceCtorEq, Int.toNat_zero, Int.toNat_one, Int.cast_ofNat_Int, Nat.reduceAdd, Nat.reduceSub, Nat.reduceMul, Nat.reduceLT, Nat.reduceLeDiff, Nat.reduceEqDiff, Int.reduceAdd, Int.reduceSub, Int.reduceMul, Int.reduceNeg, Int.reduceLT, Int.reduceLE, Int.reduceEq, Int.reduceNe, Int.reduceToNat, t_8_remove X, sxM hG, e0, e, show ¬ (c ≤ p) by omega]
      repeat (simp only [icmp_b, aif_b, cmp]; simp (maxSteps := 4000000) only [blk_s, blk_z, a_const, a_iload, a_aload, a_istore, a_astore, a_iinc, a_add, a_sub, a_mul, a_div, a_rem, a_dup, a_dup2, a_goto, a_ifnull, a_tsw, a_gi, a_gr, a_pi, a_ald, a_sld, a_ast, a_aald, a_len, a_gst, a_copy, a_max, a_min, a_iret, a_zret, a_aret, a_ret, a_cv, a_cn, a_sv, a_sn, icmp_t, icmp_f, aif_t, aif_f, lget, lset, fget, rget, apop, isO, Kv, Kn, fitb0, cmp, swl, InR, up, cpy, ↓reduceIte, if_true, if_false, Nat.left_eq_add, Nat.add_eq_left, Nat.add_left_cancel_iff, Nat.reduceEqDiff, Nat.zero_le, true_and, and_true, true_or, or_true, not_true_eq_false, not_false_eq_true, false_and, and_false, false_implies, true_implies, forall_const, ne_eq, Decidable.not_not, List.length_cons, List.length_nil, reduceCtorEq, Int.toNat_zero, Int.toNat_one, Int.cast_ofNat_Int, Nat.reduceAdd, Nat.reduceSub, Nat.reduceMul, Nat.reduceLT, Nat.reduceLeDiff, Nat.reduceEqDiff, Int.reduceAdd, Int.reduceSub, Int.reduceMul, Int.reduceNeg, Int.reduceLT, Int.reduceLE, Int.reduceEq, Int.reduceNe, Int.reduceToNat, t_8_remove X, sxM hG, e0, e, show ¬ (c ≤ p) by omega])
      repeat' (first | assumption | with_reducible apply And.intro | with_reducible intro _)
      all_goals (try omega)
set_option maxRecDepth 40000 in
theorem lp_cl1 (hG : MSh G) {a c : Int} (ha : 0 ≤ a ∧ a ≤ c ∧ c ≤ 19) (h0 : σ 180 0 = c) (hQ : WPc X M_8_remove Q 153 [some (.inr 179), some (.inl a), some (.inl 1), some (.inl c)] [] (G, 0, 0) (clD σ 21 a c)) : ∀ (n : Nat) (p : Int), a ≤ p → p ≤ c → c - p ≤ n → WPc X M_8_remove Q 153 [some (.inr 179), some (.inl a), some (.inl 1), some (.inl p)] [] (G, 0, 0) (clD σ 21 a p) := by
  intro n
  induction n with
  | zero =>
    intro p p0 p1 p2
    rw [show p = c by omega]
    exact hQ
  | succ n ih =>
    intro p p0 p1 p2
    by_cases c1 : p = c
    · rw [c1]
      exact hQ
    · have ih := ih (p + 1) (by omega) (by omega) (by omega)
      have e0 : clD σ 21 a p 180 0 = c := by
        unfold clD
        rw [if_neg (by omega)]
        exact h0
      have e : clD σ 21 a p 180 (21 + p + 1) = σ 180 (21 + p + 1) := by
        unfold clD
        rw [if_neg (by omega)]
      have es : up (clD σ 21 a p) 180 (21 + p) (σ 180 (21 + p + 1)) = clD σ 21 a (p + 1) := by
        funext b i
        unfold up clD
        by_cases q : b = 180 ∧ i = 21 + p
        · rw [if_pos q, if_pos (by omega), q.2]
        · rw [if_neg q]
          by_cases q2 : b = 180 ∧ 21 + a ≤ i ∧ i < 21 + p
          · rw [if_pos q2, if_pos (by omega)]
          · rw [if_neg q2, if_neg (by omega)]
      rw [← es] at ih
      refine blk_at (tok_8_remove X) 1000 rfl ?_
      simp (maxSteps := 4000000) only [blk_s, blk_z, a_const, a_iload, a_aload, a_istore, a_astore, a_iinc, a_add, a_sub, a_mul, a_div, a_rem, a_dup, a_dup2, a_goto, a_ifnull, a_tsw, a_gi, a_gr, a_pi, a_ald, a_sld, a_ast, a_aald, a_len, a_gst, a_copy, a_max, a_min, a_iret, a_zret, a_aret, a_ret, a_cv, a_cn, a_sv, a_sn, icmp_t, icmp_f, aif_t, aif_f, lget, lset, fget, rget, apop, isO, Kv, Kn, fitb0, cmp, swl, InR, up, cpy, ↓reduceIte, if_true, if_false, Nat.left_eq_add, Nat.add_eq_left, Nat.add_left_cancel_iff, Nat.reduceEqDiff, Nat.zero_le, true_and, and_true, true_or, or_true, not_true_eq_false, not_false_eq_true, false_and, and_false, false_implies, true_implies, forall_const, ne_eq, Decidable.not_not, List.length_cons, List.length_nil, reduceCtorEq, Int.toNat_zero, Int.toNat_one, Int.cast_ofNat_Int, Nat.reduceAdd, Nat.reduceSub, Nat.reduceMul, Nat.reduceLT, Nat.reduceLeDiff, Nat.reduceEqDiff, Int.reduceAdd, Int.reduceSub, Int.reduceMul, Int.reduceNeg, Int.reduceLT, Int.reduceLE, Int.reduceEq, Int.reduceNe, Int.reduceToNat, t_8_remove X, sxM hG, e0, e, show ¬ (c ≤ p) by omega]
      repeat (simp only [icmp_b, aif_b, cmp]; simp (maxSteps := 4000000) only [blk_s, blk_z, a_const, a_iload, a_aload, a_istore, a_astore, a_iinc, a_add, a_sub, a_mul, a_div, a_rem, a_dup, a_dup2, a_goto, a_ifnull, a_tsw, a_gi, a_gr, a_pi, a_ald, a_sld, a_ast, a_aald, a_len, a_gst, a_copy, a_max, a_min, a_iret, a_zret, a_aret, a_ret, a_cv, a_cn, a_sv, a_sn, icmp_t, icmp_f, aif_t, aif_f, lget, lset, fget, rget, apop, isO, Kv, Kn, fitb0, cmp, swl, InR, up, cpy, ↓reduceIte, if_true, if_false, Nat.left_eq_add, Nat.add_eq_left, Nat.add_left_cancel_iff, Nat.reduceEqDiff, Nat.zero_le, true_and, and_true, true_or, or_true, not_true_eq_false, not_false_eq_true, false_and, and_false, false_implies, true_implies, forall_const, ne_eq, Decidable.not_not, List.length_cons, List.length_nil, reduceCtorEq, Int.toNat_zero, Int.toNat_one, Int.cast_ofNat_Int, Nat.reduceAdd, Nat.reduceSub, Nat.reduceMul, Nat.reduceLT, Nat.reduceLeDiff, Nat.reduceEqDiff, Int.reduceAdd, Int.reduceSub, Int.reduceMul, Int.reduceNeg, Int.reduceLT, Int.reduceLE, Int.reduceEq, Int.reduceNe, Int.reduceToNat, t_8_remove X, sxM hG, e0, e, show ¬ (c ≤ p) by omega])
      repeat' (first | assumption | with_reducible apply And.intro | with_reducible intro _)
      all_goals (try omega)
set_option maxRecDepth 40000 in
theorem lp_cl2 (hG : MSh G) {a c : Int} (ha : 0 ≤ a ∧ a ≤ c ∧ c ≤ 19) (h0 : σ 180 0 = c) (hQ : WPc X M_8_remove Q 153 [some (.inr 179), some (.inl a), some (.inl 2), some (.inl c)] [] (G, 0, 0) (clD σ 41 a c)) : ∀ (n : Nat) (p : Int), a ≤ p → p ≤ c → c - p ≤ n → WPc X M_8_remove Q 153 [some (.inr 179), some (.inl a), some (.inl 2), some (.inl p)] [] (G, 0, 0) (clD σ 41 a p) := by
  intro n
  induction n with
  | zero =>
    intro p p0 p1 p2
    rw [show p = c by omega]
    exact hQ
  | succ n ih =>
    intro p p0 p1 p2
    by_cases c1 : p = c
    · rw [c1]
      exact hQ
    · have ih := ih (p + 1) (by omega) (by omega) (by omega)
      have e0 : clD σ 41 a p 180 0 = c := by
        unfold clD
        rw [if_neg (by omega)]
        exact h0
      have e : clD σ 41 a p 180 (41 + p + 1) = σ 180 (41 + p + 1) := by
        unfold clD
        rw [if_neg (by omega)]
      have es : up (clD σ 41 a p) 180 (41 + p) (σ 180 (41 + p + 1)) = clD σ 41 a (p + 1) := by
        funext b i
        unfold up clD
        by_cases q : b = 180 ∧ i = 41 + p
        · rw [if_pos q, if_pos (by omega), q.2]
        · rw [if_neg q]
          by_cases q2 : b = 180 ∧ 41 + a ≤ i ∧ i < 41 + p
          · rw [if_pos q2, if_pos (by omega)]
          · rw [if_neg q2, if_neg (by omega)]
      rw [← es] at ih
      refine blk_at (tok_8_remove X) 1000 rfl ?_
      simp (maxSteps := 4000000) only [blk_s, blk_z, a_const, a_iload, a_aload, a_istore, a_astore, a_iinc, a_add, a_sub, a_mul, a_div, a_rem, a_dup, a_dup2, a_goto, a_ifnull, a_tsw, a_gi, a_gr, a_pi, a_ald, a_sld, a_ast, a_aald, a_len, a_gst, a_copy, a_max, a_min, a_iret, a_zret, a_aret, a_ret, a_cv, a_cn, a_sv, a_sn, icmp_t, icmp_f, aif_t, aif_f, lget, lset, fget, rget, apop, isO, Kv, Kn, fitb0, cmp, swl, InR, up, cpy, ↓reduceIte, if_true, if_false, Nat.left_eq_add, Nat.add_eq_left, Nat.add_left_cancel_iff, Nat.reduceEqDiff, Nat.zero_le, true_and, and_true, true_or, or_true, not_true_eq_false, not_false_eq_true, false_and, and_false, false_implies, true_implies, forall_const, ne_eq, Decidable.not_not, List.length_cons, List.length_nil, reduceCtorEq, Int.toNat_zero, Int.toNat_one, Int.cast_ofNat_Int, Nat.reduceAdd, Nat.reduceSub, Nat.reduceMul, Nat.reduceLT, Nat.reduceLeDiff, Nat.reduceEqDiff, Int.reduceAdd, Int.reduceSub, Int.reduceMul, Int.reduceNeg, Int.reduceLT, Int.reduceLE, Int.reduceEq, Int.reduceNe, Int.reduceToNat, t_8_remove X, sxM hG, e0, e, show ¬ (c ≤ p) by omega]
      repeat (simp only [icmp_b, aif_b, cmp]; simp (maxSteps := 4000000) only [blk_s, blk_z, a_const, a_iload, a_aload, a_istore, a_astore, a_iinc, a_add, a_sub, a_mul, a_div, a_rem, a_dup, a_dup2, a_goto, a_ifnull, a_tsw, a_gi, a_gr, a_pi, a_ald, a_sld, a_ast, a_aald, a_len, a_gst, a_copy, a_max, a_min, a_iret, a_zret, a_aret, a_ret, a_cv, a_cn, a_sv, a_sn, icmp_t, icmp_f, aif_t, aif_f, lget, lset, fget, rget, apop, isO, Kv, Kn, fitb0, cmp, swl, InR, up, cpy, ↓reduceIte, if_true, if_false, Nat.left_eq_add, Nat.add_eq_left, Nat.add_left_cancel_iff, Nat.reduceEqDiff, Nat.zero_le, true_and, and_true, true_or, or_true, not_true_eq_false, not_false_eq_true, false_and, and_false, false_implies, true_implies, forall_const, ne_eq, Decidable.not_not, List.length_cons, List.length_nil, reduceCtorEq, Int.toNat_zero, Int.toNat_one, Int.cast_ofNat_Int, Nat.reduceAdd, Nat.reduceSub, Nat.reduceMul, Nat.reduceLT, Nat.reduceLeDiff, Nat.reduceEqDiff, Int.reduceAdd, Int.reduceSub, Int.reduceMul, Int.reduceNeg, Int.reduceLT, Int.reduceLE, Int.reduceEq, Int.reduceNe, Int.reduceToNat, t_8_remove X, sxM hG, e0, e, show ¬ (c ≤ p) by omega])
      repeat' (first | assumption | with_reducible apply And.intro | with_reducible intro _)
      all_goals (try omega)
set_option maxRecDepth 40000 in
theorem lp_cl3 (hG : MSh G) {a c : Int} (ha : 0 ≤ a ∧ a ≤ c ∧ c ≤ 19) (h0 : σ 180 0 = c) (hQ : WPc X M_8_remove Q 153 [some (.inr 179), some (.inl a), some (.inl 3), some (.inl c)] [] (G, 0, 0) (clD σ 61 a c)) : ∀ (n : Nat) (p : Int), a ≤ p → p ≤ c → c - p ≤ n → WPc X M_8_remove Q 153 [some (.inr 179), some (.inl a), some (.inl 3), some (.inl p)] [] (G, 0, 0) (clD σ 61 a p) := by
  intro n
  induction n with
  | zero =>
    intro p p0 p1 p2
    rw [show p = c by omega]
    exact hQ
  | succ n ih =>
    intro p p0 p1 p2
    by_cases c1 : p = c
    · rw [c1]
      exact hQ
    · have ih := ih (p + 1) (by omega) (by omega) (by omega)
      have e0 : clD σ 61 a p 180 0 = c := by
        unfold clD
        rw [if_neg (by omega)]
        exact h0
      have e : clD σ 61 a p 180 (61 + p + 1) = σ 180 (61 + p + 1) := by
        unfold clD
        rw [if_neg (by omega)]
      have es : up (clD σ 61 a p) 180 (61 + p) (σ 180 (61 + p + 1)) = clD σ 61 a (p + 1) := by
        funext b i
        unfold up clD
        by_cases q : b = 180 ∧ i = 61 + p
        · rw [if_pos q, if_pos (by omega), q.2]
        · rw [if_neg q]
          by_cases q2 : b = 180 ∧ 61 + a ≤ i ∧ i < 61 + p
          · rw [if_pos q2, if_pos (by omega)]
          · rw [if_neg q2, if_neg (by omega)]
      rw [← es] at ih
      refine blk_at (tok_8_remove X) 1000 rfl ?_
      simp (maxSteps := 4000000) only [blk_s, blk_z, a_const, a_iload, a_aload, a_istore, a_astore, a_iinc, a_add, a_sub, a_mul, a_div, a_rem, a_dup, a_dup2, a_goto, a_ifnull, a_tsw, a_gi, a_gr, a_pi, a_ald, a_sld, a_ast, a_aald, a_len, a_gst, a_copy, a_max, a_min, a_iret, a_zret, a_aret, a_ret, a_cv, a_cn, a_sv, a_sn, icmp_t, icmp_f, aif_t, aif_f, lget, lset, fget, rget, apop, isO, Kv, Kn, fitb0, cmp, swl, InR, up, cpy, ↓reduceIte, if_true, if_false, Nat.left_eq_add, Nat.add_eq_left, Nat.add_left_cancel_iff, Nat.reduceEqDiff, Nat.zero_le, true_and, and_true, true_or, or_true, not_true_eq_false, not_false_eq_true, false_and, and_false, false_implies, true_implies, forall_const, ne_eq, Decidable.not_not, List.length_cons, List.length_nil, reduceCtorEq, Int.toNat_zero, Int.toNat_one, Int.cast_ofNat_Int, Nat.reduceAdd, Nat.reduceSub, Nat.reduceMul, Nat.reduceLT, Nat.reduceLeDiff, Nat.reduceEqDiff, Int.reduceAdd, Int.reduceSub, Int.reduceMul, Int.reduceNeg, Int.reduceLT, Int.reduceLE, Int.reduceEq, Int.reduceNe, Int.reduceToNat, t_8_remove X, sxM hG, e0, e, show ¬ (c ≤ p) by omega]
      repeat (simp only [icmp_b, aif_b, cmp]; simp (maxSteps := 4000000) only [blk_s, blk_z, a_const, a_iload, a_aload, a_istore, a_astore, a_iinc, a_add, a_sub, a_mul, a_div, a_rem, a_dup, a_dup2, a_goto, a_ifnull, a_tsw, a_gi, a_gr, a_pi, a_ald, a_sld, a_ast, a_aald, a_len, a_gst, a_copy, a_max, a_min, a_iret, a_zret, a_aret, a_ret, a_cv, a_cn, a_sv, a_sn, icmp_t, icmp_f, aif_t, aif_f, lget, lset, fget, rget, apop, isO, Kv, Kn, fitb0, cmp, swl, InR, up, cpy, ↓reduceIte, if_true, if_false, Nat.left_eq_add, Nat.add_eq_left, Nat.add_left_cancel_iff, Nat.reduceEqDiff, Nat.zero_le, true_and, and_true, true_or, or_true, not_true_eq_false, not_false_eq_true, false_and, and_false, false_implies, true_implies, forall_const, ne_eq, Decidable.not_not, List.length_cons, List.length_nil, reduceCtorEq, Int.toNat_zero, Int.toNat_one, Int.cast_ofNat_Int, Nat.reduceAdd, Nat.reduceSub, Nat.reduceMul, Nat.reduceLT, Nat.reduceLeDiff, Nat.reduceEqDiff, Int.reduceAdd, Int.reduceSub, Int.reduceMul, Int.reduceNeg, Int.reduceLT, Int.reduceLE, Int.reduceEq, Int.reduceNe, Int.reduceToNat, t_8_remove X, sxM hG, e0, e, show ¬ (c ≤ p) by omega])
      repeat' (first | assumption | with_reducible apply And.intro | with_reducible intro _)
      all_goals (try omega)
end
