theorem stv : (st_n 3 = 2 ∧ st_n 4 = 2 ∧ st_n 5 = 2) ∧ (st_v 3 0 = 1 ∧ st_v 3 1 = 3) ∧ (st_v 4 0 = 2 ∧ st_v 4 1 = 4) ∧ (st_v 5 0 = 5 ∧ st_v 5 1 = 6) := ⟨⟨rfl, rfl, rfl⟩, ⟨rfl, rfl⟩, ⟨rfl, rfl⟩, ⟨rfl, rfl⟩⟩
/-- the tables as far as they are made (e: 1 while a spread is) -/
def CT (A : Sto) (e : Int) (σ : Sto) : Prop := σ 122 1 = A 0 2 ∧ σ 122 6 = A 0 1 ∧ (∀ j, 0 ≤ j → j ≤ A 0 2 → σ 123 j = A 123 j) ∧ (∀ j, 0 ≤ j → j < A 0 2 + e → σ 124 j = A 124 j) ∧ (∀ w k, 126 ≤ w → w ≤ 133 → 0 ≤ k → k < A 0 1 → σ w k = A w k) ∧ ∀ w k, 135 ≤ w → w ≤ 141 → 0 ≤ k → k < 2 * A 0 2 → σ w k = A w k
theorem ct_c {A σ σ' : Sto} {e : Int} (h : CT A e σ) (hk : ∀ a, 122 ≤ a → a ≤ 141 → σ' a = σ a) : CT A e σ' := by
  obtain ⟨h1, h2, h3, h4, h5, h6⟩ := h
  refine ⟨by rw [hk _ (by omega) (by omega)]; exact h1, by rw [hk _ (by omega) (by omega)]; exact h2, fun j j0 j1 => by rw [hk _ (by omega) (by omega)]; exact h3 j j0 j1, fun j j0 j1 => by rw [hk _ (by omega) (by omega)]; exact h4 j j0 j1, fun w k w0 w1 k0 k1 => by rw [hk _ (by omega) (by omega)]; exact h5 w k w0 w1 k0 k1, fun w k w0 w1 k0 k1 => by rw [hk _ (by omega) (by omega)]; exact h6 w k w0 w1 k0 k1⟩
/-- nothing but the spreads changed -/
def FrC (σ σ' : Sto) : Prop := ∀ a, (a < 122 ∨ 163 < a) → σ' a = σ a
section
variable {X : XT} {G : List Sh} {σ : Sto} {Q : QT}
set_option maxRecDepth 40000 in
theorem ms_addSegment (hG : CSh G) {V A : Sto} {pb : Nat} {x y g h e : Int} (hV : EdOK V) (hA : AOK V A) (hv : VEq V σ) (hF : FVr V σ 142 A) (hP : PVr σ pb A x y) (hpb : pb = 158 ∨ pb = 161) (hB : PBd V A x y) (hC : CT A e σ) (hh : σ 122 0 = h) (hs : A 0 1 < 600) (hg : g = 0 ∨ g = 1)
    (hQ : ∀ σ', VEq V σ' → FVr V σ' 142 (putA V A x y g) → CT (putA V A x y g) e σ' → σ' 122 0 = h → (∀ a, 150 ≤ a → σ' a = σ a) → FrC σ σ' → σ' 124 = σ 124 → Q none G σ') : MS X M_6_addSegment [.inr 122, .inr 1, .inr pb, .inl g] G σ Q := by
  obtain ⟨c1, c2, c3, c4, c5, c6⟩ := hC
  have hsg := hA.2.2.1.1
  have hp0 := hP.1
  obtain ⟨q0, q1⟩ := hP.2 0 (Or.inl rfl)
  obtain ⟨q2, q3⟩ := hP.2 1 (Or.inr rfl)
  have q1 : σ (pb + 2) 0 = x := q1
  have q3 : σ (pb + 2) 1 = y := q3
  have n0 := (hF 0 (Or.inl rfl)).2.1
  have n1 := (hF 1 (Or.inr rfl)).2.1
  obtain ⟨p0, p1, p2, pa, pc⟩ := pS hG (p := pb) (by omega)
  have o : ∀ w : Nat, w ≤ 141 → ¬ (pb = w) ∧ ¬ (pb + 1 = w) ∧ ¬ (pb + 2 = w) := fun w hw => by omega
  refine MS_in [some (.inr 122), some (.inr 1), some (.inr pb), some (.inl g), none] mok_6_addSegment (Nat.le_of_ble_eq_true rfl) rfl ?_
  refine blk_wp (tok_6_addSegment X) 1000 _ _ _ _ _ ?_
  simp (maxSteps := 4000000) only [blk_s, blk_z, a_const, a_iload, a_aload, a_istore, a_astore, a_iinc, a_add, a_sub, a_mul, a_div, a_rem, a_dup, a_dup2, a_goto, a_ifnull, a_tsw, a_gi, a_gr, a_pi, a_ald, a_sld, a_ast, a_aald, a_len, a_gst, a_copy, a_max, a_min, a_iret, a_zret, a_aret, a_ret, a_cv, a_cn, a_sv, a_sn, icmp_t, icmp_f, aif_t, aif_f, lget, lset, fget, rget, apop, isO, Kv, Kn, fitb0, cmp, swl, InR, up, cpy, ↓reduceIte, if_true, if_false, Nat.left_eq_add, Nat.add_eq_left, Nat.add_left_cancel_iff, Nat.reduceEqDiff, Nat.zero_le, true_and, and_true, true_or, or_true, not_true_eq_false, not_false_eq_true, false_and, and_false, false_implies, true_implies, forall_const, ne_eq, Decidable.not_not, List.length_cons, List.length_nil, reduceCtorEq, Int.toNat_zero, Int.toNat_one, Int.cast_ofNat_Int, Nat.reduceAdd, Nat.reduceSub, Nat.reduceMul, Nat.reduceLT, Nat.reduceLeDiff, Nat.reduceEqDiff, Int.reduceAdd, Int.reduceSub, Int.reduceMul, Int.reduceNeg, Int.reduceLT, Int.reduceLE, Int.reduceEq, Int.reduceNe, Int.reduceToNat, t_6_addSegment X, sxC hG, p0, p1, p2, c2, show ¬ (600 ≤ A 0 1) by omega, show A 0 1 < 600 by omega, hp0, q0, q1, q2, q3, n0, n1, stv, o 126 (by omega), o 127 (by omega), o 128 (by omega), o 129 (by omega), o 130 (by omega), o 131 (by omega), o 132 (by omega), o 133 (by omega)]
  repeat (simp only [icmp_b, aif_b, cmp]; simp (maxSteps := 4000000) only [blk_s, blk_z, a_const, a_iload, a_aload, a_istore, a_astore, a_iinc, a_add, a_sub, a_mul, a_div, a_rem, a_dup, a_dup2, a_goto, a_ifnull, a_tsw, a_gi, a_gr, a_pi, a_ald, a_sld, a_ast, a_aald, a_len, a_gst, a_copy, a_max, a_min, a_iret, a_zret, a_aret, a_ret, a_cv, a_cn, a_sv, a_sn, icmp_t, icmp_f, aif_t, aif_f, lget, lset, fget, rget, apop, isO, Kv, Kn, fitb0, cmp, swl, InR, up, cpy, ↓reduceIte, if_true, if_false, Nat.left_eq_add, Nat.add_eq_left, Nat.add_left_cancel_iff, Nat.reduceEqDiff, Nat.zero_le, true_and, and_true, true_or, or_true, not_true_eq_false, not_false_eq_true, false_and, and_false, false_implies, true_implies, forall_const, ne_eq, Decidable.not_not, List.length_cons, List.length_nil, reduceCtorEq, Int.toNat_zero, Int.toNat_one, Int.cast_ofNat_Int, Nat.reduceAdd, Nat.reduceSub, Nat.reduceMul, Nat.reduceLT, Nat.reduceLeDiff, Nat.reduceEqDiff, Int.reduceAdd, Int.reduceSub, Int.reduceMul, Int.reduceNeg, Int.reduceLT, Int.reduceLE, Int.reduceEq, Int.reduceNe, Int.reduceToNat, t_6_addSegment X, sxC hG, p0, p1, p2, c2, show ¬ (600 ≤ A 0 1) by omega, show A 0 1 < 600 by omega, hp0, q0, q1, q2, q3, n0, n1, stv, o 126 (by omega), o 127 (by omega), o 128 (by omega), o 129 (by omega), o 130 (by omega), o 131 (by omega), o 132 (by omega), o 133 (by omega)])
  repeat' (first | assumption | with_reducible apply And.intro | with_reducible intro _)
  all_goals (try omega)
  obtain ⟨σ1, E1⟩ : ∃ s, s = up (up (up (up (up (up (up (up (up σ 126 (A 0 1) (A 0 0)) 133 (A 0 1) g) 127 (A 0 1) (A 6 0)) 128 (A 0 1) x) 131 (A 0 1) (A 2 0)) 129 (A 0 1) (A 6 1)) 130 (A 0 1) y) 132 (A 0 1) (A 2 1)) 122 6 (A 0 1 + 1) := ⟨_, rfl⟩
  rw [← E1]
  have k1 : ∀ a, a < 122 ∨ 133 < a → σ1 a = σ a := fun a ha => by
    rw [E1]
    iterate 9 rw [up_other (by omega)]
  have v1 : VEq V σ1 := fun a a1 a2 => by rw [k1 a (by omega)]; exact hv a a1 a2
  have F1 : FVr V σ1 142 A := fvr_c hF (fun a a1 a2 => k1 a (by omega))
  have P1 : PVr σ1 pb A x y := pvr_c hP (fun a a1 a2 => k1 a (by omega))
  refine ms_put (f := 142) (pb := pb) hG (fS hG (by omega)) (pS hG (by omega)) (veq_ed hV v1).1 (putB_of hV v1 F1 P1 hB) (by omega) (fun σ2 r2 => ?_)
  simp (maxSteps := 4000000) only [blk_s, blk_z, a_const, a_iload, a_aload, a_istore, a_astore, a_iinc, a_add, a_sub, a_mul, a_div, a_rem, a_dup, a_dup2, a_goto, a_ifnull, a_tsw, a_gi, a_gr, a_pi, a_ald, a_sld, a_ast, a_aald, a_len, a_gst, a_copy, a_max, a_min, a_iret, a_zret, a_aret, a_ret, a_cv, a_cn, a_sv, a_sn, icmp_t, icmp_f, aif_t, aif_f, lget, lset, fget, rget, apop, isO, Kv, Kn, fitb0, cmp, swl, InR, up, cpy, ↓reduceIte, if_true, if_false, Nat.left_eq_add, Nat.add_eq_left, Nat.add_left_cancel_iff, Nat.reduceEqDiff, Nat.zero_le, true_and, and_true, true_or, or_true, not_true_eq_false, not_false_eq_true, false_and, and_false, false_implies, true_implies, forall_const, ne_eq, Decidable.not_not, List.length_cons, List.length_nil, reduceCtorEq, Int.toNat_zero, Int.toNat_one, Int.cast_ofNat_Int, Nat.reduceAdd, Nat.reduceSub, Nat.reduceMul, Nat.reduceLT, Nat.reduceLeDiff, Nat.reduceEqDiff, Int.reduceAdd, Int.reduceSub, Int.reduceMul, Int.reduceNeg, Int.reduceLT, Int.reduceLE, Int.reduceEq, Int.reduceNe, Int.reduceToNat, t_6_addSegment X]
  repeat (simp only [icmp_b, aif_b, cmp]; simp (maxSteps := 4000000) only [blk_s, blk_z, a_const, a_iload, a_aload, a_istore, a_astore, a_iinc, a_add, a_sub, a_mul, a_div, a_rem, a_dup, a_dup2, a_goto, a_ifnull, a_tsw, a_gi, a_gr, a_pi, a_ald, a_sld, a_ast, a_aald, a_len, a_gst, a_copy, a_max, a_min, a_iret, a_zret, a_aret, a_ret, a_cv, a_cn, a_sv, a_sn, icmp_t, icmp_f, aif_t, aif_f, lget, lset, fget, rget, apop, isO, Kv, Kn, fitb0, cmp, swl, InR, up, cpy, ↓reduceIte, if_true, if_false, Nat.left_eq_add, Nat.add_eq_left, Nat.add_left_cancel_iff, Nat.reduceEqDiff, Nat.zero_le, true_and, and_true, true_or, or_true, not_true_eq_false, not_false_eq_true, false_and, and_false, false_implies, true_implies, forall_const, ne_eq, Decidable.not_not, List.length_cons, List.length_nil, reduceCtorEq, Int.toNat_zero, Int.toNat_one, Int.cast_ofNat_Int, Nat.reduceAdd, Nat.reduceSub, Nat.reduceMul, Nat.reduceLT, Nat.reduceLeDiff, Nat.reduceEqDiff, Int.reduceAdd, Int.reduceSub, Int.reduceMul, Int.reduceNeg, Int.reduceLT, Int.reduceLE, Int.reduceEq, Int.reduceNe, Int.reduceToNat, t_6_addSegment X])
  have F2 := fv_put g hV v1 F1 P1 hB r2
  have k2 : ∀ a, a < 143 ∨ 149 < a → σ2 a = σ1 a := fun a ha => r2.1 a (by omega)
  obtain ⟨⟨a1, a2, a3⟩, -, -, -, -, -, -, a7, a8, a9⟩ := putA_v V A x y g
  refine hQ σ2 (fun a a1 a2 => by rw [k2 a (by omega)]; exact v1 a a1 a2) F2 ⟨?_, ?_, fun j j0 j1 => ?_, fun j j0 j1 => ?_, fun w k w0 w1 k0 k1' => ?_, fun w k w0 w1 k0 k1' => ?_⟩ ?_ (fun a ha => by rw [k2 a (by omega), k1 a (by omega)]) (fun a ha => by rw [k2 a (by omega), k1 a (by omega)]) (by rw [k2 124 (by omega), E1]; iterate 9 rw [up_other (by omega)])
  · rw [k2 122 (by omega), E1, a3]
    simp [up, c1]
  · rw [k2 122 (by omega), E1, a2]
    simp [up]
  · rw [k2 123 (by omega), E1, a7, ← c3 j j0 (by rw [a3] at j1; exact j1)]
    simp [up]
  · rw [k2 124 (by omega), E1, a8, ← c4 j j0 (by rw [a3] at j1; exact j1)]
    simp [up]
  · rw [k2 w (by omega), E1]
    rw [a2] at k1'
    obtain ⟨t1, t2, t3, t4, t5, t6, t7, t8⟩ := putA_k V A x y g k
    have cc := fun hk : k < A 0 1 => c5 w k w0 w1 k0 hk
    have ck : k = A 0 1 ∨ k < A 0 1 := by omega
    rcases (show w = 126 ∨ w = 127 ∨ w = 128 ∨ w = 129 ∨ w = 130 ∨ w = 131 ∨ w = 132 ∨ w = 133 by omega) with rfl | rfl | rfl | rfl | rfl | rfl | rfl | rfl
    · rw [t1]; rcases ck with rfl | ck <;> simp [up, *] <;> (rw [if_neg (by omega), if_neg (by omega)])
    · rw [t2]; rcases ck with rfl | ck <;> simp [up, *] <;> (rw [if_neg (by omega), if_neg (by omega)])
    · rw [t3]; rcases ck with rfl | ck <;> simp [up, *] <;> (rw [if_neg (by omega), if_neg (by omega)])
    · rw [t4]; rcases ck with rfl | ck <;> simp [up, *] <;> (rw [if_neg (by omega), if_neg (by omega)])
    · rw [t5]; rcases ck with rfl | ck <;> simp [up, *] <;> (rw [if_neg (by omega), if_neg (by omega)])
    · rw [t6]; rcases ck with rfl | ck <;> simp [up, *] <;> (rw [if_neg (by omega), if_neg (by omega)])
    · rw [t7]; rcases ck with rfl | ck <;> simp [up, *] <;> (rw [if_neg (by omega), if_neg (by omega)])
    · rw [t8]; rcases ck with rfl | ck <;> simp [up, *] <;> (rw [if_neg (by omega), if_neg (by omega)])
  · rw [k2 w (by omega), k1 w (by omega), a9 w (by omega)]
    exact c6 w k w0 w1 k0 (by rw [a3] at k1'; exact k1')
  · rw [k2 122 (by omega), E1]
    simp [up, hh]
/-- the class while it makes spreads -/
def RP (V A σ : Sto) : Prop := σ 158 0 = A 0 0 ∧ ∀ s, (s = 0 ∨ s = 1) → σ 159 s = A 6 s ∧ σ 160 s = if A 0 0 < V 1 0 then pL V A s else 0
def CRl (V : Sto) (h : Int) (A : Sto) (e : Int) (σ : Sto) : Prop := VEq V σ ∧ σ 122 0 = h ∧ CT A e σ ∧ FVr V σ 142 A ∧ RP V A σ
theorem rp_pv {V A σ : Sto} (h : RP V A σ) (hp : A 0 0 < V 1 0) : PVr σ 158 A (pL V A 0) (pL V A 1) := by
  refine ⟨h.1, fun s hs => ?_⟩
  obtain ⟨h1, h2⟩ := h.2 s hs
  rw [if_pos hp] at h2
  refine ⟨h1, ?_⟩
  show σ 160 s = _
  rw [h2]
  rcases hs with rfl | rfl <;> rfl
theorem pbd_of {V A : Sto} {x y : Int} (hV : EdOK V) (hA : AOK V A) (hp : A 0 0 < V 1 0) (hx : 0 ≤ x ∧ x ≤ 30) (hy : 0 ≤ y ∧ y ≤ 30) : PBd V A x y := by
  refine ⟨hx, hy, fun s hs => ?_⟩
  have h := hA.2.2.2.2.2 s hs
  have hl := pL_b hV hA hp hs
  have hxy : 0 ≤ xy s x y := by unfold xy; split <;> omega
  have := eN_b (n := xy s x y) hV hA hs hxy
  omega
set_option maxRecDepth 40000 in
theorem ms_putRest (hG : CSh G) {V A : Sto} {h e : Int} (hV : EdOK V) (hA : AOK V A) (hR : CRl V h A e σ) (hp : A 0 0 < V 1 0) (hQ : ∀ σ', CRl V h (restA V A) e σ' → FrC σ σ' → σ' 124 = σ 124 → Q none G σ') : MS X M_6_putRest [.inr 122, .inr 1] G σ Q := by
  obtain ⟨hv, hh, hC, hF, hP⟩ := hR
  have l0 := pL_b hV hA hp (s := 0) (Or.inl rfl)
  have l1 := pL_b hV hA hp (s := 1) (Or.inr rfl)
  have hB := pbd_of (x := pL V A 0) (y := pL V A 1) hV hA hp (by omega) (by omega)
  have hs := (sg_b hV hA).2 hp
  refine MS_in [some (.inr 122), some (.inr 1)] mok_6_putRest (Nat.le_of_ble_eq_true rfl) rfl ?_
  refine blk_wp (tok_6_putRest X) 1000 _ _ _ _ _ ?_
  simp (maxSteps := 4000000) only [blk_s, blk_z, a_const, a_iload, a_aload, a_istore, a_astore, a_iinc, a_add, a_sub, a_mul, a_div, a_rem, a_dup, a_dup2, a_goto, a_ifnull, a_tsw, a_gi, a_gr, a_pi, a_ald, a_sld, a_ast, a_aald, a_len, a_gst, a_copy, a_max, a_min, a_iret, a_zret, a_aret, a_ret, a_cv, a_cn, a_sv, a_sn, icmp_t, icmp_f, aif_t, aif_f, lget, lset, fget, rget, apop, isO, Kv, Kn, fitb0, cmp, swl, InR, up, cpy, ↓reduceIte, if_true, if_false, Nat.left_eq_add, Nat.add_eq_left, Nat.add_left_cancel_iff, Nat.reduceEqDiff, Nat.zero_le, true_and, and_true, true_or, or_true, not_true_eq_false, not_false_eq_true, false_and, and_false, false_implies, true_implies, forall_const, ne_eq, Decidable.not_not, List.length_cons, List.length_nil, reduceCtorEq, Int.toNat_zero, Int.toNat_one, Int.cast_ofNat_Int, Nat.reduceAdd, Nat.reduceSub, Nat.reduceMul, Nat.reduceLT, Nat.reduceLeDiff, Nat.reduceEqDiff, Int.reduceAdd, Int.reduceSub, Int.reduceMul, Int.reduceNeg, Int.reduceLT, Int.reduceLE, Int.reduceEq, Int.reduceNe, Int.reduceToNat, t_6_putRest X, sxC hG]
  repeat (simp only [icmp_b, aif_b, cmp]; simp (maxSteps := 4000000) only [blk_s, blk_z, a_const, a_iload, a_aload, a_istore, a_astore, a_iinc, a_add, a_sub, a_mul, a_div, a_rem, a_dup, a_dup2, a_goto, a_ifnull, a_tsw, a_gi, a_gr, a_pi, a_ald, a_sld, a_ast, a_aald, a_len, a_gst, a_copy, a_max, a_min, a_iret, a_zret, a_aret, a_ret, a_cv, a_cn, a_sv, a_sn, icmp_t, icmp_f, aif_t, aif_f, lget, lset, fget, rget, apop, isO, Kv, Kn, fitb0, cmp, swl, InR, up, cpy, ↓reduceIte, if_true, if_false, Nat.left_eq_add, Nat.add_eq_left, Nat.add_left_cancel_iff, Nat.reduceEqDiff, Nat.zero_le, true_and, and_true, true_or, or_true, not_true_eq_false, not_false_eq_true, false_and, and_false, false_implies, true_implies, forall_const, ne_eq, Decidable.not_not, List.length_cons, List.length_nil, reduceCtorEq, Int.toNat_zero, Int.toNat_one, Int.cast_ofNat_Int, Nat.reduceAdd, Nat.reduceSub, Nat.reduceMul, Nat.reduceLT, Nat.reduceLeDiff, Nat.reduceEqDiff, Int.reduceAdd, Int.reduceSub, Int.reduceMul, Int.reduceNeg, Int.reduceLT, Int.reduceLE, Int.reduceEq, Int.reduceNe, Int.reduceToNat, t_6_putRest X, sxC hG])
  repeat' (first | assumption | with_reducible apply And.intro | with_reducible intro _)
  all_goals (try omega)
  refine ms_addSegment hG hV hA hv hF (rp_pv hP hp) (Or.inl rfl) hB hC hh hs (Or.inl rfl) (fun σ1 v1 F1 C1 h1 k1 f1 j1 => ?_)
  have e158 : σ1 158 0 = A 0 0 := by rw [k1 158 (by omega)]; exact hP.1
  have hn := hV.1
  have hp0 := hA.1
  have e1 : σ1 1 0 = V 1 0 := by rw [v1 1 (by omega) (by omega)]
  simp (maxSteps := 4000000) only [blk_s, blk_z, a_const, a_iload, a_aload, a_istore, a_astore, a_iinc, a_add, a_sub, a_mul, a_div, a_rem, a_dup, a_dup2, a_goto, a_ifnull, a_tsw, a_gi, a_gr, a_pi, a_ald, a_sld, a_ast, a_aald, a_len, a_gst, a_copy, a_max, a_min, a_iret, a_zret, a_aret, a_ret, a_cv, a_cn, a_sv, a_sn, icmp_t, icmp_f, aif_t, aif_f, lget, lset, fget, rget, apop, isO, Kv, Kn, fitb0, cmp, swl, InR, up, cpy, ↓reduceIte, if_true, if_false, Nat.left_eq_add, Nat.add_eq_left, Nat.add_left_cancel_iff, Nat.reduceEqDiff, Nat.zero_le, true_and, and_true, true_or, or_true, not_true_eq_false, not_false_eq_true, false_and, and_false, false_implies, true_implies, forall_const, ne_eq, Decidable.not_not, List.length_cons, List.length_nil, reduceCtorEq, Int.toNat_zero, Int.toNat_one, Int.cast_ofNat_Int, Nat.reduceAdd, Nat.reduceSub, Nat.reduceMul, Nat.reduceLT, Nat.reduceLeDiff, Nat.reduceEqDiff, Int.reduceAdd, Int.reduceSub, Int.reduceMul, Int.reduceNeg, Int.reduceLT, Int.reduceLE, Int.reduceEq, Int.reduceNe, Int.reduceToNat, t_6_putRest X, sxC hG, e158]
  repeat (simp only [icmp_b, aif_b, cmp]; simp (maxSteps := 4000000) only [blk_s, blk_z, a_const, a_iload, a_aload, a_istore, a_astore, a_iinc, a_add, a_sub, a_mul, a_div, a_rem, a_dup, a_dup2, a_goto, a_ifnull, a_tsw, a_gi, a_gr, a_pi, a_ald, a_sld, a_ast, a_aald, a_len, a_gst, a_copy, a_max, a_min, a_iret, a_zret, a_aret, a_ret, a_cv, a_cn, a_sv, a_sn, icmp_t, icmp_f, aif_t, aif_f, lget, lset, fget, rget, apop, isO, Kv, Kn, fitb0, cmp, swl, InR, up, cpy, ↓reduceIte, if_true, if_false, Nat.left_eq_add, Nat.add_eq_left, Nat.add_left_cancel_iff, Nat.reduceEqDiff, Nat.zero_le, true_and, and_true, true_or, or_true, not_true_eq_false, not_false_eq_true, false_and, and_false, false_implies, true_implies, forall_const, ne_eq, Decidable.not_not, List.length_cons, List.length_nil, reduceCtorEq, Int.toNat_zero, Int.toNat_one, Int.cast_ofNat_Int, Nat.reduceAdd, Nat.reduceSub, Nat.reduceMul, Nat.reduceLT, Nat.reduceLeDiff, Nat.reduceEqDiff, Int.reduceAdd, Int.reduceSub, Int.reduceMul, Int.reduceNeg, Int.reduceLT, Int.reduceLE, Int.reduceEq, Int.reduceNe, Int.reduceToNat, t_6_putRest X, sxC hG, e158])
  repeat' (first | assumption | with_reducible apply And.intro | with_reducible intro _)
  all_goals (try omega)
  refine ms_takePair (pb := 158) hG (pS hG (by omega)) (by rw [e1]; exact hn) (fun σ2 r2 => ?_)
  simp (maxSteps := 4000000) only [blk_s, blk_z, a_const, a_iload, a_aload, a_istore, a_astore, a_iinc, a_add, a_sub, a_mul, a_div, a_rem, a_dup, a_dup2, a_goto, a_ifnull, a_tsw, a_gi, a_gr, a_pi, a_ald, a_sld, a_ast, a_aald, a_len, a_gst, a_copy, a_max, a_min, a_iret, a_zret, a_aret, a_ret, a_cv, a_cn, a_sv, a_sn, icmp_t, icmp_f, aif_t, aif_f, lget, lset, fget, rget, apop, isO, Kv, Kn, fitb0, cmp, swl, InR, up, cpy, ↓reduceIte, if_true, if_false, Nat.left_eq_add, Nat.add_eq_left, Nat.add_left_cancel_iff, Nat.reduceEqDiff, Nat.zero_le, true_and, and_true, true_or, or_true, not_true_eq_false, not_false_eq_true, false_and, and_false, false_implies, true_implies, forall_const, ne_eq, Decidable.not_not, List.length_cons, List.length_nil, reduceCtorEq, Int.toNat_zero, Int.toNat_one, Int.cast_ofNat_Int, Nat.reduceAdd, Nat.reduceSub, Nat.reduceMul, Nat.reduceLT, Nat.reduceLeDiff, Nat.reduceEqDiff, Int.reduceAdd, Int.reduceSub, Int.reduceMul, Int.reduceNeg, Int.reduceLT, Int.reduceLE, Int.reduceEq, Int.reduceNe, Int.reduceToNat, t_6_putRest X]
  repeat (simp only [icmp_b, aif_b, cmp]; simp (maxSteps := 4000000) only [blk_s, blk_z, a_const, a_iload, a_aload, a_istore, a_astore, a_iinc, a_add, a_sub, a_mul, a_div, a_rem, a_dup, a_dup2, a_goto, a_ifnull, a_tsw, a_gi, a_gr, a_pi, a_ald, a_sld, a_ast, a_aald, a_len, a_gst, a_copy, a_max, a_min, a_iret, a_zret, a_aret, a_ret, a_cv, a_cn, a_sv, a_sn, icmp_t, icmp_f, aif_t, aif_f, lget, lset, fget, rget, apop, isO, Kv, Kn, fitb0, cmp, swl, InR, up, cpy, ↓reduceIte, if_true, if_false, Nat.left_eq_add, Nat.add_eq_left, Nat.add_left_cancel_iff, Nat.reduceEqDiff, Nat.zero_le, true_and, and_true, true_or, or_true, not_true_eq_false, not_false_eq_true, false_and, and_false, false_implies, true_implies, forall_const, ne_eq, Decidable.not_not, List.length_cons, List.length_nil, reduceCtorEq, Int.toNat_zero, Int.toNat_one, Int.cast_ofNat_Int, Nat.reduceAdd, Nat.reduceSub, Nat.reduceMul, Nat.reduceLT, Nat.reduceLeDiff, Nat.reduceEqDiff, Int.reduceAdd, Int.reduceSub, Int.reduceMul, Int.reduceNeg, Int.reduceLT, Int.reduceLE, Int.reduceEq, Int.reduceNe, Int.reduceToNat, t_6_putRest X])
  obtain ⟨s1, s2, s3⟩ := r2
  obtain ⟨⟨a1, a2, a3⟩, ⟨b1, b2⟩, ⟨c1, c2⟩, ⟨d1, d2⟩, e3, e4, ⟨e60, e61⟩, e7, e8, e9⟩ := restA_v V A
  obtain ⟨⟨a1', a2', a3'⟩, ⟨b1', b2'⟩, ⟨c1', c2'⟩, ⟨d1', d2'⟩, e3', e4', -, e7', e8', -⟩ := putA_v V A (pL V A 0) (pL V A 1) 0
  refine hQ σ2 ⟨fun a a1 a2 => by rw [s1 a (by omega)]; exact v1 a a1 a2, by rw [s1 122 (by omega)]; exact h1, ?_, ?_, ?_⟩ (fun a ha => by rw [s1 a (by omega)]; exact f1 a ha) (by rw [s1 124 (by omega)]; exact j1)
  · obtain ⟨g1, g2, g3, g4, g5, g6⟩ := ct_c C1 (fun a a1 a2 => s1 a (by omega))
    refine ⟨by rw [a3, ← a3']; exact g1, by rw [a2, ← a2']; exact g2, fun j j0 j1 => ?_, fun j j0 j1 => ?_, fun w k w0 w1 k0 k1 => ?_, fun w k w0 w1 k0 k1 => ?_⟩
    · rw [e7, ← e7']
      exact g3 j j0 (by rw [a3']; rw [a3] at j1; exact j1)
    · rw [e8, ← e8']
      exact g4 j j0 (by rw [a3']; rw [a3] at j1; exact j1)
    · rw [e9 w (by omega)]
      exact g5 w k w0 w1 k0 (by rw [a2']; rw [a2] at k1; exact k1)
    · rw [e9 w (by omega)]
      exact g6 w k w0 w1 k0 (by rw [a3']; rw [a3] at k1; exact k1)
  · have F2 := fvr_c F1 (fun a a1 a2 => s1 a (by omega))
    intro s hs
    have := F2 s hs
    rw [e3', e4'] at this
    rw [e3, e4]
    rcases hs with rfl | rfl
    · rw [b1', c1', d1'] at this
      rw [b1, c1, d1]
      exact this
    · rw [b2', c2', d2'] at this
      rw [b2, c2, d2]
      exact this
  · refine ⟨by rw [a1]; exact s2, fun s hs => ?_⟩
    obtain ⟨t1, t2⟩ := s3 s hs
    have e6s : restA V A 6 s = 0 := by rcases hs with rfl | rfl <;> assumption
    refine ⟨by rw [e6s]; exact t1, ?_⟩
    rw [show σ2 160 s = σ2 (158 + 2) s from rfl, t2, e1, a1]
    unfold pL
    rw [e6s, a1, Int.sub_zero]
    by_cases c : A 0 0 + 1 < V 1 0
    · rw [if_pos c, if_pos (by omega)]
      have : σ1 (3 + s.toNat) = V (3 + s.toNat) := v1 _ (by omega) (by rcases hs with rfl | rfl <;> decide)
      rw [this]
    · rw [if_neg c, if_neg (by omega)]
end
