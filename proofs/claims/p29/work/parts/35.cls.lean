/-! ===== the class makes its spreads ===== -/
def VEq (V σ : Sto) : Prop := ∀ a, 1 ≤ a → a ≤ 17 → σ a = V a
def xy (s x y : Int) : Int := if s = 0 then x else y
def FVr (V σ : Sto) (f : Nat) (A : Sto) : Prop := ∀ s, (s = 0 ∨ s = 1) → σ (f + 1) s = A 1 s ∧ σ (f + 2) s = A 2 s ∧ σ (f + 3) s = A 3 s ∧ σ (f + 4) s = A 4 s ∧ σ (f + 5) s = A 5 s - A 4 s ∧ σ (f + 6) s = SL V (nbS s) (A 4 s) (A 5 s) ∧ σ (f + 7) s = lastL V (nbS s) (A 4 s) (A 5 s)
def PVr (σ : Sto) (pb : Nat) (A : Sto) (x y : Int) : Prop := σ pb 0 = A 0 0 ∧ ∀ s, (s = 0 ∨ s = 1) → σ (pb + 1) s = A 6 s ∧ σ (pb + 2) s = xy s x y
def PBd (V A : Sto) (x y : Int) : Prop := (0 ≤ x ∧ x ≤ 30) ∧ (0 ≤ y ∧ y ≤ 30) ∧ ∀ s, (s = 0 ∨ s = 1) → (0 ≤ A 2 s ∧ A 2 s ≤ 700) ∧ (0 ≤ A 6 s ∧ A 6 s ≤ 30) ∧ (0 ≤ A 3 s ∧ A 3 s ≤ 5) ∧ (0 ≤ A 4 s ∧ A 4 s ≤ A 5 s) ∧ A 5 s ≤ eN V A s (xy s x y)
theorem fvr_c {V σ σ' : Sto} {f : Nat} {A : Sto} (h : FVr V σ f A) (hk : ∀ a, f + 1 ≤ a → a ≤ f + 7 → σ' a = σ a) : FVr V σ' f A := fun s hs => by
  have := h s hs
  rw [hk _ (by omega) (by omega), hk _ (by omega) (by omega), hk _ (by omega) (by omega), hk _ (by omega) (by omega), hk _ (by omega) (by omega), hk _ (by omega) (by omega), hk _ (by omega) (by omega)]
  exact this
theorem pvr_c {σ σ' : Sto} {pb : Nat} {A : Sto} {x y : Int} (h : PVr σ pb A x y) (hk : ∀ a, pb ≤ a → a ≤ pb + 2 → σ' a = σ a) : PVr σ' pb A x y := by
  obtain ⟨h1, h2⟩ := h
  refine ⟨by rw [hk _ (by omega) (by omega)]; exact h1, fun s hs => ?_⟩
  rw [hk _ (by omega) (by omega), hk _ (by omega) (by omega)]
  exact h2 s hs
theorem veq_ed {V σ : Sto} (hV : EdOK V) (h : VEq V σ) : EdOK σ ∧ ∀ s, (s = 0 ∨ s = 1) → ∀ p x, nA σ (nbS s) p x = nA V (nbS s) p x := by
  obtain ⟨h1, h2, h3⟩ := ed_keep h hV
  refine ⟨h1, fun s hs => ?_⟩
  rcases hs with rfl | rfl
  · exact h2
  · exact h3
theorem veq_nb {V σ : Sto} (h : VEq V σ) {s : Int} (hs : s = 0 ∨ s = 1) : σ (nbS s + 4) = V (nbS s + 4) := by
  rcases hs with rfl | rfl
  · exact h 11 (by omega) (by omega)
  · exact h 16 (by omega) (by omega)
theorem eN_le {V A : Sto} (hV : EdOK V) {s n : Int} (hs : s = 0 ∨ s = 1) : eN V A s n ≤ V (nbS s) 0 ∧ V (nbS s) 0 ≤ 40 := ⟨(nA_is (nbO hV hs).1 _ _).2.1, (nbO hV hs).1.1.2⟩
theorem putB_of {V σ : Sto} {f pb : Nat} {A : Sto} {x y : Int} (hV : EdOK V) (hv : VEq V σ) (hF : FVr V σ f A) (hP : PVr σ pb A x y) (hB : PBd V A x y) : PutB σ f pb := by
  intro s hs
  obtain ⟨hx, hy, hB⟩ := hB
  have h1 := hF s hs
  have h2 := hP.2 s hs
  have h3 := hB s hs
  have h4 := eN_le (A := A) (n := xy s x y) hV hs
  have h5 := SLv_b (a := A 4 s) (b := A 5 s) hV hs (by omega) (by omega) (by omega)
  have hxy : 0 ≤ xy s x y ∧ xy s x y ≤ 30 := by unfold xy; split <;> omega
  rw [h1.2.1, h1.2.2.2.1, h1.2.2.2.2.1, h1.2.2.2.2.2.1, h2.1, h2.2, hP.1, (veq_ed hV hv).2 s hs]
  unfold eN at h3 h4
  omega
theorem fv_put {V σ σ' : Sto} {f pb : Nat} {A : Sto} {x y : Int} (g : Int) (hV : EdOK V) (hv : VEq V σ) (hF : FVr V σ f A) (hP : PVr σ pb A x y) (hB : PBd V A x y) (hR : PutR σ σ' f pb) : FVr V σ' f (putA V A x y g) := by
  intro s hs
  obtain ⟨-, -, hB⟩ := hB
  have h1 := hF s hs
  have h10 := hF 0 (Or.inl rfl)
  have h11 := hF 1 (Or.inr rfl)
  have h2 := hP.2 s hs
  have h20 := hP.2 0 (Or.inl rfl)
  have h21 := hP.2 1 (Or.inr rfl)
  have h3 := hB s hs
  have h4 := eN_le (A := A) (n := xy s x y) hV hs
  obtain ⟨r1, r2, r3, r4, r5, r6, r7⟩ := hR.2 s hs
  have hnA := (veq_ed hV hv).2 s hs
  have hnb := veq_nb hv hs
  have h17 : σ 17 = V 17 := hv 17 (by omega) (by omega)
  have ef : nA σ (nbS s) (σ pb 0) (σ (pb + 1) s + σ (pb + 2) s) = eN V A s (xy s x y) := by
    rw [hnA, hP.1, h2.1, h2.2]
    rfl
  have e45 : σ (f + 4) s + σ (f + 5) s = A 5 s := by rw [h1.2.2.2.1, h1.2.2.2.2.1]; omega
  rw [ef] at r5 r6 r7
  rw [e45] at r6 r7
  obtain ⟨-, ⟨b1, b2⟩, ⟨c1, c2⟩, ⟨d1, d2⟩, e3, e4, -⟩ := putA_v V A x y g
  have w1 : putA V A x y g 1 s = A 2 s + xy s x y := by rcases hs with rfl | rfl <;> assumption
  have w2 : putA V A x y g 2 s = nxt V (A 2 0 + x) (A 2 1 + y) (A 2 s + xy s x y) := by rcases hs with rfl | rfl <;> assumption
  have w5 : putA V A x y g 5 s = eN V A s (xy s x y) := by rcases hs with rfl | rfl <;> assumption
  rw [w1, w2, w5, e3, e4]
  refine ⟨?_, ?_, ?_, ?_, ?_, ?_, ?_⟩
  · rw [r1, h1.2.1, h2.2]
  · rw [r2, h17, h10.2.1, h11.2.1, h1.2.1, h20.2, h21.2, h2.2]
    rfl
  · rw [r3, h1.2.2.1]
  · rw [r4, h1.2.2.2.1]
  · rw [r5, h1.2.2.2.1]
  · rw [r6, h1.2.2.2.2.2.1, SL_c hnb, ← SL_add (by omega) (by omega)]
  · rw [r7, h1.2.2.2.2.2.2, hnb]
    unfold lastL
    by_cases c : eN V A s (xy s x y) = A 5 s
    · rw [if_pos c, c]
    · rw [if_neg c, if_neg (by omega)]
theorem fvr_B {V σ : Sto} {f : Nat} {A : Sto} (hV : EdOK V) (hF : FVr V σ f A) (hA : ∀ s, (s = 0 ∨ s = 1) → (0 ≤ A 1 s ∧ A 1 s ≤ 1000) ∧ (0 ≤ A 3 s ∧ A 3 s ≤ 5) ∧ (0 ≤ A 4 s ∧ A 4 s ≤ A 5 s) ∧ A 5 s ≤ V (nbS s) 0) : FB σ f := by
  intro s hs
  have h1 := hF s hs
  have h2 := hA s hs
  have h5 := SLv_b (a := A 4 s) (b := A 5 s) hV hs (by omega) (by omega) (by omega)
  have h6 := lastL_b (a := A 4 s) (b := A 5 s) hV hs (by omega) (by omega) (by omega)
  rw [h1.1, h1.2.2.1, h1.2.2.2.2.2.1, h1.2.2.2.2.2.2]
  omega
theorem putA_b {V A : Sto} {x y : Int} (g : Int) (hV : EdOK V) (hB : PBd V A x y) : ∀ s, (s = 0 ∨ s = 1) → (0 ≤ putA V A x y g 1 s ∧ putA V A x y g 1 s ≤ 1000) ∧ (0 ≤ putA V A x y g 3 s ∧ putA V A x y g 3 s ≤ 5) ∧ (0 ≤ putA V A x y g 4 s ∧ putA V A x y g 4 s ≤ putA V A x y g 5 s) ∧ putA V A x y g 5 s ≤ V (nbS s) 0 := by
  intro s hs
  obtain ⟨hx, hy, hB⟩ := hB
  obtain ⟨-, ⟨b1, b2⟩, ⟨c1, c2⟩, ⟨d1, d2⟩, e3, e4, -⟩ := putA_v V A x y g
  have w1 : putA V A x y g 1 s = A 2 s + xy s x y := by rcases hs with rfl | rfl <;> assumption
  have w5 : putA V A x y g 5 s = eN V A s (xy s x y) := by rcases hs with rfl | rfl <;> assumption
  have h3 := hB s hs
  have h4 := eN_le (A := A) (n := xy s x y) hV hs
  have hxy : 0 ≤ xy s x y ∧ xy s x y ≤ 30 := by unfold xy; split <;> omega
  rw [w1, w5, e3, e4]
  omega
theorem fits_iff {V σ : Sto} {f : Nat} {A : Sto} {x y g h c : Int} (hF : FVr V σ f (putA V A x y g)) : fitsP σ f h (V 17 2) c ↔ fitA V A h c x y := by
  obtain ⟨-, ⟨b1, b2⟩, ⟨c1, c2⟩, ⟨d1, d2⟩, e3, e4, -⟩ := putA_v V A x y g
  obtain ⟨u1, -, u3, -, -, u6, u7⟩ := hF 0 (Or.inl rfl)
  obtain ⟨v1, -, v3, -, -, v6, v7⟩ := hF 1 (Or.inr rfl)
  have m0 : mostC σ f 0 c = mostN V c (nbS 0) (A 4 0) (eN V A 0 x) := by
    unfold mostC mostN
    rw [u7, e4, d1]
  have m1 : mostC σ f 1 c = mostN V c (nbS 1) (A 4 1) (eN V A 1 y) := by
    unfold mostC mostN
    rw [v7, e4, d2]
  unfold fitsP fitA fitS
  rw [m0, m1]
  unfold nrow
  rw [u1, v1, u3, v3, u6, v6, b1, b2, e3, e4, d1, d2]
  rfl
/-- what looking whether a part fits may change -/
def ScR (σ σ' : Sto) : Prop := ∀ a, (a < 150 ∨ 157 < a) → (a < 161 ∨ 163 < a) → σ' a = σ a
def TrR (σ σ' : Sto) : Prop := ∀ a, (a < 150 ∨ 157 < a) → σ' a = σ a
section
variable {X : XT} {G : List Sh} {σ : Sto} {Q : QT}
set_option maxRecDepth 40000 in
theorem ms_fitsS (hG : CSh G) {V A : Sto} {pb : Nat} {x y h : Int} (hV : EdOK V) (hv : VEq V σ) (hF : FVr V σ 142 A) (hP : PVr σ pb A x y) (hpb : pb = 158 ∨ pb = 161) (hB : PBd V A x y) (hh : σ 122 0 = h)
    (h1 : fitA V A h (V 17 4) x y → ∀ σ', TrR σ σ' → Q (some (.inl 1)) G σ') (h0 : ¬ fitA V A h (V 17 4) x y → ∀ σ', TrR σ σ' → Q (some (.inl 0)) G σ') : MS X M_6_fits [.inr 122, .inr 1, .inr pb] G σ Q := by
  refine MS_in [some (.inr 122), some (.inr 1), some (.inr pb)] mok_6_fits (Nat.le_of_ble_eq_true rfl) rfl ?_
  refine blk_wp (tok_6_fits X) 1000 _ _ _ _ _ ?_
  simp (maxSteps := 4000000) only [blk_s, blk_z, a_const, a_iload, a_aload, a_istore, a_astore, a_iinc, a_add, a_sub, a_mul, a_div, a_rem, a_dup, a_dup2, a_goto, a_ifnull, a_tsw, a_gi, a_gr, a_pi, a_ald, a_sld, a_ast, a_aald, a_len, a_gst, a_copy, a_max, a_min, a_iret, a_zret, a_aret, a_ret, a_cv, a_cn, a_sv, a_sn, icmp_t, icmp_f, aif_t, aif_f, lget, lset, fget, rget, apop, isO, Kv, Kn, fitb0, cmp, swl, InR, up, cpy, ↓reduceIte, if_true, if_false, Nat.left_eq_add, Nat.add_eq_left, Nat.add_left_cancel_iff, Nat.reduceEqDiff, Nat.zero_le, true_and, and_true, true_or, or_true, not_true_eq_false, not_false_eq_true, false_and, and_false, false_implies, true_implies, forall_const, ne_eq, Decidable.not_not, List.length_cons, List.length_nil, reduceCtorEq, Int.toNat_zero, Int.toNat_one, Int.cast_ofNat_Int, Nat.reduceAdd, Nat.reduceSub, Nat.reduceMul, Nat.reduceLT, Nat.reduceLeDiff, Nat.reduceEqDiff, Int.reduceAdd, Int.reduceSub, Int.reduceMul, Int.reduceNeg, Int.reduceLT, Int.reduceLE, Int.reduceEq, Int.reduceNe, Int.reduceToNat, t_6_fits X, sxC hG]
  repeat (simp only [icmp_b, aif_b, cmp]; simp (maxSteps := 4000000) only [blk_s, blk_z, a_const, a_iload, a_aload, a_istore, a_astore, a_iinc, a_add, a_sub, a_mul, a_div, a_rem, a_dup, a_dup2, a_goto, a_ifnull, a_tsw, a_gi, a_gr, a_pi, a_ald, a_sld, a_ast, a_aald, a_len, a_gst, a_copy, a_max, a_min, a_iret, a_zret, a_aret, a_ret, a_cv, a_cn, a_sv, a_sn, icmp_t, icmp_f, aif_t, aif_f, lget, lset, fget, rget, apop, isO, Kv, Kn, fitb0, cmp, swl, InR, up, cpy, ↓reduceIte, if_true, if_false, Nat.left_eq_add, Nat.add_eq_left, Nat.add_left_cancel_iff, Nat.reduceEqDiff, Nat.zero_le, true_and, and_true, true_or, or_true, not_true_eq_false, not_false_eq_true, false_and, and_false, false_implies, true_implies, forall_const, ne_eq, Decidable.not_not, List.length_cons, List.length_nil, reduceCtorEq, Int.toNat_zero, Int.toNat_one, Int.cast_ofNat_Int, Nat.reduceAdd, Nat.reduceSub, Nat.reduceMul, Nat.reduceLT, Nat.reduceLeDiff, Nat.reduceEqDiff, Int.reduceAdd, Int.reduceSub, Int.reduceMul, Int.reduceNeg, Int.reduceLT, Int.reduceLE, Int.reduceEq, Int.reduceNe, Int.reduceToNat, t_6_fits X, sxC hG])
  repeat' (first | assumption | with_reducible apply And.intro | with_reducible intro _)
  all_goals (try omega)
  refine ms_copyF (f := 150) (g := 142) (fS hG (by omega)) (fS hG (by omega)) (by omega) (fun σ1 r1 => ?_)
  have v1 : VEq V σ1 := fun a a1 a2 => by rw [r1.1 a (by omega)]; exact hv a a1 a2
  have F1 : FVr V σ1 150 A := by
    intro s hs
    have := hF s hs
    rw [r1.2 1 s (by omega) (by omega) (by omega) (by omega), r1.2 2 s (by omega) (by omega) (by omega) (by omega), r1.2 3 s (by omega) (by omega) (by omega) (by omega), r1.2 4 s (by omega) (by omega) (by omega) (by omega), r1.2 5 s (by omega) (by omega) (by omega) (by omega), r1.2 6 s (by omega) (by omega) (by omega) (by omega), r1.2 7 s (by omega) (by omega) (by omega) (by omega)]
    exact this
  have P1 : PVr σ1 pb A x y := pvr_c hP (fun a a1 a2 => r1.1 a (by omega))
  simp (maxSteps := 4000000) only [blk_s, blk_z, a_const, a_iload, a_aload, a_istore, a_astore, a_iinc, a_add, a_sub, a_mul, a_div, a_rem, a_dup, a_dup2, a_goto, a_ifnull, a_tsw, a_gi, a_gr, a_pi, a_ald, a_sld, a_ast, a_aald, a_len, a_gst, a_copy, a_max, a_min, a_iret, a_zret, a_aret, a_ret, a_cv, a_cn, a_sv, a_sn, icmp_t, icmp_f, aif_t, aif_f, lget, lset, fget, rget, apop, isO, Kv, Kn, fitb0, cmp, swl, InR, up, cpy, ↓reduceIte, if_true, if_false, Nat.left_eq_add, Nat.add_eq_left, Nat.add_left_cancel_iff, Nat.reduceEqDiff, Nat.zero_le, true_and, and_true, true_or, or_true, not_true_eq_false, not_false_eq_true, false_and, and_false, false_implies, true_implies, forall_const, ne_eq, Decidable.not_not, List.length_cons, List.length_nil, reduceCtorEq, Int.toNat_zero, Int.toNat_one, Int.cast_ofNat_Int, Nat.reduceAdd, Nat.reduceSub, Nat.reduceMul, Nat.reduceLT, Nat.reduceLeDiff, Nat.reduceEqDiff, Int.reduceAdd, Int.reduceSub, Int.reduceMul, Int.reduceNeg, Int.reduceLT, Int.reduceLE, Int.reduceEq, Int.reduceNe, Int.reduceToNat, t_6_fits X, sxC hG]
  repeat (simp only [icmp_b, aif_b, cmp]; simp (maxSteps := 4000000) only [blk_s, blk_z, a_const, a_iload, a_aload, a_istore, a_astore, a_iinc, a_add, a_sub, a_mul, a_div, a_rem, a_dup, a_dup2, a_goto, a_ifnull, a_tsw, a_gi, a_gr, a_pi, a_ald, a_sld, a_ast, a_aald, a_len, a_gst, a_copy, a_max, a_min, a_iret, a_zret, a_aret, a_ret, a_cv, a_cn, a_sv, a_sn, icmp_t, icmp_f, aif_t, aif_f, lget, lset, fget, rget, apop, isO, Kv, Kn, fitb0, cmp, swl, InR, up, cpy, ↓reduceIte, if_true, if_false, Nat.left_eq_add, Nat.add_eq_left, Nat.add_left_cancel_iff, Nat.reduceEqDiff, Nat.zero_le, true_and, and_true, true_or, or_true, not_true_eq_false, not_false_eq_true, false_and, and_false, false_implies, true_implies, forall_const, ne_eq, Decidable.not_not, List.length_cons, List.length_nil, reduceCtorEq, Int.toNat_zero, Int.toNat_one, Int.cast_ofNat_Int, Nat.reduceAdd, Nat.reduceSub, Nat.reduceMul, Nat.reduceLT, Nat.reduceLeDiff, Nat.reduceEqDiff, Int.reduceAdd, Int.reduceSub, Int.reduceMul, Int.reduceNeg, Int.reduceLT, Int.reduceLE, Int.reduceEq, Int.reduceNe, Int.reduceToNat, t_6_fits X, sxC hG])
  repeat' (first | assumption | with_reducible apply And.intro | with_reducible intro _)
  all_goals (try omega)
  refine ms_put (f := 150) (pb := pb) hG (fS hG (by omega)) (pS hG (by omega)) (veq_ed hV v1).1 (putB_of hV v1 F1 P1 hB) (by omega) (fun σ2 r2 => ?_)
  have v2 : VEq V σ2 := fun a a1 a2 => by rw [r2.1 a (by omega)]; exact v1 a a1 a2
  have F2 := fv_put 0 hV v1 F1 P1 hB r2
  have e17 : σ2 17 = V 17 := v2 17 (by omega) (by omega)
  have e122 : σ2 122 = σ 122 := by rw [r2.1 122 (by omega), r1.1 122 (by omega)]
  have T2 : TrR σ σ2 := fun a ha => by rw [r2.1 a (by omega), r1.1 a (by omega)]
  have hK : StK V := hV.2.2.2.2.2.2.2
  unfold StK at hK
  simp (maxSteps := 4000000) only [blk_s, blk_z, a_const, a_iload, a_aload, a_istore, a_astore, a_iinc, a_add, a_sub, a_mul, a_div, a_rem, a_dup, a_dup2, a_goto, a_ifnull, a_tsw, a_gi, a_gr, a_pi, a_ald, a_sld, a_ast, a_aald, a_len, a_gst, a_copy, a_max, a_min, a_iret, a_zret, a_aret, a_ret, a_cv, a_cn, a_sv, a_sn, icmp_t, icmp_f, aif_t, aif_f, lget, lset, fget, rget, apop, isO, Kv, Kn, fitb0, cmp, swl, InR, up, cpy, ↓reduceIte, if_true, if_false, Nat.left_eq_add, Nat.add_eq_left, Nat.add_left_cancel_iff, Nat.reduceEqDiff, Nat.zero_le, true_and, and_true, true_or, or_true, not_true_eq_false, not_false_eq_true, false_and, and_false, false_implies, true_implies, forall_const, ne_eq, Decidable.not_not, List.length_cons, List.length_nil, reduceCtorEq, Int.toNat_zero, Int.toNat_one, Int.cast_ofNat_Int, Nat.reduceAdd, Nat.reduceSub, Nat.reduceMul, Nat.reduceLT, Nat.reduceLeDiff, Nat.reduceEqDiff, Int.reduceAdd, Int.reduceSub, Int.reduceMul, Int.reduceNeg, Int.reduceLT, Int.reduceLE, Int.reduceEq, Int.reduceNe, Int.reduceToNat, t_6_fits X, sxC hG, e17, e122, hh]
  repeat (simp only [icmp_b, aif_b, cmp]; simp (maxSteps := 4000000) only [blk_s, blk_z, a_const, a_iload, a_aload, a_istore, a_astore, a_iinc, a_add, a_sub, a_mul, a_div, a_rem, a_dup, a_dup2, a_goto, a_ifnull, a_tsw, a_gi, a_gr, a_pi, a_ald, a_sld, a_ast, a_aald, a_len, a_gst, a_copy, a_max, a_min, a_iret, a_zret, a_aret, a_ret, a_cv, a_cn, a_sv, a_sn, icmp_t, icmp_f, aif_t, aif_f, lget, lset, fget, rget, apop, isO, Kv, Kn, fitb0, cmp, swl, InR, up, cpy, ↓reduceIte, if_true, if_false, Nat.left_eq_add, Nat.add_eq_left, Nat.add_left_cancel_iff, Nat.reduceEqDiff, Nat.zero_le, true_and, and_true, true_or, or_true, not_true_eq_false, not_false_eq_true, false_and, and_false, false_implies, true_implies, forall_const, ne_eq, Decidable.not_not, List.length_cons, List.length_nil, reduceCtorEq, Int.toNat_zero, Int.toNat_one, Int.cast_ofNat_Int, Nat.reduceAdd, Nat.reduceSub, Nat.reduceMul, Nat.reduceLT, Nat.reduceLeDiff, Nat.reduceEqDiff, Int.reduceAdd, Int.reduceSub, Int.reduceMul, Int.reduceNeg, Int.reduceLT, Int.reduceLE, Int.reduceEq, Int.reduceNe, Int.reduceToNat, t_6_fits X, sxC hG, e17, e122, hh])
  repeat' (first | assumption | with_reducible apply And.intro | with_reducible intro _)
  all_goals (try omega)
  refine ms_fitsF (f := 150) (fS hG (by omega)) (fvr_B hV F2 (putA_b 0 hV hB)) (by omega) (by omega) (fun c => ?_) (fun c => ?_)
  · simp (maxSteps := 4000000) only [blk_s, blk_z, a_const, a_iload, a_aload, a_istore, a_astore, a_iinc, a_add, a_sub, a_mul, a_div, a_rem, a_dup, a_dup2, a_goto, a_ifnull, a_tsw, a_gi, a_gr, a_pi, a_ald, a_sld, a_ast, a_aald, a_len, a_gst, a_copy, a_max, a_min, a_iret, a_zret, a_aret, a_ret, a_cv, a_cn, a_sv, a_sn, icmp_t, icmp_f, aif_t, aif_f, lget, lset, fget, rget, apop, isO, Kv, Kn, fitb0, cmp, swl, InR, up, cpy, ↓reduceIte, if_true, if_false, Nat.left_eq_add, Nat.add_eq_left, Nat.add_left_cancel_iff, Nat.reduceEqDiff, Nat.zero_le, true_and, and_true, true_or, or_true, not_true_eq_false, not_false_eq_true, false_and, and_false, false_implies, true_implies, forall_const, ne_eq, Decidable.not_not, List.length_cons, List.length_nil, reduceCtorEq, Int.toNat_zero, Int.toNat_one, Int.cast_ofNat_Int, Nat.reduceAdd, Nat.reduceSub, Nat.reduceMul, Nat.reduceLT, Nat.reduceLeDiff, Nat.reduceEqDiff, Int.reduceAdd, Int.reduceSub, Int.reduceMul, Int.reduceNeg, Int.reduceLT, Int.reduceLE, Int.reduceEq, Int.reduceNe, Int.reduceToNat, t_6_fits X]
    repeat (simp only [icmp_b, aif_b, cmp]; simp (maxSteps := 4000000) only [blk_s, blk_z, a_const, a_iload, a_aload, a_istore, a_astore, a_iinc, a_add, a_sub, a_mul, a_div, a_rem, a_dup, a_dup2, a_goto, a_ifnull, a_tsw, a_gi, a_gr, a_pi, a_ald, a_sld, a_ast, a_aald, a_len, a_gst, a_copy, a_max, a_min, a_iret, a_zret, a_aret, a_ret, a_cv, a_cn, a_sv, a_sn, icmp_t, icmp_f, aif_t, aif_f, lget, lset, fget, rget, apop, isO, Kv, Kn, fitb0, cmp, swl, InR, up, cpy, ↓reduceIte, if_true, if_false, Nat.left_eq_add, Nat.add_eq_left, Nat.add_left_cancel_iff, Nat.reduceEqDiff, Nat.zero_le, true_and, and_true, true_or, or_true, not_true_eq_false, not_false_eq_true, false_and, and_false, false_implies, true_implies, forall_const, ne_eq, Decidable.not_not, List.length_cons, List.length_nil, reduceCtorEq, Int.toNat_zero, Int.toNat_one, Int.cast_ofNat_Int, Nat.reduceAdd, Nat.reduceSub, Nat.reduceMul, Nat.reduceLT, Nat.reduceLeDiff, Nat.reduceEqDiff, Int.reduceAdd, Int.reduceSub, Int.reduceMul, Int.reduceNeg, Int.reduceLT, Int.reduceLE, Int.reduceEq, Int.reduceNe, Int.reduceToNat, t_6_fits X])
    exact h1 ((fits_iff F2).mp c) σ2 T2
  · simp (maxSteps := 4000000) only [blk_s, blk_z, a_const, a_iload, a_aload, a_istore, a_astore, a_iinc, a_add, a_sub, a_mul, a_div, a_rem, a_dup, a_dup2, a_goto, a_ifnull, a_tsw, a_gi, a_gr, a_pi, a_ald, a_sld, a_ast, a_aald, a_len, a_gst, a_copy, a_max, a_min, a_iret, a_zret, a_aret, a_ret, a_cv, a_cn, a_sv, a_sn, icmp_t, icmp_f, aif_t, aif_f, lget, lset, fget, rget, apop, isO, Kv, Kn, fitb0, cmp, swl, InR, up, cpy, ↓reduceIte, if_true, if_false, Nat.left_eq_add, Nat.add_eq_left, Nat.add_left_cancel_iff, Nat.reduceEqDiff, Nat.zero_le, true_and, and_true, true_or, or_true, not_true_eq_false, not_false_eq_true, false_and, and_false, false_implies, true_implies, forall_const, ne_eq, Decidable.not_not, List.length_cons, List.length_nil, reduceCtorEq, Int.toNat_zero, Int.toNat_one, Int.cast_ofNat_Int, Nat.reduceAdd, Nat.reduceSub, Nat.reduceMul, Nat.reduceLT, Nat.reduceLeDiff, Nat.reduceEqDiff, Int.reduceAdd, Int.reduceSub, Int.reduceMul, Int.reduceNeg, Int.reduceLT, Int.reduceLE, Int.reduceEq, Int.reduceNe, Int.reduceToNat, t_6_fits X]
    repeat (simp only [icmp_b, aif_b, cmp]; simp (maxSteps := 4000000) only [blk_s, blk_z, a_const, a_iload, a_aload, a_istore, a_astore, a_iinc, a_add, a_sub, a_mul, a_div, a_rem, a_dup, a_dup2, a_goto, a_ifnull, a_tsw, a_gi, a_gr, a_pi, a_ald, a_sld, a_ast, a_aald, a_len, a_gst, a_copy, a_max, a_min, a_iret, a_zret, a_aret, a_ret, a_cv, a_cn, a_sv, a_sn, icmp_t, icmp_f, aif_t, aif_f, lget, lset, fget, rget, apop, isO, Kv, Kn, fitb0, cmp, swl, InR, up, cpy, ↓reduceIte, if_true, if_false, Nat.left_eq_add, Nat.add_eq_left, Nat.add_left_cancel_iff, Nat.reduceEqDiff, Nat.zero_le, true_and, and_true, true_or, or_true, not_true_eq_false, not_false_eq_true, false_and, and_false, false_implies, true_implies, forall_const, ne_eq, Decidable.not_not, List.length_cons, List.length_nil, reduceCtorEq, Int.toNat_zero, Int.toNat_one, Int.cast_ofNat_Int, Nat.reduceAdd, Nat.reduceSub, Nat.reduceMul, Nat.reduceLT, Nat.reduceLeDiff, Nat.reduceEqDiff, Int.reduceAdd, Int.reduceSub, Int.reduceMul, Int.reduceNeg, Int.reduceLT, Int.reduceLE, Int.reduceEq, Int.reduceNe, Int.reduceToNat, t_6_fits X])
    exact h0 (fun q => c ((fits_iff F2).mpr q)) σ2 T2
end
