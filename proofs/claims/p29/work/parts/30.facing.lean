/-! ===== two facing pages ===== -/
def FS (G : List Sh) (f : Nat) : Prop := shp (G, 0, 0) f = some (.inl (2, [some (some (f + 1)), some (some (f + 2)), some (some (f + 3)), some (some (f + 4)), some (some (f + 5)), some (some (f + 6)), some (some (f + 7))])) ∧
  shp (G, 0, 0) (f + 1) = some (.inr (.inl (false, 2))) ∧ shp (G, 0, 0) (f + 2) = some (.inr (.inl (false, 2))) ∧ shp (G, 0, 0) (f + 3) = some (.inr (.inl (false, 2))) ∧ shp (G, 0, 0) (f + 4) = some (.inr (.inl (false, 2))) ∧ shp (G, 0, 0) (f + 5) = some (.inr (.inl (false, 2))) ∧ shp (G, 0, 0) (f + 6) = some (.inr (.inl (false, 2))) ∧ shp (G, 0, 0) (f + 7) = some (.inr (.inl (false, 2))) ∧ 100 < f ∧ f < 1000
def PS (G : List Sh) (p : Nat) : Prop := shp (G, 0, 0) p = some (.inl (5, [none, some (some (p + 1)), some (some (p + 2))])) ∧ shp (G, 0, 0) (p + 1) = some (.inr (.inl (false, 2))) ∧ shp (G, 0, 0) (p + 2) = some (.inr (.inl (false, 2))) ∧ 100 < p ∧ p < 1000
theorem fS {G : List Sh} (h : CSh G) {f : Nat} (hf : f = 142 ∨ f = 150 ∨ f = 168) : FS G f := by
  rcases hf with rfl | rfl | rfl <;> exact ⟨csh h (by decide) rfl, csh h (by decide) rfl, csh h (by decide) rfl, csh h (by decide) rfl, csh h (by decide) rfl, csh h (by decide) rfl, csh h (by decide) rfl, csh h (by decide) rfl, by decide, by decide⟩
theorem pS {G : List Sh} (h : CSh G) {p : Nat} (hp : p = 158 ∨ p = 161 ∨ p = 176) : PS G p := by
  rcases hp with rfl | rfl | rfl <;> exact ⟨csh h (by decide) rfl, csh h (by decide) rfl, csh h (by decide) rfl, by decide, by decide⟩
/-- sums of note lengths -/
def SLn (E : Sto) (nb : Nat) (a : Int) : Nat → Int
  | 0 => 0
  | n + 1 => SLn E nb a n + E (nb + 4) (a + n)
def SL (E : Sto) (nb : Nat) (a b : Int) : Int := SLn E nb a (b - a).toNat
theorem SL_0 (E : Sto) (nb : Nat) (a : Int) : SL E nb a a = 0 := by simp [SL, SLn]
theorem SL_s (E : Sto) (nb : Nat) {a b : Int} (h : a ≤ b) : SL E nb a (b + 1) = SL E nb a b + E (nb + 4) b := by
  unfold SL
  rw [show (b + 1 - a).toNat = (b - a).toNat + 1 by omega]
  show SLn E nb a (b - a).toNat + E (nb + 4) (a + ((b - a).toNat : Int)) = _
  rw [show a + ((b - a).toNat : Int) = b by omega]
theorem SL_ind (E : Sto) (nb : Nat) {a b : Int} (h : a ≤ b) (P : Int → Prop) (h0 : P a) (hs : ∀ k, a ≤ k → k < b → P k → P (k + 1)) : P b := by
  have key : ∀ n : Nat, a + n ≤ b → P (a + n) := by
    intro n
    induction n with
    | zero => intro _; simpa using h0
    | succ n ih =>
      intro hn
      have := hs (a + n) (by omega) (by omega) (ih (by omega))
      rw [show a + (n : Int) + 1 = a + ((n + 1 : Nat) : Int) by omega] at this
      exact this
  have := key (b - a).toNat (by omega)
  rwa [show a + ((b - a).toNat : Int) = b by omega] at this
theorem SL_b {E : Sto} {nb : Nat} {a b c : Int} (h : a ≤ b) (ha : 0 ≤ a) (hb : b ≤ c) (hr : ∀ k, 0 ≤ k → k < c → 1 ≤ E (nb + 4) k ∧ E (nb + 4) k ≤ 10) : 0 ≤ SL E nb a b ∧ SL E nb a b ≤ 10 * (b - a) := by
  refine SL_ind E nb h (fun k => 0 ≤ SL E nb a k ∧ SL E nb a k ≤ 10 * (k - a)) ?_ (fun k k0 k1 hk => ?_)
  · rw [SL_0]; omega
  · have := hr k (by omega) (by omega)
    rw [SL_s E nb k0]
    omega
theorem SL_add {E : Sto} {nb : Nat} {a b c : Int} (h : a ≤ b) (h' : b ≤ c) : SL E nb a c = SL E nb a b + SL E nb b c := by
  refine SL_ind E nb h' (fun k => SL E nb a k = SL E nb a b + SL E nb b k) ?_ (fun k k0 k1 hk => ?_)
  · rw [SL_0]; omega
  · rw [SL_s E nb (show a ≤ k by omega), SL_s E nb k0, hk]
    omega
section
variable {X : XT} {G : List Sh} {σ : Sto} {Q : QT} {f : Nat}
def turnF (σ : Sto) (f : Nat) (s c n : Int) : Sto := up (up (up (up (up (up (up σ (f + 1) s 0) (f + 2) s 0) (f + 3) s c) (f + 4) s n) (f + 5) s 0) (f + 6) s 0) (f + 7) s 0
set_option maxRecDepth 40000 in
theorem ms_turn (hF : FS G f) {s c n : Int} (hs : 0 ≤ s ∧ s ≤ 1) (h : Q none G (turnF σ f s c n)) : MS X M_2_turn [.inr f, .inl s, .inl c, .inl n] G σ Q := by
  obtain ⟨f0, f1, f2, f3, f4, f5, f6, f7, fa, fb⟩ := hF
  unfold turnF at h
  refine MS_in [some (.inr f), some (.inl s), some (.inl c), some (.inl n)] mok_2_turn (Nat.le_of_ble_eq_true rfl) rfl ?_
  refine blk_wp (tok_2_turn X) 1000 _ _ _ _ _ ?_
  simp only [blk_s, a_const, a_iload, a_aload, a_istore, a_astore, a_iinc, a_add, a_sub, a_mul, a_div, a_rem, a_dup, a_dup2, a_goto, a_icmp, a_if, a_ifnull, a_tsw, a_gi, a_gr, a_pi, a_ald, a_sld, a_ast, a_aald, a_len, a_gst, a_copy, a_max, a_min, a_iret, a_zret, a_aret, a_ret, a_cv, a_cn, a_sv, a_sn, lget, lset, fget, rget, apop, isO, Kv, Kn, fitb0, cmp, swl, InR, up, cpy, ↓reduceIte, if_true, if_false, Nat.left_eq_add, Nat.add_eq_left, Nat.add_left_cancel_iff, Nat.reduceEqDiff, Nat.zero_le, true_and, and_true, true_or, or_true, not_true_eq_false, not_false_eq_true, false_and, and_false, false_implies, true_implies, forall_const, ne_eq, Decidable.not_not, List.length_cons, List.length_nil, reduceCtorEq, Int.toNat_zero, Int.toNat_one, Int.cast_ofNat_Int, Nat.reduceAdd, Nat.reduceSub, Nat.reduceMul, Nat.reduceLT, Nat.reduceLeDiff, Nat.reduceEqDiff, Int.reduceAdd, Int.reduceSub, Int.reduceMul, Int.reduceNeg, Int.reduceLT, Int.reduceLE, Int.reduceEq, Int.reduceNe, Int.reduceToNat, t_2_turn X, f0, f1, f2, f3, f4, f5, f6, f7]
  repeat' (first | assumption | with_reducible apply And.intro | with_reducible intro _)
  all_goals (try omega)
/-- pages f hold what pages g held -/
def fcR (σ σ' : Sto) (g f : Nat) : Prop := (∀ a, (a < f + 1 ∨ f + 7 < a) → σ' a = σ a) ∧ ∀ k i, 1 ≤ k → k ≤ 7 → 0 ≤ i → i < 2 → σ' (f + k) i = σ (g + k) i
set_option maxRecDepth 40000 in
theorem ms_copyF {g : Nat} (hF : FS G f) (hg : FS G g) (hd : f + 7 < g ∨ g + 7 < f) (h : ∀ σ', fcR σ σ' g f → Q none G σ') : MS X M_2_copyFrom [.inr f, .inr g] G σ Q := by
  obtain ⟨f0, f1, f2, f3, f4, f5, f6, f7, fa, fb⟩ := hF
  obtain ⟨g0, g1, g2, g3, g4, g5, g6, g7, ga, gb⟩ := hg
  refine MS_in [some (.inr f), some (.inr g)] mok_2_copyFrom (Nat.le_of_ble_eq_true rfl) rfl ?_
  refine blk_wp (tok_2_copyFrom X) 1000 _ _ _ _ _ ?_
  simp only [blk_s, a_const, a_iload, a_aload, a_istore, a_astore, a_iinc, a_add, a_sub, a_mul, a_div, a_rem, a_dup, a_dup2, a_goto, a_icmp, a_if, a_ifnull, a_tsw, a_gi, a_gr, a_pi, a_ald, a_sld, a_ast, a_aald, a_len, a_gst, a_copy, a_max, a_min, a_iret, a_zret, a_aret, a_ret, a_cv, a_cn, a_sv, a_sn, lget, lset, fget, rget, apop, isO, Kv, Kn, fitb0, cmp, swl, InR, up, cpy, ↓reduceIte, if_true, if_false, Nat.left_eq_add, Nat.add_eq_left, Nat.add_left_cancel_iff, Nat.reduceEqDiff, Nat.zero_le, true_and, and_true, true_or, or_true, not_true_eq_false, not_false_eq_true, false_and, and_false, false_implies, true_implies, forall_const, ne_eq, Decidable.not_not, List.length_cons, List.length_nil, reduceCtorEq, Int.toNat_zero, Int.toNat_one, Int.cast_ofNat_Int, Nat.reduceAdd, Nat.reduceSub, Nat.reduceMul, Nat.reduceLT, Nat.reduceLeDiff, Nat.reduceEqDiff, Int.reduceAdd, Int.reduceSub, Int.reduceMul, Int.reduceNeg, Int.reduceLT, Int.reduceLE, Int.reduceEq, Int.reduceNe, Int.reduceToNat, t_2_copyFrom X, f0, f1, f2, f3, f4, f5, f6, f7, g0, g1, g2, g3, g4, g5, g6, g7]
  repeat' (first | assumption | with_reducible apply And.intro | with_reducible intro _)
  all_goals (try omega)
  apply h
  refine ⟨fun a ha => ?_, fun k i k1 k2 i1 i2 => ?_⟩
  · rw [cpy_o (by omega), cpy_o (by omega), cpy_o (by omega), cpy_o (by omega), cpy_o (by omega), cpy_o (by omega), cpy_o (by omega)]
  · have hk : k = 1 ∨ k = 2 ∨ k = 3 ∨ k = 4 ∨ k = 5 ∨ k = 6 ∨ k = 7 := by omega
    have hc : ∀ (τ : Sto) (a b : Nat), cpy τ a b 0 0 2 b i = τ a i := fun τ a b => by
      unfold cpy
      rw [if_pos ⟨rfl, by omega, by omega⟩, show 0 + (i - 0) = i by omega]
    rcases hk with rfl | rfl | rfl | rfl | rfl | rfl | rfl
    · rw [cpy_o (by omega), cpy_o (by omega), cpy_o (by omega), cpy_o (by omega), cpy_o (by omega), cpy_o (by omega), hc]
    · rw [cpy_o (by omega), cpy_o (by omega), cpy_o (by omega), cpy_o (by omega), cpy_o (by omega), hc, cpy_o (by omega)]
    · rw [cpy_o (by omega), cpy_o (by omega), cpy_o (by omega), cpy_o (by omega), hc, cpy_o (by omega), cpy_o (by omega)]
    · rw [cpy_o (by omega), cpy_o (by omega), cpy_o (by omega), hc, cpy_o (by omega), cpy_o (by omega), cpy_o (by omega)]
    · rw [cpy_o (by omega), cpy_o (by omega), hc, cpy_o (by omega), cpy_o (by omega), cpy_o (by omega), cpy_o (by omega)]
    · rw [cpy_o (by omega), hc, cpy_o (by omega), cpy_o (by omega), cpy_o (by omega), cpy_o (by omega), cpy_o (by omega)]
    · rw [hc, cpy_o (by omega), cpy_o (by omega), cpy_o (by omega), cpy_o (by omega), cpy_o (by omega), cpy_o (by omega)]
set_option maxRecDepth 40000 in
theorem ms_noteRows (hF : FS G f) {s r c : Int} (hs : 0 ≤ s ∧ s ≤ 1) (hr : 0 ≤ r ∧ r ≤ 2 ∧ 0 ≤ c ∧ c ≤ 1000) (h3 : 0 ≤ σ (f + 3) s ∧ σ (f + 3) s ≤ 1000) (h6 : 0 ≤ σ (f + 6) s ∧ σ (f + 6) s ≤ 1000) (h : Q (some (.inl (if 0 < σ (f + 3) s + σ (f + 6) s - c then r + (σ (f + 3) s + σ (f + 6) s - c) else 0))) G σ) : MS X M_2_noteRows [.inr f, .inl s, .inl r, .inl c] G σ Q := by
  obtain ⟨f0, f1, f2, f3, f4, f5, f6, f7, fa, fb⟩ := hF
  refine MS_in [some (.inr f), some (.inl s), some (.inl r), some (.inl c), none] mok_2_noteRows (Nat.le_of_ble_eq_true rfl) rfl ?_
  refine blk_wp (tok_2_noteRows X) 1000 _ _ _ _ _ ?_
  simp only [blk_s, a_const, a_iload, a_aload, a_istore, a_astore, a_iinc, a_add, a_sub, a_mul, a_div, a_rem, a_dup, a_dup2, a_goto, a_icmp, a_if, a_ifnull, a_tsw, a_gi, a_gr, a_pi, a_ald, a_sld, a_ast, a_aald, a_len, a_gst, a_copy, a_max, a_min, a_iret, a_zret, a_aret, a_ret, a_cv, a_cn, a_sv, a_sn, lget, lset, fget, rget, apop, isO, Kv, Kn, fitb0, cmp, swl, InR, up, cpy, ↓reduceIte, if_true, if_false, Nat.left_eq_add, Nat.add_eq_left, Nat.add_left_cancel_iff, Nat.reduceEqDiff, Nat.zero_le, true_and, and_true, true_or, or_true, not_true_eq_false, not_false_eq_true, false_and, and_false, false_implies, true_implies, forall_const, ne_eq, Decidable.not_not, List.length_cons, List.length_nil, reduceCtorEq, Int.toNat_zero, Int.toNat_one, Int.cast_ofNat_Int, Nat.reduceAdd, Nat.reduceSub, Nat.reduceMul, Nat.reduceLT, Nat.reduceLeDiff, Nat.reduceEqDiff, Int.reduceAdd, Int.reduceSub, Int.reduceMul, Int.reduceNeg, Int.reduceLT, Int.reduceLE, Int.reduceEq, Int.reduceNe, Int.reduceToNat, t_2_noteRows X, f0, f1, f2, f3, f4, f5, f6, f7]
  by_cases c1 : 0 < σ (f + 3) s + σ (f + 6) s - c
  · rw [if_pos c1] at h
    repeat' (first | assumption | with_reducible apply And.intro | with_reducible intro _)
    all_goals (try omega)
  · rw [if_neg c1] at h
    repeat' (first | assumption | with_reducible apply And.intro | with_reducible intro _)
    all_goals (try omega)
set_option maxRecDepth 40000 in
theorem ms_mostCarried (hF : FS G f) {s c : Int} (hs : 0 ≤ s ∧ s ≤ 1) (hc : 0 ≤ c ∧ c ≤ 5) (h7 : 0 ≤ σ (f + 7) s ∧ σ (f + 7) s ≤ 10) (h : Q (some (.inl (max 0 (min c (σ (f + 7) s - 1))))) G σ) : MS X M_2_mostCarried [.inr f, .inl s, .inl c] G σ Q := by
  obtain ⟨f0, f1, f2, f3, f4, f5, f6, f7, fa, fb⟩ := hF
  refine MS_in [some (.inr f), some (.inl s), some (.inl c)] mok_2_mostCarried (Nat.le_of_ble_eq_true rfl) rfl ?_
  refine blk_wp (tok_2_mostCarried X) 1000 _ _ _ _ _ ?_
  simp only [blk_s, a_const, a_iload, a_aload, a_istore, a_astore, a_iinc, a_add, a_sub, a_mul, a_div, a_rem, a_dup, a_dup2, a_goto, a_icmp, a_if, a_ifnull, a_tsw, a_gi, a_gr, a_pi, a_ald, a_sld, a_ast, a_aald, a_len, a_gst, a_copy, a_max, a_min, a_iret, a_zret, a_aret, a_ret, a_cv, a_cn, a_sv, a_sn, lget, lset, fget, rget, apop, isO, Kv, Kn, fitb0, cmp, swl, InR, up, cpy, ↓reduceIte, if_true, if_false, Nat.left_eq_add, Nat.add_eq_left, Nat.add_left_cancel_iff, Nat.reduceEqDiff, Nat.zero_le, true_and, and_true, true_or, or_true, not_true_eq_false, not_false_eq_true, false_and, and_false, false_implies, true_implies, forall_const, ne_eq, Decidable.not_not, List.length_cons, List.length_nil, reduceCtorEq, Int.toNat_zero, Int.toNat_one, Int.cast_ofNat_Int, Nat.reduceAdd, Nat.reduceSub, Nat.reduceMul, Nat.reduceLT, Nat.reduceLeDiff, Nat.reduceEqDiff, Int.reduceAdd, Int.reduceSub, Int.reduceMul, Int.reduceNeg, Int.reduceLT, Int.reduceLE, Int.reduceEq, Int.reduceNe, Int.reduceToNat, t_2_mostCarried X, f0, f1, f2, f3, f4, f5, f6, f7]
  repeat' (first | assumption | with_reducible apply And.intro | with_reducible intro _)
  all_goals (try omega)
/-- what a page's note rows are, with so many lines carried from it -/
def nrow (σ : Sto) (f : Nat) (s r c : Int) : Int := if 0 < σ (f + 3) s + σ (f + 6) s - c then r + (σ (f + 3) s + σ (f + 6) s - c) else 0
def mostC (σ : Sto) (f : Nat) (s c : Int) : Int := max 0 (min c (σ (f + 7) s - 1))
/-- ranges of a page -/
def FB (σ : Sto) (f : Nat) : Prop := ∀ s, (s = 0 ∨ s = 1) → (0 ≤ σ (f + 1) s ∧ σ (f + 1) s ≤ 1000) ∧ (0 ≤ σ (f + 3) s ∧ σ (f + 3) s ≤ 1000) ∧ (0 ≤ σ (f + 6) s ∧ σ (f + 6) s ≤ 1000) ∧ 0 ≤ σ (f + 7) s ∧ σ (f + 7) s ≤ 10
theorem nrow_b {σ : Sto} {f : Nat} {s r c : Int} (hB : FB σ f) (hs : s = 0 ∨ s = 1) (hr : 0 ≤ r ∧ r ≤ 2 ∧ 0 ≤ c ∧ c ≤ 1000) : 0 ≤ nrow σ f s r c ∧ nrow σ f s r c ≤ 3000 := by
  have := hB s hs
  unfold nrow
  split <;> omega
theorem mostC_b {σ : Sto} {f : Nat} {s c : Int} (hc : 0 ≤ c ∧ c ≤ 5) : 0 ≤ mostC σ f s c ∧ mostC σ f s c ≤ 5 := by unfold mostC; omega
def fitsP (σ : Sto) (f : Nat) (hh r c : Int) : Prop := σ (f + 1) 0 + nrow σ f 0 r (mostC σ f 0 c) ≤ hh ∧ σ (f + 1) 1 + nrow σ f 1 r (mostC σ f 1 c) ≤ hh
set_option maxRecDepth 40000 in
theorem ms_fitsF (hF : FS G f) (hB : FB σ f) {hh r c : Int} (hr : 0 ≤ r ∧ r ≤ 2) (hc : 0 ≤ c ∧ c ≤ 5) (h1 : fitsP σ f hh r c → Q (some (.inl 1)) G σ) (h0 : ¬ fitsP σ f hh r c → Q (some (.inl 0)) G σ) : MS X M_2_fits [.inr f, .inl hh, .inl r, .inl c] G σ Q := by
  obtain ⟨f0, f1, f2, f3, f4, f5, f6, f7, fa, fb⟩ := id hF
  have b0 := hB 0 (Or.inl rfl)
  have b1 := hB 1 (Or.inr rfl)
  have m0 := mostC_b (σ := σ) (f := f) (s := 0) hc
  have m1 := mostC_b (σ := σ) (f := f) (s := 1) hc
  have n0 := nrow_b (r := r) (c := mostC σ f 0 c) hB (Or.inl rfl) (by omega)
  have n1 := nrow_b (r := r) (c := mostC σ f 1 c) hB (Or.inr rfl) (by omega)
  unfold fitsP at h1 h0
  refine MS_in [some (.inr f), some (.inl hh), some (.inl r), some (.inl c), none] mok_2_fits (Nat.le_of_ble_eq_true rfl) rfl ?_
  refine blk_wp (tok_2_fits X) 1000 _ _ _ _ _ ?_
  simp only [blk_s, a_const, a_iload, a_aload, a_istore, a_astore, a_iinc, a_add, a_sub, a_mul, a_div, a_rem, a_dup, a_dup2, a_goto, a_icmp, a_if, a_ifnull, a_tsw, a_gi, a_gr, a_pi, a_ald, a_sld, a_ast, a_aald, a_len, a_gst, a_copy, a_max, a_min, a_iret, a_zret, a_aret, a_ret, a_cv, a_cn, a_sv, a_sn, lget, lset, fget, rget, apop, isO, Kv, Kn, fitb0, cmp, swl, InR, up, cpy, ↓reduceIte, if_true, if_false, Nat.left_eq_add, Nat.add_eq_left, Nat.add_left_cancel_iff, Nat.reduceEqDiff, Nat.zero_le, true_and, and_true, true_or, or_true, not_true_eq_false, not_false_eq_true, false_and, and_false, false_implies, true_implies, forall_const, ne_eq, Decidable.not_not, List.length_cons, List.length_nil, reduceCtorEq, Int.toNat_zero, Int.toNat_one, Int.cast_ofNat_Int, Nat.reduceAdd, Nat.reduceSub, Nat.reduceMul, Nat.reduceLT, Nat.reduceLeDiff, Nat.reduceEqDiff, Int.reduceAdd, Int.reduceSub, Int.reduceMul, Int.reduceNeg, Int.reduceLT, Int.reduceLE, Int.reduceEq, Int.reduceNe, Int.reduceToNat, t_2_fits X, f0, f1, f2, f3, f4, f5, f6, f7]
  repeat' (first | assumption | with_reducible apply And.intro | with_reducible intro _)
  all_goals (try omega)
  refine ms_mostCarried hF (by omega) hc (by omega) ?_
  simp only [blk_s, a_const, a_iload, a_aload, a_istore, a_astore, a_iinc, a_add, a_sub, a_mul, a_div, a_rem, a_dup, a_dup2, a_goto, a_icmp, a_if, a_ifnull, a_tsw, a_gi, a_gr, a_pi, a_ald, a_sld, a_ast, a_aald, a_len, a_gst, a_copy, a_max, a_min, a_iret, a_zret, a_aret, a_ret, a_cv, a_cn, a_sv, a_sn, lget, lset, fget, rget, apop, isO, Kv, Kn, fitb0, cmp, swl, InR, up, cpy, ↓reduceIte, if_true, if_false, Nat.left_eq_add, Nat.add_eq_left, Nat.add_left_cancel_iff, Nat.reduceEqDiff, Nat.zero_le, true_and, and_true, true_or, or_true, not_true_eq_false, not_false_eq_true, false_and, and_false, false_implies, true_implies, forall_const, ne_eq, Decidable.not_not, List.length_cons, List.length_nil, reduceCtorEq, Int.toNat_zero, Int.toNat_one, Int.cast_ofNat_Int, Nat.reduceAdd, Nat.reduceSub, Nat.reduceMul, Nat.reduceLT, Nat.reduceLeDiff, Nat.reduceEqDiff, Int.reduceAdd, Int.reduceSub, Int.reduceMul, Int.reduceNeg, Int.reduceLT, Int.reduceLE, Int.reduceEq, Int.reduceNe, Int.reduceToNat, t_2_fits X, f0, f1, f2, f3, f4, f5, f6, f7]
  repeat' (first | assumption | with_reducible apply And.intro | with_reducible intro _)
  all_goals (try omega)
  refine ms_noteRows hF (by omega) (by unfold mostC at m0; omega) (by omega) (by omega) ?_
  show Kv _ _ _ _ _ (some (.inl (nrow σ f 0 r (mostC σ f 0 c)))) G σ
  simp only [blk_s, a_const, a_iload, a_aload, a_istore, a_astore, a_iinc, a_add, a_sub, a_mul, a_div, a_rem, a_dup, a_dup2, a_goto, a_icmp, a_if, a_ifnull, a_tsw, a_gi, a_gr, a_pi, a_ald, a_sld, a_ast, a_aald, a_len, a_gst, a_copy, a_max, a_min, a_iret, a_zret, a_aret, a_ret, a_cv, a_cn, a_sv, a_sn, lget, lset, fget, rget, apop, isO, Kv, Kn, fitb0, cmp, swl, InR, up, cpy, ↓reduceIte, if_true, if_false, Nat.left_eq_add, Nat.add_eq_left, Nat.add_left_cancel_iff, Nat.reduceEqDiff, Nat.zero_le, true_and, and_true, true_or, or_true, not_true_eq_false, not_false_eq_true, false_and, and_false, false_implies, true_implies, forall_const, ne_eq, Decidable.not_not, List.length_cons, List.length_nil, reduceCtorEq, Int.toNat_zero, Int.toNat_one, Int.cast_ofNat_Int, Nat.reduceAdd, Nat.reduceSub, Nat.reduceMul, Nat.reduceLT, Nat.reduceLeDiff, Nat.reduceEqDiff, Int.reduceAdd, Int.reduceSub, Int.reduceMul, Int.reduceNeg, Int.reduceLT, Int.reduceLE, Int.reduceEq, Int.reduceNe, Int.reduceToNat, t_2_fits X, f0, f1, f2, f3, f4, f5, f6, f7]
  repeat' (first | assumption | with_reducible apply And.intro | with_reducible intro _)
  all_goals (try omega)
  rotate_left
  · exact h0 (by omega)
  refine ms_mostCarried hF (by omega) hc (by omega) ?_
  simp only [blk_s, a_const, a_iload, a_aload, a_istore, a_astore, a_iinc, a_add, a_sub, a_mul, a_div, a_rem, a_dup, a_dup2, a_goto, a_icmp, a_if, a_ifnull, a_tsw, a_gi, a_gr, a_pi, a_ald, a_sld, a_ast, a_aald, a_len, a_gst, a_copy, a_max, a_min, a_iret, a_zret, a_aret, a_ret, a_cv, a_cn, a_sv, a_sn, lget, lset, fget, rget, apop, isO, Kv, Kn, fitb0, cmp, swl, InR, up, cpy, ↓reduceIte, if_true, if_false, Nat.left_eq_add, Nat.add_eq_left, Nat.add_left_cancel_iff, Nat.reduceEqDiff, Nat.zero_le, true_and, and_true, true_or, or_true, not_true_eq_false, not_false_eq_true, false_and, and_false, false_implies, true_implies, forall_const, ne_eq, Decidable.not_not, List.length_cons, List.length_nil, reduceCtorEq, Int.toNat_zero, Int.toNat_one, Int.cast_ofNat_Int, Nat.reduceAdd, Nat.reduceSub, Nat.reduceMul, Nat.reduceLT, Nat.reduceLeDiff, Nat.reduceEqDiff, Int.reduceAdd, Int.reduceSub, Int.reduceMul, Int.reduceNeg, Int.reduceLT, Int.reduceLE, Int.reduceEq, Int.reduceNe, Int.reduceToNat, t_2_fits X, f0, f1, f2, f3, f4, f5, f6, f7]
  repeat' (first | assumption | with_reducible apply And.intro | with_reducible intro _)
  all_goals (try omega)
  refine ms_noteRows hF (by omega) (by unfold mostC at m1; omega) (by omega) (by omega) ?_
  show Kv _ _ _ _ _ (some (.inl (nrow σ f 1 r (mostC σ f 1 c)))) G σ
  simp only [blk_s, a_const, a_iload, a_aload, a_istore, a_astore, a_iinc, a_add, a_sub, a_mul, a_div, a_rem, a_dup, a_dup2, a_goto, a_icmp, a_if, a_ifnull, a_tsw, a_gi, a_gr, a_pi, a_ald, a_sld, a_ast, a_aald, a_len, a_gst, a_copy, a_max, a_min, a_iret, a_zret, a_aret, a_ret, a_cv, a_cn, a_sv, a_sn, lget, lset, fget, rget, apop, isO, Kv, Kn, fitb0, cmp, swl, InR, up, cpy, ↓reduceIte, if_true, if_false, Nat.left_eq_add, Nat.add_eq_left, Nat.add_left_cancel_iff, Nat.reduceEqDiff, Nat.zero_le, true_and, and_true, true_or, or_true, not_true_eq_false, not_false_eq_true, false_and, and_false, false_implies, true_implies, forall_const, ne_eq, Decidable.not_not, List.length_cons, List.length_nil, reduceCtorEq, Int.toNat_zero, Int.toNat_one, Int.cast_ofNat_Int, Nat.reduceAdd, Nat.reduceSub, Nat.reduceMul, Nat.reduceLT, Nat.reduceLeDiff, Nat.reduceEqDiff, Int.reduceAdd, Int.reduceSub, Int.reduceMul, Int.reduceNeg, Int.reduceLT, Int.reduceLE, Int.reduceEq, Int.reduceNe, Int.reduceToNat, t_2_fits X, f0, f1, f2, f3, f4, f5, f6, f7]
  repeat' (first | assumption | with_reducible apply And.intro | with_reducible intro _)
  all_goals (try omega)
  · exact h1 (by omega)
  · exact h0 (by omega)
end
