/-! ===== a row of a page, and a spread ===== -/
def RowSt (V L : Sto) (h s k row pair line n p text noted : Int) : Prop := TS L s k row pair line text ∧ NS V L h s (2 * k + s) row n p noted
theorem seg_b {V L : Sto} {h : Int} (hk : LK V h L) {i s : Int} (h0 : 0 ≤ i ∧ i ≤ L 0 1) (hs : s = 0 ∨ s = 1) : (0 ≤ stP L i ∧ stP L i ≤ 20) ∧ 0 ≤ stF L s i ∧ stF L s i ≤ 30 := by
  have hn := hk.1.1
  by_cases c : i < L 0 1
  · obtain ⟨c1, c2, c3, -⟩ := hk.2.1.1.1 i h0.1 c
    have l := hk.1.2.1 _ c1.1 c1.2
    rw [(stq c).1, (stq c).2 s]
    rcases hs with rfl | rfl
    · simp only [s0v]
      omega
    · simp only [s0v]
      omega
  · have e := st_end hk
    have : i = L 0 1 := by omega
    rw [this, e.1, e.2 s hs]
    omega
theorem row_b {V L : Sto} {h : Int} (hk : LK V h L) {s k row pair line n p text noted : Int} (hj : 0 ≤ k ∧ k < L 0 2) (hs : s = 0 ∨ s = 1) (hr : 0 ≤ row ∧ row ≤ 100) (hR : RowSt V L h s k row pair line n p text noted) : (0 ≤ pair ∧ pair ≤ 20) ∧ (0 ≤ line ∧ line ≤ 30) ∧ (0 ≤ n ∧ n ≤ 40) ∧ (0 ≤ p ∧ p ≤ 10) ∧ (0 ≤ text ∧ text ≤ 100) ∧ (0 ≤ noted ∧ noted ≤ 410) := by
  obtain ⟨⟨m, hm, h1, h2, h3⟩, h4, ⟨h5, h6, h7, h8⟩⟩ := hR
  have pp := hk.2.1.2.1.2.1 k hj.1 hj.2
  have b := seg_b hk (i := m) (s := s) (by omega) hs
  have hc := cnt_b hk hj hs
  have hN := nok hk.1 hs
  have t : ∀ i, 0 ≤ i → i < L 0 1 → (0 ≤ L (sB s) i ∧ L (sB s) i ≤ 63) ∧ 1 ≤ L (sN s) i ∧ L (sN s) i ≤ 30 ∧ L (sF s) i + L (sN s) i ≤ 30 ∧ 0 ≤ L (sF s) i := fun i i0 i1 => by
    obtain ⟨c1, c2, c3, c4, c5, -⟩ := hk.2.1.1.1 i i0 i1
    have l := hk.1.2.1 _ c1.1 c1.2
    rcases hs with rfl | rfl
    · simp only [s0v]
      omega
    · simp only [s0v]
      omega
  have hp : 0 ≤ p ∧ p ≤ 10 := by
    by_cases c : n < V (nbS s) 0
    · have := h7 c
      have := hN.2 n h5.1 c
      omega
    · have := h8 (by omega)
      omega
  refine ⟨?_, ?_, by have := hN.1; omega, hp, ?_, by omega⟩
  · rcases h3 with ⟨q1, q2, q3, q4, q5⟩ | ⟨q1, q2, q3, q4⟩
    · rw [(stq (k := m) (by omega)).1] at b
      omega
    · omega
  · rcases h3 with ⟨q1, q2, q3, q4, q5⟩ | ⟨q1, q2, q3, q4⟩
    · have := t m (by omega) (by omega)
      have := h2 q1
      omega
    · omega
  · rcases h3 with ⟨q1, q2, q3, q4, q5⟩ | ⟨q1, q2, q3, q4⟩
    · omega
    · rw [q4]
      split
      · have := t (m - 1) (by omega) (by omega)
        omega
      · omega
theorem row_step {V L : Sto} {h : Int} (hk : LK V h L) {s k row pair line n p text noted : Int} (hj : 0 ≤ k ∧ k < L 0 2) (hs : s = 0 ∨ s = 1) (hr : 0 ≤ row ∧ row < 100) (hR : RowSt V L h s k row pair line n p text noted) :
    (shownA V L h k s row = 10000 + 100 * pair + line ∧ isL V pair s line ∧ (∀ i, IsSeg L pair s line i → (∀ j, IsSp L i j → j = k) ∧ L (sB s) i + line - L (sF s) i = row) ∧ RowSt V L h s k (row + 1) (if line + 1 = V (3 + s.toNat) pair then pair + 1 else pair) (if line + 1 = V (3 + s.toNat) pair then 0 else line + 1) n p (row + 1) noted) ∨
    (shownA V L h k s row = 20000 + 100 * n + p ∧ (n < V (nbS s) 0) ∧ isL V (V (nbS s + 2) n) s (V (nbS s + 3) n) ∧ (∀ i j, IsSeg L (V (nbS s + 2) n) s (V (nbS s + 3) n) i → IsSp L i j → j ≤ k) ∧ RowSt V L h s k (row + 1) pair line (if p + 1 = V (nbS s + 4) n then n + 1 else n) (if p + 1 = V (nbS s + 4) n then 0 else p + 1) text (noted + 1)) ∨
    ((shownA V L h k s row = 0 ∨ shownA V L h k s row = 30000) ∧ RowSt V L h s k (row + 1) pair line n p text noted) := by
  have b := row_b hk hj hs (by omega) hR
  obtain ⟨hT, hS⟩ := hR
  rcases ts_step hk hj hs hT with ⟨m, m1, m2, m3, m4, m5, m6, m7⟩ | ⟨t1, t2⟩
  · left
    refine ⟨?_, (isl_of hk hs m2 m3).1, fun i hi => ?_, m7, ?_⟩
    · unfold shownA
      rw [m6, if_neg (by omega)]
    · have e := seg_u hk hs hi.1 m2 hi.2.1 m3
      refine ⟨fun j hj' => sp_u hk hj' hj (by rw [e]; exact m1), ?_⟩
      rw [e, m4]
    · rcases ns_step hk hj hs hS with ⟨q, -⟩ | ⟨-, q⟩
      · omega
      · exact q
  · right
    have e : shownA V L h k s row = noteA V L h s (2 * k + s) row := by
      unfold shownA
      rw [t1, if_pos rfl]
    rw [e]
    rcases ns_step hk hj hs hS with ⟨q1, q2, q3, q4, q5, q6⟩ | ⟨q1, q2⟩
    · left
      have z := note_sp hk hj hs ⟨q3.1, q5⟩
      exact ⟨q2, q3.2, z.1, z.2, t2, q6⟩
    · exact Or.inr ⟨q1, t2, q2⟩
/-- between the spreads of a side -/
def SpSt (V L : Sto) (s k pair line n p : Int) : Prop := (pair = stP L (L 123 k) ∧ line = stF L s (L 123 k)) ∧ NO V (nbS s) n p (offK V L s k)
theorem sps_0 {V L : Sto} {h : Int} (hk : LK V h L) {s : Int} (hs : s = 0 ∨ s = 1) : SpSt V L s 0 0 0 0 0 := by
  obtain ⟨a, b, c⟩ := off_0 hk hs
  exact ⟨⟨a.symm, b.symm⟩, c⟩
theorem sps_r {V L : Sto} {h : Int} (hk : LK V h L) {s k pair line n p : Int} (hj : 0 ≤ k ∧ k < L 0 2) (hs : s = 0 ∨ s = 1) (hS : SpSt V L s k pair line n p) : RowSt V L h s k 0 pair line n p 0 0 := by
  obtain ⟨⟨a, b⟩, c⟩ := hS
  unfold offK at c
  rw [if_pos hj.2] at c
  rw [a, b]
  exact ⟨ts_0 hk hj hs, ns_0 hk hj hs c⟩
theorem sps_n {V L : Sto} {h : Int} (hk : LK V h L) (hh : h ≤ 60) {s k pair line n p text noted : Int} (hj : 0 ≤ k ∧ k < L 0 2) (hs : s = 0 ∨ s = 1) (hw : L 135 (2 * k + s) + L 136 (2 * k + s) ≤ 99) (hR : RowSt V L h s k 100 pair line n p text noted) :
    SpSt V L s (k + 1) pair line n p ∧ text = L 135 (2 * k + s) ∧ (noted = 0 ↔ L 136 (2 * k + s) = 0) := by
  have g := pg hk hj hs
  obtain ⟨a, b, c⟩ := ts_end hk hj hs (row := 100) (by have := g.2.1; omega) hR.1
  obtain ⟨d, e⟩ := ns_end hk hh hj hs hw hR.2
  refine ⟨⟨⟨a, b⟩, ?_⟩, c, d⟩
  rw [off_nx hk hj hs]
  exact e
theorem sps_e {V L : Sto} {h : Int} (hk : LK V h L) {s pair line n p : Int} (hs : s = 0 ∨ s = 1) (hS : SpSt V L s (L 0 2) pair line n p) : pair = V 1 0 ∧ line = 0 ∧ n = V (nbS s) 0 ∧ p = 0 := by
  obtain ⟨⟨a, b⟩, c⟩ := hS
  have l4 := hk.2.1.2.2.2.1
  have e := st_end hk
  rw [l4, e.1] at a
  rw [l4, e.2 s hs] at b
  unfold offK at c
  rw [if_neg (by omega)] at c
  have hN := nok hk.1 hs
  have u := no_u hN c (n' := V (nbS s) 0) (p' := 0) ⟨⟨hN.1.1, Int.le_refl _⟩, by omega, fun q => by omega, fun _ => rfl⟩
  exact ⟨a, b, u.1, u.2⟩
theorem sps_b {V L : Sto} {h : Int} (hk : LK V h L) {s k pair line n p : Int} (hj : 0 ≤ k ∧ k ≤ L 0 2) (hs : s = 0 ∨ s = 1) (hS : SpSt V L s k pair line n p) : (0 ≤ pair ∧ pair ≤ 20) ∧ (0 ≤ line ∧ line ≤ 30) ∧ (0 ≤ n ∧ n ≤ 40) ∧ (0 ≤ p ∧ p ≤ 10) := by
  obtain ⟨⟨a, b⟩, ⟨h5, h6, h7, h8⟩⟩ := hS
  have hN := nok hk.1 hs
  have l := l123 hk.2.1 k hj.1 hj.2
  have m : L 123 k ≤ L 0 1 := by
    have := m123' hk hj.1 hj.2 (Int.le_refl _)
    have l4 := hk.2.1.2.2.2.1
    omega
  have c := seg_b hk (i := L 123 k) (s := s) ⟨l.1, m⟩ hs
  have hp : 0 ≤ p ∧ p ≤ 10 := by
    by_cases c : n < V (nbS s) 0
    · have := h7 c
      have := hN.2 n h5.1 c
      omega
    · have := h8 (by omega)
      omega
  exact ⟨by omega, by omega, by have := hN.1; omega, hp⟩
/-! ===== the spreads don't read the edition's own height ===== -/
def VNh (V W : Sto) : Prop := (∀ a, 1 ≤ a → a ≤ 16 → W a = V a) ∧ ∀ j, j ≠ 0 → W 17 j = V 17 j
section
variable {V W : Sto} (hVW : VNh V W)
theorem chP {P P' : Int → Prop} (e : P = P') : (@dite _ (∃ r, P r) (Classical.propDecidable _) (fun h => Classical.choose h) (fun _ => 0)) = @dite _ (∃ r, P' r) (Classical.propDecidable _) (fun h => Classical.choose h) (fun _ => 0) := by
  subst e
  rfl
theorem iteP {p q : Prop} {a a' b b' : Sto} (h : p = q) (ha : a = a') (hb : b = b') : @ite Sto p (Classical.propDecidable p) a b = @ite Sto q (Classical.propDecidable q) a' b' := by
  subst h ha hb
  rfl
theorem vn_nb {s : Int} (hs : s = 0 ∨ s = 1) : 7 ≤ nbS s ∧ nbS s ≤ 12 := by rcases hs with rfl | rfl <;> decide
theorem vn_nA {V W : Sto} (hVW : VNh V W) {nb : Nat} (h : nb = 7 ∨ nb = 12) : nA W nb = nA V nb := by
  funext p x
  have e : (fun m => isA W nb p x m) = fun m => isA V nb p x m := by
    funext m
    unfold isA bef
    rw [hVW.1 nb (by omega) (by omega), hVW.1 (nb + 2) (by omega) (by omega), hVW.1 (nb + 3) (by omega) (by omega)]
  exact chP e
theorem vn_SL {V W : Sto} (hVW : VNh V W) {nb : Nat} (h : nb = 7 ∨ nb = 12) : SL W nb = SL V nb := by
  funext a b
  exact SL_c (hVW.1 (nb + 4) (by omega) (by omega)) a b
theorem vn_most {V W : Sto} (hVW : VNh V W) {nb : Nat} {c : Int} (h : nb = 7 ∨ nb = 12) : mostN W c nb = mostN V c nb := by
  funext a b
  unfold mostN lastL
  rw [hVW.1 (nb + 4) (by omega) (by omega)]
theorem vn_eN {V W : Sto} (hVW : VNh V W) {A : Sto} {s n : Int} (hs : s = 0 ∨ s = 1) : eN W A s n = eN V A s n := by
  have : nbS s = 7 ∨ nbS s = 12 := by rcases hs with rfl | rfl <;> decide
  unfold eN
  rw [vn_nA hVW this]
theorem vn_pL {V W : Sto} (hVW : VNh V W) {A : Sto} {s : Int} (hs : s = 0 ∨ s = 1) : pL W A s = pL V A s := by
  unfold pL
  rw [hVW.1 (3 + s.toNat) (by omega) (by rcases hs with rfl | rfl <;> decide)]
theorem vn_fitS {V W : Sto} (hVW : VNh V W) {A : Sto} {h c s n : Int} (hs : s = 0 ∨ s = 1) : fitS W A h c s n = fitS V A h c s n := by
  have hb : nbS s = 7 ∨ nbS s = 12 := by rcases hs with rfl | rfl <;> decide
  unfold fitS
  rw [vn_eN hVW hs, vn_SL hVW hb, vn_most hVW hb, hVW.2 2 (by omega)]
theorem vn_fit {V W : Sto} (hVW : VNh V W) {A : Sto} {h c x y : Int} : fitA W A h c x y = fitA V A h c x y := by
  unfold fitA
  rw [vn_fitS hVW (Or.inl rfl), vn_fitS hVW (Or.inr rfl)]
theorem vn_put {V W : Sto} (hVW : VNh V W) {A : Sto} {x y g : Int} : putA W A x y g = putA V A x y g := by
  unfold putA nxt
  rw [vn_eN hVW (Or.inl rfl), vn_eN hVW (Or.inr rfl), hVW.2 5 (by omega), hVW.2 1 (by omega)]
theorem vn_rest {V W : Sto} (hVW : VNh V W) {A : Sto} : restA W A = restA V A := by
  unfold restA
  rw [vn_put hVW, vn_pL hVW (Or.inl rfl), vn_pL hVW (Or.inr rfl)]
theorem vn_splA {V W : Sto} (hVW : VNh V W) {A : Sto} {x : Int} : splA W A x = splA V A x := by
  unfold splA
  rw [vn_put hVW, vn_pL hVW (Or.inl rfl), vn_pL hVW (Or.inr rfl)]
theorem vn_spl {V W : Sto} (hVW : VNh V W) {A : Sto} {h : Int} : spl W A h = spl V A h := by
  funext x
  unfold spl
  rw [vn_pL hVW (Or.inl rfl), vn_pL hVW (Or.inr rfl), hVW.2 3 (by omega), hVW.2 4 (by omega), vn_fit hVW]
theorem vn_x {V W : Sto} (hVW : VNh V W) {A : Sto} {h : Int} : xOf W A h = xOf V A h := by
  have e : (fun r => IsX W A h r) = fun r => IsX V A h r := by
    funext r
    unfold IsX
    rw [vn_spl hVW]
  exact chP e
theorem vn_step {V W : Sto} (hVW : VNh V W) {A : Sto} {h : Int} : stepA W A h = stepA V A h := by
  have e1 : brk W A = brk V A := by
    unfold brk
    rw [hVW.1 6 (by omega) (by omega)]
  have e2 : splits W A h = splits V A h := by
    unfold splits
    rw [hVW.1 5 (by omega) (by omega), vn_spl hVW]
  unfold stepA
  refine iteP (by rw [e1, hVW.1 1 (Nat.le_refl _) (by omega)]) (iteP (by rw [vn_fit hVW, vn_pL hVW (Or.inl rfl), vn_pL hVW (Or.inr rfl), hVW.2 4 (by omega)]) (vn_rest hVW) (iteP e2 (by rw [vn_splA hVW, vn_x hVW]) (by rw [vn_rest hVW]))) rfl
theorem vn_goes {V W : Sto} (hVW : VNh V W) {A : Sto} {h : Int} : goesA W A h = goesA V A h := by
  unfold goesA brk
  rw [hVW.1 1 (by omega) (by omega), hVW.1 6 (by omega) (by omega), vn_fit hVW, vn_pL hVW (Or.inl rfl), vn_pL hVW (Or.inr rfl), hVW.2 4 (by omega)]
theorem vn_sp {V W : Sto} (hVW : VNh V W) {h : Int} : ∀ (n : Nat) (A : Sto), spA W h n A = spA V h n A
  | 0, A => rfl
  | n + 1, A => by
    unfold spA
    exact iteP (vn_goes hVW) (by rw [vn_step hVW, vn_sp hVW n]) (vn_step hVW)
theorem vn_endS {V W : Sto} (hVW : VNh V W) {A : Sto} {h s : Int} (hs : s = 0 ∨ s = 1) : endS W A h s = endS V A h s := by
  have hb : nbS s = 7 ∨ nbS s = 12 := by rcases hs with rfl | rfl <;> decide
  have ec : cA W A h s = cA V A h s := by
    unfold cA
    rw [vn_SL hVW hb, vn_most hVW hb, hVW.2 2 (by omega), hVW.2 4 (by omega)]
  have en : nrA W A h s = nrA V A h s := by
    unfold nrA
    rw [ec, vn_SL hVW hb, hVW.2 2 (by omega)]
  unfold endS
  rw [ec, en]
theorem vn_end {V W : Sto} (hVW : VNh V W) {A : Sto} {h : Int} : endA W A h = endA V A h := by
  unfold endA
  rw [vn_endS hVW (Or.inl rfl), vn_endS hVW (Or.inr rfl)]
theorem vn_layA {V W : Sto} (hVW : VNh V W) {h : Int} : ∀ (n : Nat) (A : Sto), layA W h n A = layA V h n A
  | 0, A => rfl
  | n + 1, A => by
    unfold layA
    rw [hVW.1 1 (by omega) (by omega), vn_sp hVW, vn_end hVW, vn_layA hVW n]
theorem vn_lay {V W : Sto} (hVW : VNh V W) {h : Int} : lay W h = lay V h := vn_layA hVW 602 z0
end
