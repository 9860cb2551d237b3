/-! ===== more of the spreads: segments follow each other, their rows too ===== -/
def stP (A : Sto) (j : Int) : Int := if j < A 0 1 then A 126 j else A 0 0
def stF (A : Sto) (s j : Int) : Int := if j < A 0 1 then A (sF s) j else A 6 s
def SJ (V A : Sto) : Prop := (stP A 0 = 0 ∧ ∀ s, (s = 0 ∨ s = 1) → stF A s 0 = 0) ∧ ∀ k s, 0 ≤ k → k < A 0 1 → (s = 0 ∨ s = 1) → 1 ≤ A (sN s) k ∧
  ((A (sF s) k + A (sN s) k < V (3 + s.toNat) (A 126 k) ∧ stP A (k + 1) = A 126 k ∧ stF A s (k + 1) = A (sF s) k + A (sN s) k) ∨ (A (sF s) k + A (sN s) k = V (3 + s.toNat) (A 126 k) ∧ stP A (k + 1) = A 126 k + 1 ∧ stF A s (k + 1) = 0))
def DoneOK (V A : Sto) (j : Int) : Prop := ∀ s, (s = 0 ∨ s = 1) → (∀ k, A 123 j ≤ k → k + 1 < A 123 (j + 1) → A (sB s) k + A (sN s) k ≤ A (sB s) (k + 1)) ∧ (A 123 (j + 1) = A 123 j → A 135 (2 * j + s) = 0) ∧ (A 123 j < A 123 (j + 1) → A (sB s) (A 123 (j + 1) - 1) + A (sN s) (A 123 (j + 1) - 1) = A 135 (2 * j + s)) ∧
  A 141 (2 * j + s) + A 140 (2 * j + s) = nA V (nbS s) (stP A (A 123 (j + 1))) (stF A s (A 123 (j + 1))) ∧ (0 < A 139 (2 * j + s) → 0 < A 140 (2 * j + s) ∧ A 139 (2 * j + s) < V (nbS s + 4) (A 141 (2 * j + s) + A 140 (2 * j + s) - 1))
def CurOK (A : Sto) : Prop := ∀ s, (s = 0 ∨ s = 1) → (∀ k, A 123 (A 0 2) ≤ k → k + 1 < A 0 1 → A (sB s) k + A (sN s) k ≤ A (sB s) (k + 1)) ∧ (A 0 1 = A 123 (A 0 2) → A 1 s = 0) ∧ (A 123 (A 0 2) < A 0 1 → A (sB s) (A 0 1 - 1) + A (sN s) (A 0 1 - 1) = A 1 s ∧ A 1 s ≤ A 2 s)
def TI (V A : Sto) : Prop := SJ V A ∧ (∀ j, 0 ≤ j → j < A 0 2 → DoneOK V A j) ∧ CurOK A
def SD (V A : Sto) : Prop := ∀ j, 0 ≤ j → j < A 0 2 → A 123 j < A 123 (j + 1) ∨ (j + 1 = A 0 2 ∧ 0 < A 138 (2 * j) + A 138 (2 * j + 1) ∧ A 0 0 = V 1 0 ∧ A 3 0 = 0 ∧ A 3 1 = 0)
/-- a further segment of n lines -/
def PutS (V A B : Sto) (n : Int → Int) : Prop := (B 0 1 = A 0 1 + 1 ∧ B 0 2 = A 0 2) ∧ B 123 = A 123 ∧ (∀ w, 134 ≤ w → B w = A w) ∧ (∀ k, B 126 k = if k = A 0 1 then A 0 0 else A 126 k) ∧
  ∀ s, (s = 0 ∨ s = 1) → (∀ k, B (sF s) k = if k = A 0 1 then A 6 s else A (sF s) k) ∧ (∀ k, B (sN s) k = if k = A 0 1 then n s else A (sN s) k) ∧ (∀ k, B (sB s) k = if k = A 0 1 then A 2 s else A (sB s) k) ∧ B 1 s = A 2 s + n s ∧ B 1 s ≤ B 2 s ∧ 1 ≤ n s ∧
    ((A 6 s + n s < V (3 + s.toNat) (A 0 0) ∧ B 0 0 = A 0 0 ∧ B 6 s = A 6 s + n s) ∨ (A 6 s + n s = V (3 + s.toNat) (A 0 0) ∧ B 0 0 = A 0 0 + 1 ∧ B 6 s = 0))
theorem sw_b {s : Int} (hs : s = 0 ∨ s = 1) : (127 ≤ sF s ∧ sF s ≤ 129) ∧ (128 ≤ sN s ∧ sN s ≤ 130) ∧ 131 ≤ sB s ∧ sB s ≤ 132 := by rcases hs with rfl | rfl <;> decide
theorem put_st {V A B : Sto} {n : Int → Int} (h : PutS V A B n) : (∀ j, j ≤ A 0 1 → stP B j = stP A j) ∧ (stP B (A 0 1 + 1) = B 0 0) ∧ ∀ s, (s = 0 ∨ s = 1) → (∀ j, j ≤ A 0 1 → stF B s j = stF A s j) ∧ stF B s (A 0 1 + 1) = B 6 s := by
  obtain ⟨⟨h1, h2⟩, h3, h4, h5, h6⟩ := h
  refine ⟨fun j hj => ?_, ?_, fun s hs => ⟨fun j hj => ?_, ?_⟩⟩
  · unfold stP
    rw [h1, if_pos (by omega), h5]
    by_cases c : j = A 0 1
    · rw [if_pos c, if_neg (by omega)]
    · rw [if_neg c, if_pos (by omega)]
  · unfold stP
    rw [h1, if_neg (by omega)]
  · unfold stF
    rw [h1, if_pos (by omega), (h6 s hs).1]
    by_cases c : j = A 0 1
    · rw [if_pos c, if_neg (by omega)]
    · rw [if_neg c, if_pos (by omega)]
  · unfold stF
    rw [h1, if_neg (by omega)]
theorem sj_put {V A B : Sto} {n : Int → Int} (h : PutS V A B n) (h0 : 0 ≤ A 0 1) (hI : SJ V A) : SJ V B := by
  obtain ⟨p1, p2, p3⟩ := put_st h
  obtain ⟨⟨h1, h2⟩, h3, h4, h5, h6⟩ := h
  obtain ⟨⟨i1, i2⟩, i3⟩ := hI
  refine ⟨⟨by rw [p1 0 h0]; exact i1, fun s hs => by rw [(p3 s hs).1 0 h0]; exact i2 s hs⟩, fun k s k0 k1 hs => ?_⟩
  obtain ⟨q1, q2, q3, q4, q5, q6, q7⟩ := h6 s hs
  rw [q1, q2, h5]
  by_cases c : k = A 0 1
  · simp only [if_pos c]
    rw [c, p2, (p3 s hs).2]
    refine ⟨q6, ?_⟩
    rcases q7 with ⟨a, b, d⟩ | ⟨a, b, d⟩
    · exact Or.inl ⟨a, b, d⟩
    · exact Or.inr ⟨a, b, d⟩
  · simp only [if_neg c]
    rw [p1 (k + 1) (by omega), (p3 s hs).1 (k + 1) (by omega)]
    exact i3 k s k0 (by omega) hs
theorem done_put {V A B : Sto} {n : Int → Int} (h : PutS V A B n) {j : Int} (hj : A 123 (j + 1) ≤ A 0 1) (hI : DoneOK V A j) : DoneOK V B j := by
  obtain ⟨p1, p2, p3⟩ := put_st h
  obtain ⟨⟨h1, h2⟩, h3, h4, h5, h6⟩ := h
  intro s hs
  obtain ⟨q1, q2, q3, q4, q5, q6, q7⟩ := h6 s hs
  obtain ⟨i1, i2, i3, i4⟩ := hI s hs
  rw [h3, h4 135 (by omega), h4 139 (by omega), h4 140 (by omega), h4 141 (by omega), p1 _ hj, (p3 s hs).1 _ hj]
  refine ⟨fun k k0 k1 => ?_, i2, fun c => ?_, i4⟩
  · rw [q2, q3, q3, if_neg (by omega), if_neg (by omega), if_neg (by omega)]
    exact i1 k k0 k1
  · rw [q2, q3, if_neg (by omega), if_neg (by omega)]
    exact i3 c
theorem cur_put {V A B : Sto} {n : Int → Int} (h : PutS V A B n) (hj : A 123 (A 0 2) ≤ A 0 1) (hI : CurOK A) : CurOK B := by
  obtain ⟨⟨h1, h2⟩, h3, h4, h5, h6⟩ := h
  intro s hs
  obtain ⟨q1, q2, q3, q4, q5, q6, q7⟩ := h6 s hs
  obtain ⟨i1, i2, i3⟩ := hI s hs
  rw [h3, h2, h1]
  refine ⟨fun k k0 k1 => ?_, fun c => by omega, fun c => ?_⟩
  · rw [q2, q3, q3, if_neg (by omega), if_neg (by omega)]
    by_cases c : k + 1 = A 0 1
    · rw [if_pos c]
      have := i3 (by omega)
      rw [show A 0 1 - 1 = k by omega] at this
      omega
    · rw [if_neg c]
      exact i1 k k0 (by omega)
  · rw [show A 0 1 + 1 - 1 = A 0 1 by omega, q2, q3, if_pos rfl, if_pos rfl]
    omega
theorem ti_put {V A B : Sto} {n : Int → Int} (h : PutS V A B n) (hA : AOK V A) (hP : ∀ j, 0 ≤ j → j < A 0 2 → A 123 (j + 1) ≤ A 0 1) (hI : TI V A) : TI V B := by
  refine ⟨sj_put h hA.2.2.1.1 hI.1, fun j j0 j1 => ?_, cur_put h hA.2.2.2.2.1.2 hI.2.2⟩
  rw [h.1.2] at j1
  exact done_put h (hP j j0 j1) (hI.2.1 j j0 j1)
theorem nxt_le {V : Sto} (hK : StK V) {t0 t1 t : Int} (ht : t = t0 ∨ t = t1) : t ≤ nxt V t0 t1 t := by
  unfold StK at hK
  unfold nxt
  split <;> omega
theorem puts_rest {V A : Sto} (hV : EdOK V) (hA : AOK V A) (hp : A 0 0 < V 1 0) : PutS V A (restA V A) (fun s => pL V A s) := by
  obtain ⟨⟨a1, a2, a3⟩, ⟨b1, b2⟩, ⟨c1, c2⟩, -, -, -, ⟨e60, e61⟩, e7, -, e9⟩ := restA_v V A
  obtain ⟨-, -, -, -, -, -, -, -, -, f9⟩ := putA_v V A (pL V A 0) (pL V A 1) 0
  have hK : StK V := hV.2.2.2.2.2.2.2
  have n0 := nxt_le hK (t0 := A 2 0 + pL V A 0) (t1 := A 2 1 + pL V A 1) (t := A 2 0 + pL V A 0) (Or.inl rfl)
  have n1 := nxt_le hK (t0 := A 2 0 + pL V A 0) (t1 := A 2 1 + pL V A 1) (t := A 2 1 + pL V A 1) (Or.inr rfl)
  have p0 := pL_b hV hA hp (s := 0) (Or.inl rfl)
  have p1 := pL_b hV hA hp (s := 1) (Or.inr rfl)
  have k := putA_k V A (pL V A 0) (pL V A 1) 0
  refine ⟨⟨a2, a3⟩, e7, fun w hw => (e9 w (by omega)).trans (f9 w hw), fun i => by rw [e9 126 (by omega)]; exact (k i).1, fun s hs => ?_⟩
  rcases hs with rfl | rfl
  · simp only [s0v]
    rw [e9 127 (by omega), e9 128 (by omega), e9 131 (by omega), b1, c1, a1, e60]
    exact ⟨fun i => (k i).2.1, fun i => (k i).2.2.1, fun i => (k i).2.2.2.2.2.1, rfl, n0, p0.1, Or.inr ⟨p0.2.2.1, rfl, rfl⟩⟩
  · simp only [s0v]
    rw [e9 129 (by omega), e9 130 (by omega), e9 132 (by omega), b2, c2, a1, e61]
    exact ⟨fun i => (k i).2.2.2.1, fun i => (k i).2.2.2.2.1, fun i => (k i).2.2.2.2.2.2.1, rfl, n1, p1.1, Or.inr ⟨p1.2.2.1, rfl, rfl⟩⟩
theorem puts_spl {V A : Sto} {h x : Int} (hV : EdOK V) (hA : AOK V A) (hp : A 0 0 < V 1 0) (hx : spl V A h x) : PutS V A (splA V A x) (fun s => if s = 0 then x else yOf (pL V A 0) (pL V A 1) x) := by
  obtain ⟨⟨a1, a2, a3⟩, ⟨b1, b2⟩, ⟨c1, c2⟩, -, -, -, ⟨e60, e61⟩, e7, -, e9⟩ := splA_v V A x
  obtain ⟨-, -, -, -, -, -, -, -, -, f9⟩ := putA_v V A x (yOf (pL V A 0) (pL V A 1) x) 1
  have hK : StK V := hV.2.2.2.2.2.2.2
  have h3 : 1 ≤ V 17 3 := hK.2.2.2.1.1
  have n0 := nxt_le hK (t0 := A 2 0 + x) (t1 := A 2 1 + yOf (pL V A 0) (pL V A 1) x) (t := A 2 0 + x) (Or.inl rfl)
  have n1 := nxt_le hK (t0 := A 2 0 + x) (t1 := A 2 1 + yOf (pL V A 0) (pL V A 1) x) (t := A 2 1 + yOf (pL V A 0) (pL V A 1) x) (Or.inr rfl)
  have p0 := pL_b hV hA hp (s := 0) (Or.inl rfl)
  have p1 := pL_b hV hA hp (s := 1) (Or.inr rfl)
  obtain ⟨x1, x2, x3, -⟩ := hx
  have k := putA_k V A x (yOf (pL V A 0) (pL V A 1) x) 1
  refine ⟨⟨a2, a3⟩, e7, fun w hw => (e9 w (by omega)).trans (f9 w hw), fun i => by rw [e9 126 (by omega)]; exact (k i).1, fun s hs => ?_⟩
  rcases hs with rfl | rfl
  · simp only [s0v, if_true]
    rw [e9 127 (by omega), e9 128 (by omega), e9 131 (by omega), b1, c1, a1, e60]
    exact ⟨fun i => (k i).2.1, fun i => (k i).2.2.1, fun i => (k i).2.2.2.2.2.1, rfl, n0, by omega, Or.inl ⟨by omega, rfl, rfl⟩⟩
  · simp only [s0v, Int.reduceEq, if_false]
    rw [e9 129 (by omega), e9 130 (by omega), e9 132 (by omega), b2, c2, a1, e61]
    exact ⟨fun i => (k i).2.2.2.1, fun i => (k i).2.2.2.2.1, fun i => (k i).2.2.2.2.2.2.1, rfl, n1, by omega, Or.inl ⟨by omega, rfl, rfl⟩⟩
theorem puts_up {V A B : Sto} {n : Int → Int} {j v : Int} (h : PutS V A B n) : PutS V A (up B 124 j v) n := by
  obtain ⟨⟨h1, h2⟩, h3, h4, h5, h6⟩ := h
  have e : ∀ w, w ≠ 124 → up B 124 j v w = B w := fun w hw => up_other hw
  refine ⟨⟨by rw [e 0 (by omega)]; exact h1, by rw [e 0 (by omega)]; exact h2⟩, by rw [e 123 (by omega)]; exact h3, fun w hw => by rw [e w (by omega)]; exact h4 w hw, fun k => by rw [e 126 (by omega)]; exact h5 k, fun s hs => ?_⟩
  have b := sw_b hs
  rw [e _ (by omega), e _ (by omega), e _ (by omega), e 0 (by omega), e 1 (by omega), e 2 (by omega), e 6 (by omega)]
  exact h6 s hs
theorem ti_c {V A B : Sto} (hI : TI V A) (h0 : B 0 = A 0) (h1 : B 1 = A 1) (h2 : B 2 = A 2) (h6 : B 6 = A 6) (h3 : B 123 = A 123) (hw : ∀ w, 126 ≤ w → B w = A w) : TI V B := by
  have f : ∀ s, (s = 0 ∨ s = 1) → B (sF s) = A (sF s) ∧ B (sN s) = A (sN s) ∧ B (sB s) = A (sB s) := fun s hs => by
    have b := sw_b hs
    exact ⟨hw _ (by omega), hw _ (by omega), hw _ (by omega)⟩
  have fP : stP B = stP A := by funext j; unfold stP; rw [h0, hw 126 (by omega)]
  have fF : ∀ s, (s = 0 ∨ s = 1) → stF B s = stF A s := fun s hs => by funext j; unfold stF; rw [h0, (f s hs).1, h6]
  obtain ⟨⟨⟨i1, i2⟩, i3⟩, i4, i5⟩ := hI
  refine ⟨⟨⟨by rw [fP]; exact i1, fun s hs => by rw [fF s hs]; exact i2 s hs⟩, fun k s k0 k1 hs => ?_⟩, fun j j0 j1 s hs => ?_, fun s hs => ?_⟩
  · rw [h0] at k1
    rw [(f s hs).1, (f s hs).2.1, hw 126 (by omega), fP, fF s hs]
    exact i3 k s k0 k1 hs
  · rw [h0] at j1
    rw [h3, (f s hs).2.1, (f s hs).2.2, fP, fF s hs, hw 135 (by omega), hw 139 (by omega), hw 140 (by omega), hw 141 (by omega)]
    exact i4 j j0 j1 s hs
  · rw [h0, h1, h2, h3, (f s hs).2.1, (f s hs).2.2]
    exact i5 s hs
theorem ti_step {V A : Sto} {h : Int} (hV : EdOK V) (hA : AOK V A) (hP : ∀ j, 0 ≤ j → j < A 0 2 → A 123 (j + 1) ≤ A 0 1) (hI : TI V A) : TI V (stepA V A h) := by
  have h3 : 1 ≤ V 17 3 := hV.2.2.2.2.2.2.2.2.2.2.1.1
  rcases step_c V A h h3 with ⟨c, e⟩ | ⟨c, e | ⟨c1, c2, e⟩ | ⟨c1, c2, e⟩⟩
  · rw [e]
    exact ti_put (puts_rest hV hA c.1) hA hP hI
  · rw [e]
    exact hI
  · rw [e]
    exact ti_put (puts_spl hV hA c1 c2) hA hP hI
  · rw [e]
    exact ti_put (puts_up (puts_rest hV hA c1)) hA hP hI
theorem hP_k {A B : Sto} (hP : ∀ j, 0 ≤ j → j < A 0 2 → A 123 (j + 1) ≤ A 0 1) (hk : AKp A B) : ∀ j, 0 ≤ j → j < B 0 2 → B 123 (j + 1) ≤ B 0 1 := by
  intro j j0 j1
  obtain ⟨k1, k2, -, -, -, k6, -⟩ := hk
  rw [k1] at j1
  have := hP j j0 j1
  rw [k2]
  omega
theorem ti_sp {V : Sto} {h : Int} (hV : EdOK V) (hh : h ≤ 60) : ∀ (n : Nat) (A : Sto), AOK V A → AGo A → (∀ j, 0 ≤ j → j < A 0 2 → A 123 (j + 1) ≤ A 0 1) → TI V A → TI V (spA V h n A)
  | 0, A, _, _, _, hI => hI
  | n + 1, A, hA, hg, hP, hI => by
    have hs := aok_step hV hA hg hh
    have hi := ti_step (h := h) hV hA hP hI
    unfold spA
    by_cases c : goesA V A h
    · rw [if_pos c]
      exact ti_sp hV hh n _ hs.1 (hs.2.2 c).1 (hP_k hP hs.2.1) hi
    · rw [if_neg c]
      exact hi
theorem ti_end {V A : Sto} {h : Int} (hV : EdOK V) (hA : AOK V A) (hP : ∀ j, 0 ≤ j → j < A 0 2 → A 123 (j + 1) ≤ A 0 1) (hI : TI V A) : TI V (endA V A h) := by
  obtain ⟨⟨a1, a2, a3⟩, a4, a5, a6, a7, a8, a9⟩ := endA_v V A h
  have f : ∀ s, (s = 0 ∨ s = 1) → endA V A h (sF s) = A (sF s) ∧ endA V A h (sN s) = A (sN s) ∧ endA V A h (sB s) = A (sB s) := fun s hs => by
    have b := sw_b hs
    exact ⟨a7 _ (by omega), a7 _ (by omega), a7 _ (by omega)⟩
  have fP : stP (endA V A h) = stP A := by funext j; unfold stP; rw [a1, a2, a7 126 (by omega)]
  have fF : ∀ s, (s = 0 ∨ s = 1) → stF (endA V A h) s = stF A s := fun s hs => by funext j; unfold stF; rw [a2, (f s hs).1, a5]
  obtain ⟨⟨⟨i1, i2⟩, i3⟩, i4, i5⟩ := hI
  have h123 := hA.2.2.2.2.1
  have hn := hA.2.2.2.1.1
  refine ⟨⟨⟨by rw [fP]; exact i1, fun s hs => by rw [fF s hs]; exact i2 s hs⟩, fun k s k0 k1 hs => ?_⟩, fun j j0 j1 s hs => ?_, fun s hs => ?_⟩
  · rw [a2] at k1
    rw [(f s hs).1, (f s hs).2.1, a7 126 (by omega), fP, fF s hs]
    exact i3 k s k0 k1 hs
  · rw [a3] at j1
    rw [(f s hs).2.1, (f s hs).2.2, fP, fF s hs, a6 j, if_neg (show ¬ (j = A 0 2 + 1) by omega), a6 (j + 1)]
    by_cases c : j = A 0 2
    · obtain ⟨b1, b2, b3, b4, b5, b6, b7⟩ := a8 s hs
      rw [if_pos (by omega), c, b1, b5, b6, b7]
      obtain ⟨c1, c2, c3⟩ := i5 s hs
      refine ⟨c1, c2, fun q => (c3 q).1, ?_⟩
      have e1 : stP A (A 0 1) = A 0 0 := by unfold stP; rw [if_neg (by omega)]
      have e2 : stF A s (A 0 1) = A 6 s := by unfold stF; rw [if_neg (by omega)]
      rw [e1, e2, ← (hA.2.2.2.2.2 s hs).2.2.2.2.2.1]
      refine ⟨by omega, fun q => ?_⟩
      have hc := cA_b (V := V) (A := A) (h := h) (s := s) hV.2.2.2.2.2.2.2
      have h45 := (hA.2.2.2.2.2 s hs).2.2.2.2.1
      unfold mostN lastL at hc
      rw [show A 4 s + (A 5 s - A 4 s) - 1 = A 5 s - 1 by omega]
      split at hc <;> omega
    · rw [if_neg (by omega), a9 135 _ (by omega) (by omega) (by omega), a9 139 _ (by omega) (by omega) (by omega), a9 140 _ (by omega) (by omega) (by omega), a9 141 _ (by omega) (by omega) (by omega)]
      exact i4 j j0 (by omega) s hs
  · have e : endA V A h 123 (endA V A h 0 2) = A 0 1 := by rw [a3, a6, if_pos rfl]
    rw [e, a2, (a4 s hs).1]
    exact ⟨fun k k0 k1 => by omega, fun _ => rfl, fun q => by omega⟩
/-- a spread that begins with pairs left gets a segment -/
theorem sp_one {V A : Sto} {h : Int} (hV : EdOK V) (hA : AOK V A) (hf : AFr A) (hh : h ≤ 60) (c : A 0 0 < V 1 0) : A 0 1 + 1 ≤ spA V h 21 A 0 1 := by
  have h3 : 1 ≤ V 17 3 := hV.2.2.2.2.2.2.2.2.2.2.1.1
  have hst := aok_step hV hA (afr_go hf) hh
  have nb : ¬ brk V A := fun q => q.1 hf.1
  have key : A 0 1 + 1 ≤ stepA V A h 0 1 := by
    rcases step_c V A h h3 with ⟨-, e⟩ | ⟨c', e | ⟨-, -, e⟩ | ⟨-, -, e⟩⟩
    · rw [e, (restA_v V A).1.2.1]; omega
    · exfalso
      have e' := congrFun (congrFun e 0) 1
      unfold stepA at e'
      rw [if_pos ⟨c, nb⟩] at e'
      by_cases f1 : fitA V A h (V 17 4) (pL V A 0) (pL V A 1)
      · exact c' ⟨c, nb, f1⟩
      · rw [if_neg f1] at e'
        by_cases f2 : splits V A h
        · rw [if_pos f2, (splA_v V A _).1.2.1] at e'
          omega
        · rw [if_neg f2, if_pos hf.1, up_other (by omega), (restA_v V A).1.2.1] at e'
          omega
    · rw [e, (splA_v V A _).1.2.1]; omega
    · rw [e, up_other (by omega), (restA_v V A).1.2.1]; omega
  have : stepA V A h 0 1 ≤ spA V h 21 A 0 1 := by
    show _ ≤ (@ite _ (goesA V A h) (Classical.propDecidable _) (spA V h 20 (stepA V A h)) (stepA V A h)) 0 1
    by_cases g : goesA V A h
    · rw [if_pos g]
      exact (aok_sp hV hh 20 _ hst.1 (hst.2.2 g).1).2.2.2.2.2.2.1
    · rw [if_neg g]
      exact Int.le_refl _
  omega
/-- a spread that begins with all pairs set stays without segments -/
theorem sp_none {V A : Sto} {h : Int} (c : ¬ A 0 0 < V 1 0) : spA V h 21 A = A := by
  show @ite _ (goesA V A h) (Classical.propDecidable _) (spA V h 20 (stepA V A h)) (stepA V A h) = A
  rw [if_neg (fun g => by have := g.1; omega)]
  unfold stepA
  rw [if_neg (fun g => by have := g.1; omega)]
theorem lay_tk {V : Sto} {h : Int} (hV : EdOK V) (hh : h ≤ 60) : TI V (lay V h) ∧ SD V (lay V h) := by
  have hz : (SI V z0 ∧ PI V z0 h) ∧ TI V z0 ∧ SD V z0 := by
    refine ⟨⟨⟨fun k k0 k1 => ?_, fun p x p0 x0 q => ?_, fun p x p0 x0 q => ?_, fun _ => rfl, fun q => ?_, fun q => rfl, fun k k0 k1 => ?_⟩, rfl, fun j j0 j1 => ?_, fun _ s _ => ⟨rfl, rfl⟩, fun q => ?_, fun j s j0 j1 => ?_⟩, ⟨⟨⟨rfl, fun s _ => rfl⟩, fun k s k0 k1 => ?_⟩, fun j j0 j1 => ?_, fun s _ => ⟨fun k k0 k1 => ?_, fun _ => rfl, fun q => ?_⟩⟩, fun j j0 j1 => ?_⟩
    · have k1 : k < 0 := k1
      omega
    · have q : p < 0 ∧ x < V 3 p ∨ p = 0 ∧ x < 0 := q
      omega
    · have q : p < 0 ∧ x < V 4 p ∨ p = 0 ∧ x < 0 := q
      omega
    · have q : (0 : Int) < 0 := q
      omega
    · have k1 : k < 0 := k1
      omega
    · have j1 : j < 0 := j1
      omega
    · have q : (0 : Int) < 0 := q
      omega
    · have j1 : j < 0 := j1
      omega
    · have k1 : k < 0 := k1
      omega
    · have j1 : j < 0 := j1
      omega
    · have k0 : 0 ≤ k := k0
      have k1 : k + 1 < 0 := k1
      omega
    · have q : (0 : Int) < 0 := q
      omega
    · have j1 : j < 0 := j1
      omega
  have hst : ∀ A, AOK V A → AFr A → ASp V A → (A 0 0 < V 1 0 ∨ 0 < A 3 0 + A 3 1) → (SI V A ∧ PI V A h) ∧ TI V A ∧ SD V A → (SI V (endA V (spA V h 21 (up A 124 (A 0 2) 0)) h) ∧ PI V (endA V (spA V h 21 (up A 124 (A 0 2) 0)) h) h) ∧ TI V (endA V (spA V h 21 (up A 124 (A 0 2) 0)) h) ∧ SD V (endA V (spA V h 21 (up A 124 (A 0 2) 0)) h) := by
    intro A a1 a2 a3 a4 a5
    obtain ⟨⟨a5, a6⟩, a7, a8⟩ := a5
    obtain ⟨g1, g2, g3, g4, g5⟩ := asp_end hV a1 a2 hh a3 a4
    have o : ∀ w, w ≠ 124 → up A 124 (A 0 2) 0 w = A w := fun w hw => up_other hw
    have u1 : AOK V (up A 124 (A 0 2) 0) := aok_up a1
    have uf : AFr (up A 124 (A 0 2) 0) := by
      unfold AFr at *
      simpa [up] using a2
    have u2 : AGo (up A 124 (A 0 2) 0) := afr_go uf
    have u3 : SI V (up A 124 (A 0 2) 0) := si_c a5 (by rw [o 0 (by omega)]) (by rw [o 0 (by omega)]) (by rw [o 6 (by omega)]) (fun w w0 w1 => by rw [o w (by omega)])
    have u4 : OM (up A 124 (A 0 2) 0) := by
      unfold OM
      left
      simp [up]
    have u5 : PI V (up A 124 (A 0 2) 0) h := by
      refine pi_c a6 ⟨by rw [o 0 (by omega)], by rw [o 123 (by omega)], by rw [o 3 (by omega)], by rw [o 4 (by omega)], fun w hw => by rw [o w (by omega)], by rw [o 0 (by omega)]; exact Int.le_refl _, fun j hj => ?_⟩
      simp [up, hj]
    have u6 : TI V (up A 124 (A 0 2) 0) := ti_c a7 (o 0 (by omega)) (o 1 (by omega)) (o 2 (by omega)) (o 6 (by omega)) (o 123 (by omega)) (fun w hw => o w (by omega))
    have hP : ∀ j, 0 ≤ j → j < up A 124 (A 0 2) 0 0 2 → up A 124 (A 0 2) 0 123 (j + 1) ≤ up A 124 (A 0 2) 0 0 1 := fun j j0 j1 => (u5.2.1 j j0 j1).2.2.1
    obtain ⟨s1, s2⟩ := si_sp hV hh 21 _ u1 u2 u3 u4
    obtain ⟨t1, t2⟩ := aok_sp hV hh 21 _ u1 u2
    have s3 := ti_sp hV hh 21 _ u1 u2 hP u6
    obtain ⟨⟨b1, b2, b3⟩, b4, b5, b6, b7, b8, b9⟩ := endA_v V (spA V h 21 (up A 124 (A 0 2) 0)) h
    refine ⟨⟨si_c s1 b1 b2 b5 (fun w w0 w1 => b7 w (by omega)), pi_end hV t1 (pi_c u5 t2) s2⟩, ti_end hV t1 (hP_k hP t2) s3, fun j j0 j1 => ?_⟩
    have n2 : spA V h 21 (up A 124 (A 0 2) 0) 0 2 = A 0 2 := by rw [t2.1, o 0 (by omega)]
    have n123 : spA V h 21 (up A 124 (A 0 2) 0) 123 = A 123 := by rw [t2.2.1, o 123 (by omega)]
    rw [b3, n2] at j1
    rw [b6, b6, n2, if_neg (show ¬ (j = A 0 2 + 1) by omega), n123]
    by_cases c : j = A 0 2
    · rw [if_pos (by omega), c, a2.1]
      by_cases d : A 0 0 < V 1 0
      · left
        have := sp_one hV u1 uf hh (by rw [o 0 (by omega)]; exact d)
        rw [o 0 (by omega)] at this
        omega
      · right
        have hn : spA V h 21 (up A 124 (A 0 2) 0) = up A 124 (A 0 2) 0 := sp_none (by rw [o 0 (by omega)]; exact d)
        have h38 : ∀ s, (s = 0 ∨ s = 1) → endA V (spA V h 21 (up A 124 (A 0 2) 0)) h 138 (2 * A 0 2 + s) = A 3 s ∧ endA V (spA V h 21 (up A 124 (A 0 2) 0)) h 3 s = 0 := by
          intro s hs
          have x1 := (b8 s hs).2.2.2.1
          rw [n2] at x1
          refine ⟨by rw [x1, hn, o 3 (by omega)], ?_⟩
          rw [(b4 s hs).2.2.1, hn]
          have hc := cA_b (V := V) (A := up A 124 (A 0 2) 0) (h := h) (s := s) hV.2.2.2.2.2.2.2
          have e5 := (uf.2 s hs).2.2
          unfold mostN lastL at hc
          rw [if_pos e5] at hc
          have := hV.2.2.2.2.2.2.2
          unfold StK at this
          omega
        have y0 := h38 0 (Or.inl rfl)
        have y1 := h38 1 (Or.inr rfl)
        rw [show 2 * A 0 2 + (0 : Int) = 2 * A 0 2 by omega] at y0
        rw [b3, n2, y0.1, y1.1, b1, hn, o 0 (by omega), ← hn, y0.2, y1.2]
        have := a1.1
        exact ⟨rfl, by omega, by omega, rfl, rfl⟩
    · rw [if_neg (by omega)]
      rcases a8 j j0 (by omega) with q | ⟨-, -, q1, q2, q3⟩
      · exact Or.inl q
      · omega
  obtain ⟨⟨-, i1, i2⟩, -⟩ := lay_ind hV hh (fun A => (SI V A ∧ PI V A h) ∧ TI V A ∧ SD V A) hz hst
  exact ⟨i1, i2⟩
