/-! ===== what the tables are like ===== -/
def SI (V A : Sto) : Prop :=
  (∀ k, 0 ≤ k → k < A 0 1 → (0 ≤ A 126 k ∧ A 126 k < V 1 0) ∧ (0 ≤ A 127 k ∧ 1 ≤ A 128 k ∧ A 127 k + A 128 k ≤ V 3 (A 126 k)) ∧ (0 ≤ A 129 k ∧ 1 ≤ A 130 k ∧ A 129 k + A 130 k ≤ V 4 (A 126 k)) ∧ (0 ≤ A 131 k ∧ A 131 k ≤ 63) ∧ (0 ≤ A 132 k ∧ A 132 k ≤ 63) ∧ A 133 k = if A 127 k + A 128 k < V 3 (A 126 k) then 1 else 0) ∧
  (∀ p x, 0 ≤ p → 0 ≤ x → (p < A 0 0 ∧ x < V 3 p ∨ p = A 0 0 ∧ x < A 6 0) → ∃ k, 0 ≤ k ∧ k < A 0 1 ∧ A 126 k = p ∧ A 127 k ≤ x ∧ x < A 127 k + A 128 k) ∧
  (∀ p x, 0 ≤ p → 0 ≤ x → (p < A 0 0 ∧ x < V 4 p ∨ p = A 0 0 ∧ x < A 6 1) → ∃ k, 0 ≤ k ∧ k < A 0 1 ∧ A 126 k = p ∧ A 129 k ≤ x ∧ x < A 129 k + A 130 k) ∧
  (A 0 1 = 0 → A 6 0 = 0) ∧ (0 < A 0 1 → (A 133 (A 0 1 - 1) = 1 ∧ A 126 (A 0 1 - 1) = A 0 0 ∧ 0 < A 6 0) ∨ (A 133 (A 0 1 - 1) = 0 ∧ A 126 (A 0 1 - 1) < A 0 0 ∧ A 6 0 = 0)) ∧ (0 < A 0 1 → A 127 0 = 0) ∧
  ∀ k, 1 ≤ k → k < A 0 1 → (A 133 (k - 1) = 1 ∧ A 126 k = A 126 (k - 1) ∧ 0 < A 127 k) ∨ (A 133 (k - 1) = 0 ∧ A 126 (k - 1) < A 126 k ∧ A 127 k = 0)
theorem si_put {V A B : Sto} {x y g : Int} (hV : EdOK V) (hA : AOK V A) (hp : A 0 0 < V 1 0) (hg : AGo A) (hI : SI V A) (hx : 1 ≤ x ∧ A 6 0 + x ≤ V 3 (A 0 0)) (hy : 1 ≤ y ∧ A 6 1 + y ≤ V 4 (A 0 0)) (h1 : B 0 1 = A 0 1 + 1)
    (hb : ∀ k, B 126 k = (if k = A 0 1 then A 0 0 else A 126 k) ∧ B 127 k = (if k = A 0 1 then A 6 0 else A 127 k) ∧ B 128 k = (if k = A 0 1 then x else A 128 k) ∧ B 129 k = (if k = A 0 1 then A 6 1 else A 129 k) ∧ B 130 k = (if k = A 0 1 then y else A 130 k) ∧ B 131 k = (if k = A 0 1 then A 2 0 else A 131 k) ∧ B 132 k = (if k = A 0 1 then A 2 1 else A 132 k) ∧ B 133 k = if k = A 0 1 then g else A 133 k)
    (hc : (g = 1 ∧ A 6 0 + x < V 3 (A 0 0) ∧ B 0 0 = A 0 0 ∧ B 6 0 = A 6 0 + x ∧ B 6 1 = A 6 1 + y) ∨ (g = 0 ∧ A 6 0 + x = V 3 (A 0 0) ∧ A 6 1 + y = V 4 (A 0 0) ∧ B 0 0 = A 0 0 + 1 ∧ B 6 0 = 0 ∧ B 6 1 = 0)) : SI V B := by
  obtain ⟨i1, i2, i3, i4, i5, i6, i7⟩ := hI
  have hsg := hA.2.2.1
  have a0 := hA.2.2.2.2.2 0 (Or.inl rfl)
  have a1 := hA.2.2.2.2.2 1 (Or.inr rfl)
  have g0 := hg 0 (Or.inl rfl)
  have g1 := hg 1 (Or.inr rfl)
  have hA0 := hA.1
  have new := hb (A 0 1)
  simp only [if_true] at new
  obtain ⟨n1, n2, n3, n4, n5, n6, n7, n8⟩ := new
  have old : ∀ k, k ≠ A 0 1 → B 126 k = A 126 k ∧ B 127 k = A 127 k ∧ B 128 k = A 128 k ∧ B 129 k = A 129 k ∧ B 130 k = A 130 k ∧ B 131 k = A 131 k ∧ B 132 k = A 132 k ∧ B 133 k = A 133 k := by
    intro k hk
    have := hb k
    simp only [hk, if_false] at this
    exact this
  refine ⟨fun k k0 k1 => ?_, fun p z p0 z0 hz => ?_, fun p z p0 z0 hz => ?_, fun q => by omega, fun _ => ?_, fun _ => ?_, fun k k0 k1 => ?_⟩
  · by_cases c : k = A 0 1
    · rw [c, n1, n2, n3, n4, n5, n6, n7, n8]
      refine ⟨⟨hA0.1, hp⟩, ⟨a0.1.1, hx.1, hx.2⟩, ⟨a1.1.1, hy.1, hy.2⟩, ⟨a0.2.2.1.1, g0.2⟩, ⟨a1.2.2.1.1, g1.2⟩, ?_⟩
      rcases hc with ⟨q1, q2, -⟩ | ⟨q1, q2, -⟩
      · rw [if_pos q2, q1]
      · rw [if_neg (by omega), q1]
    · obtain ⟨o1, o2, o3, o4, o5, o6, o7, o8⟩ := old k c
      rw [o1, o2, o3, o4, o5, o6, o7, o8]
      exact i1 k k0 (by omega)
  · by_cases c : p = A 0 0 ∧ A 6 0 ≤ z
    · refine ⟨A 0 1, hsg.1, by omega, ?_⟩
      rw [n1, n2, n3]
      rw [c.1] at hz
      refine ⟨c.1.symm, c.2, ?_⟩
      rcases hc with ⟨q1, q2, q3, q4, q5⟩ | ⟨q1, q2, q3, q4, q5⟩ <;> omega
    · have : p < A 0 0 ∧ z < V 3 p ∨ p = A 0 0 ∧ z < A 6 0 := by
        rcases hz with ⟨z1, z2⟩ | ⟨z1, z2⟩
        · rcases (show p < A 0 0 ∨ p = A 0 0 by omega) with q | q
          · exact Or.inl ⟨q, z2⟩
          · exact Or.inr ⟨q, by omega⟩
        · rcases hc with ⟨q1, q2, q3, q4, q5⟩ | ⟨q1, q2, q3, q4, q5⟩
          · exact Or.inr ⟨by omega, by omega⟩
          · omega
      obtain ⟨k, k0, k1, k2, k3, k4⟩ := i2 p z p0 z0 this
      obtain ⟨o1, o2, o3, o4, o5, o6, o7, o8⟩ := old k (by omega)
      exact ⟨k, k0, by omega, by rw [o1]; exact k2, by rw [o2]; exact k3, by rw [o2, o3]; exact k4⟩
  · by_cases c : p = A 0 0 ∧ A 6 1 ≤ z
    · refine ⟨A 0 1, hsg.1, by omega, ?_⟩
      rw [n1, n4, n5]
      rw [c.1] at hz
      refine ⟨c.1.symm, c.2, ?_⟩
      rcases hc with ⟨q1, q2, q3, q4, q5⟩ | ⟨q1, q2, q3, q4, q5⟩ <;> omega
    · have : p < A 0 0 ∧ z < V 4 p ∨ p = A 0 0 ∧ z < A 6 1 := by
        rcases hz with ⟨z1, z2⟩ | ⟨z1, z2⟩
        · rcases (show p < A 0 0 ∨ p = A 0 0 by omega) with q | q
          · exact Or.inl ⟨q, z2⟩
          · exact Or.inr ⟨q, by omega⟩
        · rcases hc with ⟨q1, q2, q3, q4, q5⟩ | ⟨q1, q2, q3, q4, q5⟩
          · exact Or.inr ⟨by omega, by omega⟩
          · omega
      obtain ⟨k, k0, k1, k2, k3, k4⟩ := i3 p z p0 z0 this
      obtain ⟨o1, o2, o3, o4, o5, o6, o7, o8⟩ := old k (by omega)
      exact ⟨k, k0, by omega, by rw [o1]; exact k2, by rw [o4]; exact k3, by rw [o4, o5]; exact k4⟩
  · rw [h1, show A 0 1 + 1 - 1 = A 0 1 by omega, n1, n8]
    rcases hc with ⟨q1, q2, q3, q4, q5⟩ | ⟨q1, q2, q3, q4, q5⟩
    · exact Or.inl ⟨q1, q3.symm, by omega⟩
    · exact Or.inr ⟨q1, by omega, q5.1⟩
  · by_cases c : A 0 1 = 0
    · rw [c] at n2
      rw [n2]
      exact i4 c
    · rw [(old 0 (by omega)).2.1]
      exact i6 (by omega)
  · obtain ⟨o1, o2, o3, o4, o5, o6, o7, o8⟩ := old (k - 1) (by omega)
    rw [o8, o1]
    by_cases c : k = A 0 1
    · rw [c, n1, n2]
      rcases i5 (by omega) with ⟨q1, q2, q3⟩ | ⟨q1, q2, q3⟩
      · exact Or.inl ⟨q1, q2.symm, q3⟩
      · exact Or.inr ⟨q1, q2, q3⟩
    · obtain ⟨o1, o2, o3, o4, o5, o6, o7, o8⟩ := old k c
      rw [o1, o2]
      exact i7 k k0 (by omega)
theorem si_c {V A B : Sto} (hI : SI V A) (h0 : B 0 0 = A 0 0) (h1 : B 0 1 = A 0 1) (h6 : B 6 = A 6) (hw : ∀ w, 126 ≤ w → w ≤ 133 → B w = A w) : SI V B := by
  unfold SI at *
  rw [h0, h1, h6, hw 126 (by omega) (by omega), hw 127 (by omega) (by omega), hw 128 (by omega) (by omega), hw 129 (by omega) (by omega), hw 130 (by omega) (by omega), hw 131 (by omega) (by omega), hw 132 (by omega) (by omega), hw 133 (by omega) (by omega)]
  exact hI
theorem si_rest {V A : Sto} (hV : EdOK V) (hA : AOK V A) (hp : A 0 0 < V 1 0) (hg : AGo A) (hI : SI V A) : SI V (restA V A) := by
  have p0 := pL_b hV hA hp (s := 0) (Or.inl rfl)
  have p1 := pL_b hV hA hp (s := 1) (Or.inr rfl)
  have e0 : V (3 + (0 : Int).toNat) (A 0 0) = V 3 (A 0 0) := rfl
  have e1 : V (3 + (1 : Int).toNat) (A 0 0) = V 4 (A 0 0) := rfl
  rw [e0] at p0
  rw [e1] at p1
  obtain ⟨⟨a1, a2, a3⟩, -, -, -, -, -, ⟨e60, e61⟩, -, -, e9⟩ := restA_v V A
  refine si_put (x := pL V A 0) (y := pL V A 1) (g := 0) hV hA hp hg hI (by omega) (by omega) a2 (fun k => ?_) (Or.inr ⟨rfl, by omega, by omega, a1, e60, e61⟩)
  rw [e9 126 (by omega), e9 127 (by omega), e9 128 (by omega), e9 129 (by omega), e9 130 (by omega), e9 131 (by omega), e9 132 (by omega), e9 133 (by omega)]
  exact putA_k V A _ _ _ k
theorem si_spl {V A : Sto} {h x : Int} (hV : EdOK V) (hA : AOK V A) (hp : A 0 0 < V 1 0) (hg : AGo A) (hI : SI V A) (hx : spl V A h x) : SI V (splA V A x) := by
  have p0 := pL_b hV hA hp (s := 0) (Or.inl rfl)
  have p1 := pL_b hV hA hp (s := 1) (Or.inr rfl)
  have e0 : V (3 + (0 : Int).toNat) (A 0 0) = V 3 (A 0 0) := rfl
  have e1 : V (3 + (1 : Int).toNat) (A 0 0) = V 4 (A 0 0) := rfl
  rw [e0] at p0
  rw [e1] at p1
  have h3 : 1 ≤ V 17 3 := hV.2.2.2.2.2.2.2.2.2.2.1.1
  obtain ⟨x1, x2, x3, -⟩ := hx
  obtain ⟨⟨a1, a2, a3⟩, -, -, -, -, -, ⟨e60, e61⟩, -, -, e9⟩ := splA_v V A x
  refine si_put (x := x) (y := yOf (pL V A 0) (pL V A 1) x) (g := 1) hV hA hp hg hI (by omega) (by omega) a2 (fun k => ?_) (Or.inl ⟨rfl, by omega, a1, e60, e61⟩)
  rw [e9 126 (by omega), e9 127 (by omega), e9 128 (by omega), e9 129 (by omega), e9 130 (by omega), e9 131 (by omega), e9 132 (by omega), e9 133 (by omega)]
  exact putA_k V A _ _ _ k
/-- the spread's mark is 0 or 1 -/
def OM (A : Sto) : Prop := A 124 (A 0 2) = 0 ∨ A 124 (A 0 2) = 1
theorem si_step {V A : Sto} {h : Int} (hV : EdOK V) (hA : AOK V A) (hg : AGo A) (hI : SI V A) (hO : OM A) : SI V (stepA V A h) ∧ OM (stepA V A h) := by
  have h3 : 1 ≤ V 17 3 := hV.2.2.2.2.2.2.2.2.2.2.1.1
  have r3 := (restA_v V A).1.2.2
  have r8 := (restA_v V A).2.2.2.2.2.2.2.2.1
  rcases step_c V A h h3 with ⟨c, e⟩ | ⟨c, e | ⟨c1, c2, e⟩ | ⟨c1, c2, e⟩⟩
  · rw [e]
    refine ⟨si_rest hV hA c.1 hg hI, ?_⟩
    unfold OM at *
    rw [r3, r8]
    exact hO
  · rw [e]
    exact ⟨hI, hO⟩
  · rw [e]
    refine ⟨si_spl hV hA c1 hg hI c2, ?_⟩
    unfold OM at *
    rw [(splA_v V A _).1.2.2, (splA_v V A _).2.2.2.2.2.2.2.2.1]
    exact hO
  · rw [e]
    refine ⟨si_c (si_rest hV hA c1 hg hI) (by rw [up_other (by omega)]) (by rw [up_other (by omega)]) (by rw [up_other (by omega)]) (fun w w0 w1 => by rw [up_other (by omega)]), ?_⟩
    have e2 : (up (restA V A) 124 (A 0 2) 1) 0 2 = A 0 2 := by
      rw [up_other (by decide)]
      exact r3
    unfold OM
    rw [e2]
    right
    simp [up]
theorem si_sp {V : Sto} {h : Int} (hV : EdOK V) (hh : h ≤ 60) : ∀ (n : Nat) (A : Sto), AOK V A → AGo A → SI V A → OM A → SI V (spA V h n A) ∧ OM (spA V h n A)
  | 0, A, _, _, hI, hO => ⟨hI, hO⟩
  | n + 1, A, hA, hg, hI, hO => by
    have hs := aok_step hV hA hg hh
    have hi := si_step (h := h) hV hA hg hI hO
    unfold spA
    by_cases c : goesA V A h
    · rw [if_pos c]
      exact si_sp hV hh n _ hs.1 (hs.2.2 c).1 hi.1 hi.2
    · rw [if_neg c]
      exact hi
def pgOK (V A : Sto) (h q s : Int) : Prop := (0 ≤ A 135 q ∧ A 135 q ≤ 100) ∧ (0 ≤ A 136 q ∧ A 136 q ≤ 1000) ∧ A 137 q = max 0 (h - A 135 q - A 136 q) ∧ (0 ≤ A 138 q ∧ A 138 q ≤ 5) ∧ (0 ≤ A 139 q ∧ A 139 q ≤ 5) ∧ 0 ≤ A 140 q ∧ 0 ≤ A 141 q ∧ A 141 q + A 140 q ≤ V (nbS s) 0 ∧
  A 136 q = rws (V 17 2) (A 138 q + SL V (nbS s) (A 141 q) (A 141 q + A 140 q) - A 139 q) ∧ (0 < A 138 q → 0 < A 141 q ∧ A 138 q < V (nbS s + 4) (A 141 q - 1))
def PI (V A : Sto) (h : Int) : Prop := A 123 0 = 0 ∧ (∀ j, 0 ≤ j → j < A 0 2 → 0 ≤ A 123 j ∧ A 123 j ≤ A 123 (j + 1) ∧ A 123 (j + 1) ≤ A 0 1 ∧ (A 124 j = 0 ∨ A 124 j = 1)) ∧ (A 0 2 = 0 → ∀ s, (s = 0 ∨ s = 1) → A 3 s = 0 ∧ A 4 s = 0) ∧ (0 < A 0 2 → ∀ s, (s = 0 ∨ s = 1) → A 138 s = 0 ∧ A 141 s = 0) ∧
  ∀ j s, 0 ≤ j → j < A 0 2 → (s = 0 ∨ s = 1) → pgOK V A h (2 * j + s) s ∧ (j + 1 < A 0 2 → A 141 (2 * j + 2 + s) = A 141 (2 * j + s) + A 140 (2 * j + s) ∧ A 138 (2 * j + 2 + s) = A 139 (2 * j + s)) ∧ (j + 1 = A 0 2 → A 4 s = A 141 (2 * j + s) + A 140 (2 * j + s) ∧ A 3 s = A 139 (2 * j + s))
theorem pi_c {V A B : Sto} {h : Int} (hI : PI V A h) (hk : AKp A B) : PI V B h := by
  obtain ⟨k1, k2, k3, k4, k5, k6, k7⟩ := hk
  obtain ⟨p1, p2, p3, p4, p5⟩ := hI
  refine ⟨by rw [k2]; exact p1, fun j j0 j1 => ?_, by rw [k1, k3, k4]; exact p3, by rw [k1, k5 138 (by omega), k5 141 (by omega)]; exact p4, fun j s j0 j1 hs => ?_⟩
  · rw [k1] at j1
    have := p2 j j0 j1
    rw [k2, k7 j (by omega)]
    omega
  · rw [k1] at j1
    have := p5 j s j0 j1 hs
    unfold pgOK at *
    rw [k1, k3, k4, k5 135 (by omega), k5 136 (by omega), k5 137 (by omega), k5 138 (by omega), k5 139 (by omega), k5 140 (by omega), k5 141 (by omega)]
    exact this
theorem pi_end {V A : Sto} {h : Int} (hV : EdOK V) (hA : AOK V A) (hI : PI V A h) (hO : OM A) : PI V (endA V A h) h := by
  obtain ⟨⟨a1, a2, a3⟩, a4, a5, a6, a7, a8, a9⟩ := endA_v V A h
  have hK : StK V := hV.2.2.2.2.2.2.2
  have hKb : (0 ≤ V 17 2 ∧ V 17 2 ≤ 2) ∧ (0 ≤ V 17 4 ∧ V 17 4 ≤ 5) := ⟨hK.2.2.1, hK.2.2.2.2.1⟩
  obtain ⟨p1, p2, p3, p4, p5⟩ := hI
  have hsp := hA.2.2.2.1
  have h123 := hA.2.2.2.2.1
  refine ⟨by rw [a6, if_neg (by omega)]; exact p1, fun j j0 j1 => ?_, fun q => by omega, fun q s hs => ?_, fun j s j0 j1 hs => ?_⟩
  · rw [a3] at j1
    rw [a6, a6, a7 124 (by omega), a2]
    by_cases c : j = A 0 2
    · rw [if_neg (by omega), if_pos (by omega), c]
      exact ⟨h123.1, h123.2, Int.le_refl _, hO⟩
    · rw [if_neg (by omega), if_neg (by omega)]
      exact p2 j j0 (by omega)
  · by_cases c : A 0 2 = 0
    · obtain ⟨b1, b2, b3, b4, b5, b6, b7⟩ := a8 s hs
      have e : 2 * A 0 2 + s = s := by omega
      rw [e] at b4 b7
      rw [b4, b7]
      exact p3 c s hs
    · rw [a9 138 s (by omega) (by omega) (by omega), a9 141 s (by omega) (by omega) (by omega)]
      exact p4 (by omega) s hs
  · rw [a3] at j1 ⊢
    by_cases c : j = A 0 2
    · obtain ⟨b1, b2, b3, b4, b5, b6, b7⟩ := a8 s hs
      rw [← c] at b1 b2 b3 b4 b5 b6 b7
      have q := hA.2.2.2.2.2 s hs
      have q5 := (nA_is (nbO hV hs).1 (A 0 0) (A 6 s)).2.1
      have hs' := SLv_b (a := A 4 s) (b := A 5 s) hV hs (by omega) (by omega) (by omega)
      have hc := cA_b (V := V) (A := A) (h := h) (s := s) hK
      have hm := mostN_b (V := V) (c := V 17 4) (nb := nbS s) (a := A 4 s) (b := A 5 s) hKb.2
      have hnr : 0 ≤ nrA V A h s ∧ nrA V A h s ≤ 1000 := by
        unfold nrA rws
        split <;> omega
      refine ⟨?_, fun z => by omega, fun _ => ?_⟩
      · unfold pgOK
        rw [b1, b2, b3, b4, b5, b6, b7, show A 4 s + (A 5 s - A 4 s) = A 5 s by omega]
        exact ⟨q.2.1, hnr, rfl, q.2.2.2.1, by omega, by omega, q.2.2.2.2.1.1, by omega, rfl, q.2.2.2.2.2.2⟩
      · obtain ⟨z1, z2, z3, z4, z5⟩ := a4 s hs
        rw [z3, z4, b5, b6, b7]
        exact ⟨by omega, rfl⟩
    · have nq : ∀ w, (135 ≤ w ∧ w ≤ 141) → endA V A h w (2 * j + s) = A w (2 * j + s) := fun w hw => a9 w _ hw (by omega) (by omega)
      obtain ⟨r1, r2, r3⟩ := p5 j s j0 (by omega) hs
      refine ⟨?_, fun z => ?_, fun z => by omega⟩
      · unfold pgOK at *
        rw [nq 135 (by omega), nq 136 (by omega), nq 137 (by omega), nq 138 (by omega), nq 139 (by omega), nq 140 (by omega), nq 141 (by omega)]
        exact r1
      · rw [nq 139 (by omega), nq 140 (by omega), nq 141 (by omega)]
        by_cases c2 : j + 1 = A 0 2
        · obtain ⟨b1, b2, b3, b4, b5, b6, b7⟩ := a8 s hs
          rw [show 2 * j + 2 + s = 2 * A 0 2 + s by omega, b4, b7]
          exact r3 c2
        · rw [a9 141 _ (by omega) (by omega) (by omega), a9 138 _ (by omega) (by omega) (by omega)]
          exact r2 (by omega)
/-- all that is known of the spreads -/
def LOK (V : Sto) (h : Int) (L : Sto) : Prop := SI V L ∧ PI V L h ∧ AOK V L ∧ L 123 (L 0 2) = L 0 1 ∧ L 0 0 = V 1 0 ∧ (L 0 1 ≤ 600 ∧ L 0 2 ≤ 601) ∧ L 3 0 = 0 ∧ L 3 1 = 0
theorem lay_ok {V : Sto} {h : Int} (hV : EdOK V) (hh : h ≤ 60) : LOK V h (lay V h) := by
  have hz : SI V z0 ∧ PI V z0 h := by
    refine ⟨⟨fun k k0 k1 => ?_, fun p x p0 x0 q => ?_, fun p x p0 x0 q => ?_, fun _ => rfl, fun q => ?_, fun q => rfl, fun k k0 k1 => ?_⟩, rfl, fun j j0 j1 => ?_, fun _ s _ => ⟨rfl, rfl⟩, fun q => ?_, fun j s j0 j1 => ?_⟩
    · have k1 : k < 0 := k1
      omega
    · have q : p < 0 ∧ x < V 3 p ∨ p = 0 ∧ x < 0 := q
      omega
    · have q : p < 0 ∧ x < V 4 p ∨ p = 0 ∧ x < 0 := q
      omega
    · have q : (0 : Int) < 0 := q
      omega
    · have k1 : k < 0 := k1
      omega
    · have j1 : j < 0 := j1
      omega
    · have q : (0 : Int) < 0 := q
      omega
    · have j1 : j < 0 := j1
      omega
  have hst : ∀ A, AOK V A → AFr A → ASp V A → (A 0 0 < V 1 0 ∨ 0 < A 3 0 + A 3 1) → SI V A ∧ PI V A h → SI V (endA V (spA V h 21 (up A 124 (A 0 2) 0)) h) ∧ PI V (endA V (spA V h 21 (up A 124 (A 0 2) 0)) h) h := by
    intro A a1 a2 a3 a4 a5
    obtain ⟨a5, a6⟩ := a5
    obtain ⟨g1, g2, g3, g4, g5⟩ := asp_end hV a1 a2 hh a3 a4
    have u1 : AOK V (up A 124 (A 0 2) 0) := aok_up a1
    have u2 : AGo (up A 124 (A 0 2) 0) := by
      have := afr_go a2
      unfold AGo at *
      simpa [up] using this
    have u3 : SI V (up A 124 (A 0 2) 0) := si_c a5 (by rw [up_other (by omega)]) (by rw [up_other (by omega)]) (by rw [up_other (by omega)]) (fun w w0 w1 => by rw [up_other (by omega)])
    have u4 : OM (up A 124 (A 0 2) 0) := by
      unfold OM
      left
      simp [up]
    have u5 : PI V (up A 124 (A 0 2) 0) h := by
      refine pi_c a6 ⟨by rw [up_other (by omega)], by rw [up_other (by omega)], by rw [up_other (by omega)], by rw [up_other (by omega)], fun w hw => by rw [up_other (by omega)], by rw [up_other (by omega)]; exact Int.le_refl _, fun j hj => ?_⟩
      simp [up, hj]
    obtain ⟨s1, s2⟩ := si_sp hV hh 21 _ u1 u2 u3 u4
    obtain ⟨t1, t2⟩ := aok_sp hV hh 21 _ u1 u2
    obtain ⟨⟨b1, b2, b3⟩, b4, b5, b6, b7, b8, b9⟩ := endA_v V (spA V h 21 (up A 124 (A 0 2) 0)) h
    exact ⟨si_c s1 b1 b2 b5 (fun w w0 w1 => b7 w (by omega)), pi_end hV t1 (pi_c u5 t2) s2⟩
  obtain ⟨⟨i1, i2⟩, i3, i4, i5, i6⟩ := lay_ind hV hh (fun A => SI V A ∧ PI V A h) hz hst
  have h0 := i3.1
  have h3 := (i3.2.2.2.2.2 0 (Or.inl rfl)).2.2.2.1
  have h4 := (i3.2.2.2.2.2 1 (Or.inr rfl)).2.2.2.1
  exact ⟨i1, i2, i3, i4.1, by omega, ⟨(sg_b hV i3).1, i3.2.2.2.1.2⟩, by omega, by omega⟩
