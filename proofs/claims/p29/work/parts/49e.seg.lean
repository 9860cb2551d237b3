/-! ===== a line stands in a segment, a segment on a spread ===== -/
theorem leastI {P : Int → Prop} : ∀ (m n : Nat), n ≤ m → P n → ∃ k : Int, 0 ≤ k ∧ k ≤ n ∧ P k ∧ ∀ i, 0 ≤ i → i < k → ¬ P i := by
  intro m
  induction m with
  | zero => 
    intro n hn hp
    exact ⟨n, by omega, by omega, hp, fun i _ _ => by omega⟩
  | succ m ih =>
    intro n hn hp
    by_cases c : ∃ i : Nat, i < n ∧ P i
    · obtain ⟨i, i1, i2⟩ := c
      obtain ⟨k, k1, k2, k3, k4⟩ := ih i (by omega) i2
      exact ⟨k, k1, by omega, k3, k4⟩
    · refine ⟨n, by omega, by omega, hp, fun i i0 i1 q => c ⟨i.toNat, by omega, ?_⟩⟩
      rw [show ((i.toNat : Nat) : Int) = i by omega]
      exact q
theorem leastE {P : Int → Prop} {n : Int} (h0 : 0 ≤ n) (hp : P n) : ∃ k : Int, 0 ≤ k ∧ k ≤ n ∧ P k ∧ ∀ i, 0 ≤ i → i < k → ¬ P i := by
  obtain ⟨k, k1, k2, k3, k4⟩ := leastI (P := P) n.toNat n.toNat (Nat.le_refl _) (by rw [show ((n.toNat : Nat) : Int) = n by omega]; exact hp)
  exact ⟨k, k1, by omega, k3, k4⟩
theorem si_s {V L : Sto} {k s : Int} (hV : EdOK V) (hL : SI V L) (hs : s = 0 ∨ s = 1) (k0 : 0 ≤ k) (k1 : k < L 0 1) : (0 ≤ L 126 k ∧ L 126 k < 20) ∧ (0 ≤ L (sF s) k ∧ 1 ≤ L (sN s) k ∧ L (sF s) k + L (sN s) k ≤ 30) ∧ 0 ≤ L (sB s) k ∧ L (sB s) k ≤ 63 := by
  obtain ⟨c1, c2, c3, c4, c5, -⟩ := hL.1 k k0 k1
  have hl := hV.2.1 _ c1.1 c1.2
  have hn := hV.1
  rcases hs with rfl | rfl <;> simp only [s0v] <;> omega
theorem seg_ex {V L : Sto} {h p s x : Int} (hL : LOK V h L) (hl : isL V p s x) : ∃ k j, IsSeg L p s x k ∧ IsSp L k j := by
  obtain ⟨si, pi, ao, e1, e2, b, -⟩ := hL
  have ex : ∃ k : Int, 0 ≤ k ∧ k < L 0 1 ∧ inSeg L k p s x := by
    rcases hl.2 with ⟨rfl, x0, x1⟩ | ⟨rfl, x0, x1⟩
    · obtain ⟨k, k0, k1, k2, k3, k4⟩ := si.2.1 p x hl.1.1 x0 (Or.inl ⟨by have := hl.1.2; omega, x1⟩)
      exact ⟨k, k0, k1, k2, by simp only [s0v]; exact ⟨k3, k4⟩⟩
    · obtain ⟨k, k0, k1, k2, k3, k4⟩ := si.2.2.1 p x hl.1.1 x0 (Or.inl ⟨by have := hl.1.2; omega, x1⟩)
      exact ⟨k, k0, k1, k2, by simp only [s0v]; exact ⟨k3, k4⟩⟩
  obtain ⟨k', k0, k1, k2⟩ := ex
  obtain ⟨k, m0, m1, m2, m3⟩ := leastE (P := fun k => inSeg L k p s x) k0 k2
  have p0 := pi.1
  have hj : 0 < L 0 2 := by
    rcases (show 0 < L 0 2 ∨ L 0 2 ≤ 0 by omega) with q | q
    · exact q
    · have : L 0 2 = 0 := by
        have := ao.2.2.2.1.1
        omega
      rw [this] at e1
      omega
  obtain ⟨j, j0, j1, j2, j3⟩ := leastE (P := fun j => k < L 123 (j + 1)) (n := L 0 2 - 1) (by omega) (show k < L 123 (L 0 2 - 1 + 1) by rw [show L 0 2 - 1 + 1 = L 0 2 by omega]; omega)
  exact ⟨k, j, ⟨⟨m0, by omega⟩, m2, m3⟩, ⟨j0, by omega⟩, j2, fun i i0 i1 => by have := j3 i i0 i1; omega⟩
