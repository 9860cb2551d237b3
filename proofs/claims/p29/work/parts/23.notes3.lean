theorem ds_O {σ σ' : Sto} {nb : Nat} {j b : Int} (hN : NtO σ nb) (h : dsR σ σ' nb j b) (hj : 0 ≤ j ∧ j ≤ b ∧ b ≤ σ nb 0) : NtO σ' nb := by
  obtain ⟨-, h0, h2, h3, -⟩ := h
  obtain ⟨hc, hs⟩ := hN
  refine ⟨by omega, fun i k k1 k2 k3 => ?_⟩
  rw [h2 i (by omega) (by omega), h2 k (by omega) (by omega), h3 i (by omega) (by omega), h3 k (by omega) (by omega)]
  have s1 := hs i k (by omega) k2 (by omega)
  have s2 := hs i (k + (b - j)) (by omega) (by omega) (by omega)
  have s3 := hs (i + (b - j)) (k + (b - j)) (by omega) (by omega) (by omega)
  by_cases e1 : i < j <;> by_cases e2 : k < j <;> simp only [e1, e2, if_true, if_false] <;> omega
theorem ds_step {σ σ1 σ2 : Sto} {nb : Nat} {j b : Int} (h : dsR σ σ1 nb j b) (h' : dsR σ1 σ2 nb (j - 1) j) (hj : 1 ≤ j ∧ j ≤ b ∧ b ≤ σ nb 0) : dsR σ σ2 nb (j - 1) b := by
  obtain ⟨a0, a1, a2, a3, a4⟩ := h
  obtain ⟨b0, b1, b2, b3, b4⟩ := h'
  refine ⟨fun a p1 p2 p3 p4 => (b0 a p1 p2 p3 p4).trans (a0 a p1 p2 p3 p4), by omega, fun k k1 k2 => ?_, fun k k1 k2 => ?_, fun k k1 k2 => ?_⟩
  · rw [b2 k k1 (by omega), a2 k k1 (by omega), a2 (k + (j - (j - 1))) (by omega) (by omega)]
    grind
  · rw [b3 k k1 (by omega), a3 k k1 (by omega), a3 (k + (j - (j - 1))) (by omega) (by omega)]
    grind
  · rw [b4 k k1 (by omega), a4 k k1 (by omega), a4 (k + (j - (j - 1))) (by omega) (by omega)]
    grind
theorem ds_0 {σ : Sto} {nb : Nat} {b : Int} : dsR σ σ nb b b := by
  refine ⟨fun _ _ _ _ _ => rfl, by omega, fun k k1 k2 => ?_, fun k k1 k2 => ?_, fun k k1 k2 => ?_⟩ <;> grind
/-- the notes of [a, b) gone, those behind them a pair lower -/
def dpR (σ σ' : Sto) (nb : Nat) (a b : Int) : Prop := (∀ i, i ≠ nb → i ≠ nb + 2 → i ≠ nb + 3 → i ≠ nb + 4 → σ' i = σ i) ∧ σ' nb 0 = σ nb 0 - (b - a) ∧
  (∀ k, 0 ≤ k → k < σ nb 0 - (b - a) → σ' (nb + 2) k = (if k < a then σ (nb + 2) k else σ (nb + 2) (k + (b - a)) - 1)) ∧
  (∀ k, 0 ≤ k → k < σ nb 0 - (b - a) → σ' (nb + 3) k = (if k < a then σ (nb + 3) k else σ (nb + 3) (k + (b - a)))) ∧
  (∀ k, 0 ≤ k → k < σ nb 0 - (b - a) → σ' (nb + 4) k = (if k < a then σ (nb + 4) k else σ (nb + 4) (k + (b - a))))
theorem dp_of {σ σ1 : Sto} {nb : Nat} {a b : Int} (h : dsR σ σ1 nb a b) (ha : 0 ≤ a) : dpR σ (mvF σ1 nb a (σ1 nb 0) (-1)) nb a b := by
  obtain ⟨a0, a1, a2, a3, a4⟩ := h
  refine ⟨fun i p1 p2 p3 p4 => ?_, ?_, fun k k1 k2 => ?_, fun k k1 k2 => ?_, fun k k1 k2 => ?_⟩
  · funext k
    have := a0 i p1 p2 p3 p4
    grind [mvF]
  · simp [mvF, a1]
  · have := a2 k k1 k2
    grind [mvF]
  · have := a3 k k1 k2
    grind [mvF]
  · have := a4 k k1 k2
    grind [mvF]
theorem nA_le {σ : Sto} {nb : Nat} (hN : NtO σ nb) (p : Int) : nA σ nb p 0 ≤ nA σ nb (p + 1) 0 := by
  obtain ⟨a1, a2, a3, a4⟩ := nA_is hN p 0
  obtain ⟨b1, b2, b3, b4⟩ := nA_is hN (p + 1) 0
  rcases (show nA σ nb p 0 ≤ nA σ nb (p + 1) 0 ∨ nA σ nb (p + 1) 0 < nA σ nb p 0 by omega) with h | h
  · exact h
  · have h1 := a3 _ b1 h
    have h2 := b4 _ (Int.le_refl _) (by omega)
    unfold bef at h1 h2
    omega
theorem ds_A {σ σ1 : Sto} {nb : Nat} {p : Int} (hN : NtO σ nb) (h : dsR σ σ1 nb (nA σ nb p 0) (nA σ nb (p + 1) 0)) (hr : ∀ k, 0 ≤ k → k < σ nb 0 → 0 ≤ σ (nb + 3) k) : nA σ1 nb p 0 = nA σ nb p 0 := by
  obtain ⟨a1, a2, a3, a4⟩ := nA_is hN p 0
  obtain ⟨b1, b2, b3, b4⟩ := nA_is hN (p + 1) 0
  have hle := nA_le hN p
  have hO := ds_O hN h ⟨a1, hle, b2⟩
  refine nA_eq hO ?_
  obtain ⟨-, h0, h2, h3, -⟩ := h
  refine ⟨a1, by omega, fun k k1 k2 => ?_, fun k k1 k2 => ?_⟩
  · have := a3 k k1 k2
    unfold bef at *
    rw [h2 k k1 (by omega), h3 k k1 (by omega), if_pos k2, if_pos k2]
    exact this
  · have e1 := b4 (k + (nA σ nb (p + 1) 0 - nA σ nb p 0)) (by omega) (by omega)
    have e2 := hr (k + (nA σ nb (p + 1) 0 - nA σ nb p 0)) (by omega) (by omega)
    unfold bef at *
    rw [h2 k (by omega) (by omega), h3 k (by omega) (by omega), if_neg (by omega), if_neg (by omega)]
    omega
section
variable {X : XT} {G : List Sh} {σ : Sto} {Q : QT} {nb : Nat}
end
