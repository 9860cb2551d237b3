/-! ===== what a change leaves of an edition ===== -/
theorem nto_in {E E' : Sto} {nb : Nat} {a : Int} (h : NtO E nb) (hi : inN E E' nb a) : NtO E' nb := by
  obtain ⟨i1, i2⟩ := hi
  refine ⟨by rw [i1]; exact h.1, fun i j i0 ij jn => ?_⟩
  rw [i1] at jn
  have o := h.2 i j i0 ij jn
  rw [(i2 i i0 (by omega)).1, (i2 j (by omega) jn).1, (i2 i i0 (by omega)).2.1, (i2 j (by omega) jn).2.1]
  split <;> split <;> omega
theorem ntr_in {E E' : Sto} {nb lb : Nat} {a l : Int} (hR : NtR E nb lb) (hi : inN E E' nb a) (h10 : E' 1 0 = E 1 0 + 1) (ha : 0 ≤ a ∧ a ≤ E 1 0) (hl : ∀ p, 0 ≤ p → p ≤ E 1 0 → E' lb p = (if p < a then E lb p else if p = a then l else E lb (p - 1))) : NtR E' nb lb := by
  obtain ⟨i1, i2⟩ := hi
  intro k k0 k1
  rw [i1] at k1
  obtain ⟨r1, r2, r3⟩ := hR k k0 k1
  obtain ⟨e1, e2, e3⟩ := i2 k k0 k1
  rw [e1, e2, e3, h10]
  by_cases c : a ≤ E (nb + 2) k
  · rw [if_pos c, hl _ (by omega) (by omega), if_neg (by omega), if_neg (by omega), show E (nb + 2) k + 1 - 1 = E (nb + 2) k by omega]
    exact ⟨by omega, r2, r3⟩
  · rw [if_neg c, hl _ (by omega) (by omega), if_pos (by omega)]
    exact ⟨by omega, r2, r3⟩
theorem stk_e {E E' : Sto} (h : StK E) (e : ∀ j, 0 ≤ j → j < 6 → E' 17 j = E 17 j) : StK E' := by
  unfold StK at h ⊢
  rw [e 0 (by omega) (by omega), e 1 (by omega) (by omega), e 2 (by omega) (by omega), e 3 (by omega) (by omega), e 4 (by omega) (by omega), e 5 (by omega) (by omega)]
  exact h
theorem ed_in {E E' : Sto} {a l r : Int} (hE : EdOK E) (hn : E 1 0 < 20) (ha : 0 ≤ a ∧ a ≤ E 1 0) (hl : 1 ≤ l ∧ l ≤ 30) (hr : 1 ≤ r ∧ r ≤ 30) (hi : inR E E' a l r) : EdOK E' := by
  obtain ⟨n1, n2, n3, n4, n5, n6, n7, n8⟩ := hE
  obtain ⟨i1, i2, i3, i4, i5⟩ := hi
  refine ⟨by omega, fun p p0 p1 => ?_, nto_in n3 i3, nto_in n4 i4, ntr_in n5 i3 i1 ha (fun p p0 p1 => (i2 p p0 p1).1), ntr_in n6 i4 i1 ha (fun p p0 p1 => (i2 p p0 p1).2.1), by rw [i3.1, i4.1]; exact n7, stk_e n8 i5⟩
  obtain ⟨e1, e2, e3, e4⟩ := i2 p p0 (by omega)
  rw [e1, e2, e3, e4]
  by_cases c : p < a
  · simp only [if_pos c]
    exact n2 p p0 (by omega)
  · simp only [if_neg c]
    by_cases c1 : p = a
    · simp only [if_pos c1]
      exact ⟨hl, hr, Or.inl trivial, Or.inl trivial⟩
    · simp only [if_neg c1]
      exact n2 (p - 1) (by omega) (by omega)
theorem nt_de {E E' : Sto} {nb lb : Nat} {p : Int} (h : NtO E nb) (hR : NtR E nb lb) (hp : 0 ≤ p ∧ p < E 1 0) (h10 : E' 1 0 = E 1 0 - 1) (hi : deN E E' nb (nA E nb p 0) (nA E nb (p + 1) 0)) (hl : ∀ q, 0 ≤ q → q < E 1 0 - 1 → E' lb q = (if q < p then E lb q else E lb (q + 1))) : NtO E' nb ∧ NtR E' nb lb := by
  obtain ⟨a1, a2, a3, a4⟩ := nA_is h p 0
  obtain ⟨b1, b2, b3, b4⟩ := nA_is h (p + 1) 0
  have ab := nA_mono2 h hR (show p ≤ p + 1 by omega)
  obtain ⟨i1, i2, i3, i4⟩ := hi
  obtain ⟨A, hA⟩ : ∃ A, nA E nb p 0 = A := ⟨_, rfl⟩
  obtain ⟨B, hB⟩ : ∃ B, nA E nb (p + 1) 0 = B := ⟨_, rfl⟩
  rw [hA] at a1 a2 a3 a4 ab i1 i2 i3 i4
  rw [hB] at b1 b2 b3 b4 ab i1 i2 i3 i4
  have hn := h.1
  have lo : ∀ k, 0 ≤ k → k < A → E (nb + 2) k < p := fun k k0 k1 => by
    have := a3 k k0 k1
    have := hR k k0 (by omega)
    unfold bef at *
    omega
  have up' : ∀ k, B ≤ k → k < E nb 0 → p < E (nb + 2) k := fun k k0 k1 => by
    have := b4 k k0 k1
    unfold bef at *
    omega
  refine ⟨⟨by omega, fun i j i0 ij jn => ?_⟩, fun k k0 k1 => ?_⟩
  · rw [i1] at jn
    rw [i2 i i0 (by omega), i2 j (by omega) jn, i3 i i0 (by omega), i3 j (by omega) jn]
    by_cases c : i < A
    · rw [if_pos c, if_pos c]
      have l1 := lo i i0 c
      by_cases c1 : j < A
      · rw [if_pos c1, if_pos c1]
        exact h.2 i j i0 ij (by omega)
      · rw [if_neg c1, if_neg c1]
        have l2 := up' (j + (B - A)) (by omega) (by omega)
        left
        omega
    · rw [if_neg c, if_neg c, if_neg (by omega), if_neg (by omega)]
      have := h.2 (i + (B - A)) (j + (B - A)) (by omega) (by omega) (by omega)
      omega
  · rw [i1] at k1
    rw [i2 k k0 k1, i3 k k0 k1, i4 k k0 k1, h10]
    by_cases c : k < A
    · rw [if_pos c, if_pos c, if_pos c]
      have l1 := lo k k0 c
      obtain ⟨r1, r2, r3⟩ := hR k k0 (by omega)
      rw [hl _ (by omega) (by omega), if_pos l1]
      exact ⟨by omega, r2, r3⟩
    · rw [if_neg c, if_neg c, if_neg c]
      have l1 := up' (k + (B - A)) (by omega) (by omega)
      obtain ⟨r1, r2, r3⟩ := hR (k + (B - A)) (by omega) (by omega)
      rw [hl _ (by omega) (by omega), if_neg (by omega), show E (nb + 2) (k + (B - A)) - 1 + 1 = E (nb + 2) (k + (B - A)) by omega]
      exact ⟨by omega, r2, r3⟩
theorem ed_de {E E' : Sto} {p : Int} (hE : EdOK E) (hp : 0 ≤ p ∧ p < E 1 0) (hi : deR E E' p) : EdOK E' := by
  obtain ⟨n1, n2, n3, n4, n5, n6, n7, n8⟩ := hE
  obtain ⟨i1, i2, i3, i4, i5⟩ := hi
  obtain ⟨x1, x2⟩ := nt_de n3 n5 hp i1 i3 (fun q q0 q1 => (i2 q q0 q1).1)
  obtain ⟨y1, y2⟩ := nt_de n4 n6 hp i1 i4 (fun q q0 q1 => (i2 q q0 q1).2.1)
  have m7 := nA_mono2 n3 n5 (show p ≤ p + 1 by omega)
  have m12 := nA_mono2 n4 n6 (show p ≤ p + 1 by omega)
  refine ⟨by omega, fun q q0 q1 => ?_, x1, y1, x2, y2, by rw [i3.1, i4.1]; omega, stk_e n8 i5⟩
  rw [i1] at q1
  obtain ⟨e1, e2, e3, e4⟩ := i2 q q0 q1
  rw [e1, e2, e3, e4]
  by_cases c : q < p
  · simp only [if_pos c]
    exact n2 q q0 (by omega)
  · simp only [if_neg c]
    exact n2 (q + 1) (by omega) (by omega)
theorem nt_c {E E' : Sto} {nb lb : Nat} (h : NtO E nb) (hR : NtR E nb lb) (e1 : E' 1 = E 1) (e0 : E' nb = E nb) (e2 : E' (nb + 2) = E (nb + 2)) (e3 : E' (nb + 3) = E (nb + 3)) (e4 : E' (nb + 4) = E (nb + 4)) (el : ∀ k, 0 ≤ k → k < E nb 0 → E (nb + 3) k < E lb (E (nb + 2) k) → E (nb + 3) k < E' lb (E (nb + 2) k)) : NtO E' nb ∧ NtR E' nb lb := by
  refine ⟨?_, fun k k0 k1 => ?_⟩
  · unfold NtO
    rw [e0, e2, e3]
    exact h
  · rw [e0] at k1
    obtain ⟨r1, r2, r3⟩ := hR k k0 k1
    rw [e1, e2, e3, e4]
    exact ⟨r1, ⟨r2.1, el k k0 k1 r2.2⟩, r3⟩
/-- one row of the pairs changed -/
theorem ed_row {E E' : Sto} {p v : Int} {r : Nat} (hE : EdOK E) (hr : r < 4) (hp : 0 ≤ p ∧ p < E 1 0) (he : ∀ a, 1 ≤ a → a ≤ 17 → a ≠ 3 + r → E' a = E a) (hv : ∀ q, E' (3 + r) q = if q = p then v else E (3 + r) q) (hk : if r < 2 then (1 ≤ v ∧ v ≤ 30) ∧ ¬ nA E (7 + 5 * r) p v < nA E (7 + 5 * r) (p + 1) 0 else (v = 0 ∨ v = 1)) : EdOK E' := by
  obtain ⟨n1, n2, n3, n4, n5, n6, n7, n8⟩ := hE
  have e1 : E' 1 = E 1 := he 1 (by omega) (by omega) (by omega)
  have lin : ∀ nb lb : Nat, (nb = 7 ∧ lb = 3 ∨ nb = 12 ∧ lb = 4) → NtO E nb → NtR E nb lb → NtO E' nb ∧ NtR E' nb lb := by
    intro nb lb hnb o rr
    refine nt_c o rr e1 (he _ (by omega) (by omega) (by omega)) (he _ (by omega) (by omega) (by omega)) (he _ (by omega) (by omega) (by omega)) (he _ (by omega) (by omega) (by omega)) (fun k k0 k1 kl => ?_)
    by_cases c : lb = 3 + r
    · rw [c, hv]
      by_cases c1 : E (nb + 2) k = p
      · rw [if_pos c1]
        have hr2 : r < 2 := by omega
        rw [if_pos hr2] at hk
        have hk := hk.2
        rw [show 7 + 5 * r = nb by omega] at hk
        have b3 := (nA_is o (p + 1) 0).2.2.2
        have a3 := (nA_is o p v).2.2.1
        rcases (show k < nA E nb (p + 1) 0 ∨ nA E nb (p + 1) 0 ≤ k by omega) with q | q
        · have := a3 k k0 (by omega)
          unfold bef at this
          omega
        · have := b3 k q k1
          unfold bef at this
          omega
      · rw [if_neg c1, ← c]
        exact kl
    · rw [he lb (by omega) (by omega) c]
      exact kl
  obtain ⟨x1, x2⟩ := lin 7 3 (Or.inl ⟨rfl, rfl⟩) n3 n5
  obtain ⟨y1, y2⟩ := lin 12 4 (Or.inr ⟨rfl, rfl⟩) n4 n6
  refine ⟨by rw [e1]; exact n1, fun q q0 q1 => ?_, x1, y1, x2, y2, by rw [he 7 (by omega) (by omega) (by omega), he 12 (by omega) (by omega) (by omega)]; exact n7, stk_e n8 (fun j _ _ => by rw [he 17 (by omega) (by omega) (by omega)])⟩
  rw [e1] at q1
  have h2 := n2 q q0 q1
  have g : ∀ w : Nat, w < 4 → E' (3 + w) q = if w = r ∧ q = p then v else E (3 + w) q := by
    intro w hw
    by_cases c : w = r
    · subst c
      rw [hv]
      by_cases c1 : q = p
      · rw [if_pos c1, if_pos ⟨rfl, c1⟩]
      · rw [if_neg c1, if_neg (fun z => c1 z.2)]
    · rw [if_neg (fun z => c z.1), he _ (by omega) (by omega) (by omega)]
  have g0 : E' 3 q = if 0 = r ∧ q = p then v else E 3 q := g 0 (by omega)
  have g1 : E' 4 q = if 1 = r ∧ q = p then v else E 4 q := g 1 (by omega)
  have g2 : E' 5 q = if 2 = r ∧ q = p then v else E 5 q := g 2 (by omega)
  have g3 : E' 6 q = if 3 = r ∧ q = p then v else E 6 q := g 3 (by omega)
  rw [g0, g1, g2, g3]
  by_cases c : r < 2
  · rw [if_pos c] at hk
    have hk := hk.1
    split <;> split <;> split <;> split <;> omega
  · rw [if_neg c] at hk
    split <;> split <;> split <;> split <;> omega
theorem nt_pl {E E' : Sto} {nb lb : Nat} {p x l : Int} (h : NtO E nb) (hR : NtR E nb lb) (h1 : E' 1 = E 1) (hlb : E' lb = E lb) (hp : 0 ≤ p ∧ p < E 1 0) (hx : 0 ≤ x ∧ x < E lb p) (hl : 1 ≤ l ∧ l ≤ 10) (hn : E nb 0 < 40) (hi : plN E E' nb (nA E nb p (x + 1)) p x l) : NtO E' nb ∧ NtR E' nb lb := by
  obtain ⟨a1, a2, a3, a4⟩ := nA_is h p (x + 1)
  obtain ⟨i1, i2, i3, i4⟩ := hi
  obtain ⟨A, hA⟩ : ∃ A, nA E nb p (x + 1) = A := ⟨_, rfl⟩
  rw [hA] at a1 a2 a3 a4 i2 i3 i4
  have hn' := h.1
  unfold bef at a3 a4
  refine ⟨⟨by omega, fun i j i0 ij jn => ?_⟩, fun k k0 k1 => ?_⟩
  · rw [i1] at jn
    rw [i2 i i0 (by omega), i2 j (by omega) (by omega), i3 i i0 (by omega), i3 j (by omega) (by omega)]
    by_cases c : i < A
    · have := a3 i i0 c
      rw [if_pos c, if_pos c]
      by_cases c1 : j < A
      · rw [if_pos c1, if_pos c1]
        exact h.2 i j i0 ij (by omega)
      · rw [if_neg c1, if_neg c1]
        by_cases c2 : j = A
        · rw [if_pos c2, if_pos c2]
          omega
        · rw [if_neg c2, if_neg c2]
          exact h.2 i (j - 1) i0 (by omega) (by omega)
    · rw [if_neg c, if_neg c, if_neg (show ¬ j < A by omega), if_neg (show ¬ j < A by omega), if_neg (show ¬ j = A by omega), if_neg (show ¬ j = A by omega)]
      by_cases c2 : i = A
      · rw [if_pos c2, if_pos c2]
        have := a4 (j - 1) (by omega) (by omega)
        omega
      · rw [if_neg c2, if_neg c2]
        exact h.2 (i - 1) (j - 1) (by omega) (by omega) (by omega)
  · rw [i1] at k1
    rw [i2 k k0 (by omega), i3 k k0 (by omega), i4 k k0 (by omega), h1, hlb]
    by_cases c : k < A
    · simp only [if_pos c]
      exact hR k k0 (by omega)
    · simp only [if_neg c]
      by_cases c1 : k = A
      · simp only [if_pos c1]
        exact ⟨hp, hx, hl⟩
      · simp only [if_neg c1]
        exact hR (k - 1) (by omega) (by omega)
theorem nt_ds {E E' : Sto} {nb lb : Nat} {j : Int} (h : NtO E nb) (hR : NtR E nb lb) (h1 : E' 1 = E 1) (hlb : E' lb = E lb) (hj : 0 ≤ j ∧ j < E nb 0) (hi : dsN E E' nb j (j + 1)) : NtO E' nb ∧ NtR E' nb lb := by
  obtain ⟨i1, i2, i3, i4⟩ := hi
  have hn' := h.1
  refine ⟨⟨by omega, fun i k i0 ik kn => ?_⟩, fun k k0 k1 => ?_⟩
  · rw [i1] at kn
    rw [i2 i i0 (by omega), i2 k (by omega) kn, i3 i i0 (by omega), i3 k (by omega) kn]
    by_cases c : i < j
    · rw [if_pos c, if_pos c]
      by_cases c1 : k < j
      · rw [if_pos c1, if_pos c1]
        exact h.2 i k i0 ik (by omega)
      · rw [if_neg c1, if_neg c1]
        exact h.2 i _ i0 (by omega) (by omega)
    · rw [if_neg c, if_neg c, if_neg (show ¬ k < j by omega), if_neg (show ¬ k < j by omega)]
      exact h.2 _ _ (by omega) (by omega) (by omega)
  · rw [i1] at k1
    rw [i2 k k0 k1, i3 k k0 k1, i4 k k0 k1, h1, hlb]
    by_cases c : k < j
    · simp only [if_pos c]
      exact hR k k0 (by omega)
    · simp only [if_neg c]
      exact hR _ (by omega) (by omega)
/-- a side's notes changed -/
theorem ed_nt {E E' : Sto} {s : Int} (hE : EdOK E) (hs : s = 0 ∨ s = 1) (he : edN E E' (7 + 5 * s.toNat)) (hn : NtO E' (7 + 5 * s.toNat) ∧ NtR E' (7 + 5 * s.toNat) (3 + s.toNat)) (h40 : E' 7 0 + E' 12 0 ≤ 40) : EdOK E' := by
  obtain ⟨n1, n2, n3, n4, n5, n6, n7, n8⟩ := hE
  unfold edN at he
  rcases hs with rfl | rfl
  · rw [show 7 + 5 * (0 : Int).toNat = 7 from rfl, show 3 + (0 : Int).toNat = 3 from rfl] at *
    have e1 : E' 1 = E 1 := he 1 (by omega) (by omega) (by omega) (by omega) (by omega) (by omega)
    obtain ⟨y1, y2⟩ := nt_c n4 n6 e1 (he 12 (by omega) (by omega) (by omega) (by omega) (by omega) (by omega)) (he 14 (by omega) (by omega) (by omega) (by omega) (by omega) (by omega)) (he 15 (by omega) (by omega) (by omega) (by omega) (by omega) (by omega)) (he 16 (by omega) (by omega) (by omega) (by omega) (by omega) (by omega)) (fun k k0 k1 q => by rw [he 4 (by omega) (by omega) (by omega) (by omega) (by omega) (by omega)]; exact q)
    refine ⟨by rw [e1]; exact n1, fun p p0 p1 => ?_, hn.1, y1, hn.2, y2, h40, stk_e n8 (fun j _ _ => by rw [he 17 (by omega) (by omega) (by omega) (by omega) (by omega) (by omega)])⟩
    rw [e1] at p1
    rw [he 3 (by omega) (by omega) (by omega) (by omega) (by omega) (by omega), he 4 (by omega) (by omega) (by omega) (by omega) (by omega) (by omega), he 5 (by omega) (by omega) (by omega) (by omega) (by omega) (by omega), he 6 (by omega) (by omega) (by omega) (by omega) (by omega) (by omega)]
    exact n2 p p0 p1
  · rw [show 7 + 5 * (1 : Int).toNat = 12 from rfl, show 3 + (1 : Int).toNat = 4 from rfl] at *
    have e1 : E' 1 = E 1 := he 1 (by omega) (by omega) (by omega) (by omega) (by omega) (by omega)
    obtain ⟨y1, y2⟩ := nt_c n3 n5 e1 (he 7 (by omega) (by omega) (by omega) (by omega) (by omega) (by omega)) (he 9 (by omega) (by omega) (by omega) (by omega) (by omega) (by omega)) (he 10 (by omega) (by omega) (by omega) (by omega) (by omega) (by omega)) (he 11 (by omega) (by omega) (by omega) (by omega) (by omega) (by omega)) (fun k k0 k1 q => by rw [he 3 (by omega) (by omega) (by omega) (by omega) (by omega) (by omega)]; exact q)
    refine ⟨by rw [e1]; exact n1, fun p p0 p1 => ?_, y1, hn.1, y2, hn.2, h40, stk_e n8 (fun j _ _ => by rw [he 17 (by omega) (by omega) (by omega) (by omega) (by omega) (by omega)])⟩
    rw [e1] at p1
    rw [he 3 (by omega) (by omega) (by omega) (by omega) (by omega) (by omega), he 4 (by omega) (by omega) (by omega) (by omega) (by omega) (by omega), he 5 (by omega) (by omega) (by omega) (by omega) (by omega) (by omega), he 6 (by omega) (by omega) (by omega) (by omega) (by omega) (by omega)]
    exact n2 p p0 p1
theorem ed_pl {E E' : Sto} {p s x l : Int} (hE : EdOK E) (hl : isL E p s x) (hn : 1 ≤ l ∧ l ≤ 10) (h40 : E 7 0 + E 12 0 < 40) (he : edN E E' (7 + 5 * s.toNat)) (hi : plN E E' (7 + 5 * s.toNat) (nA E (7 + 5 * s.toNat) p (x + 1)) p x l) : EdOK E' := by
  have hs : s = 0 ∨ s = 1 := by have := hl.2; omega
  have n7 := hE.2.2.1.1
  have n12 := hE.2.2.2.1.1
  have z := hl.2
  have hi0 := hi.1
  rcases hs with rfl | rfl
  · refine ed_nt hE (Or.inl rfl) he (nt_pl hE.2.2.1 hE.2.2.2.2.1 (he 1 (by omega) (by omega) (by omega) (by omega) (by omega) (by omega)) (he 3 (by omega) (by omega) (by omega) (by omega) (by omega) (by omega)) hl.1 (show 0 ≤ x ∧ x < E 3 p by omega) hn (show E 7 0 < 40 by omega) hi) ?_
    rw [show 7 + 5 * (0 : Int).toNat = 7 from rfl] at hi0 he
    rw [hi0, he 12 (by omega) (by omega) (by omega) (by omega) (by omega) (by omega)]
    omega
  · refine ed_nt hE (Or.inr rfl) he (nt_pl hE.2.2.2.1 hE.2.2.2.2.2.1 (he 1 (by omega) (by omega) (by omega) (by omega) (by omega) (by omega)) (he 4 (by omega) (by omega) (by omega) (by omega) (by omega) (by omega)) hl.1 (show 0 ≤ x ∧ x < E 4 p by omega) hn (show E 12 0 < 40 by omega) hi) ?_
    rw [show 7 + 5 * (1 : Int).toNat = 12 from rfl] at hi0 he
    rw [hi0, he 7 (by omega) (by omega) (by omega) (by omega) (by omega) (by omega)]
    omega
theorem ed_ds {E E' : Sto} {s k : Int} (hE : EdOK E) (hs : s = 0 ∨ s = 1) (hk : 0 ≤ k ∧ k < E (7 + 5 * s.toNat) 0) (he : edN E E' (7 + 5 * s.toNat)) (hi : dsN E E' (7 + 5 * s.toNat) k (k + 1)) : EdOK E' := by
  have n7 := hE.2.2.1.1
  have n12 := hE.2.2.2.1.1
  have h40 := hE.2.2.2.2.2.2.1
  have hi0 := hi.1
  rcases hs with rfl | rfl
  · refine ed_nt hE (Or.inl rfl) he (nt_ds hE.2.2.1 hE.2.2.2.2.1 (he 1 (by omega) (by omega) (by omega) (by omega) (by omega) (by omega)) (he 3 (by omega) (by omega) (by omega) (by omega) (by omega) (by omega)) hk hi) ?_
    rw [show 7 + 5 * (0 : Int).toNat = 7 from rfl] at hi0 he
    rw [hi0, he 12 (by omega) (by omega) (by omega) (by omega) (by omega) (by omega)]
    omega
  · refine ed_nt hE (Or.inr rfl) he (nt_ds hE.2.2.2.1 hE.2.2.2.2.2.1 (he 1 (by omega) (by omega) (by omega) (by omega) (by omega) (by omega)) (he 4 (by omega) (by omega) (by omega) (by omega) (by omega) (by omega)) hk hi) ?_
    rw [show 7 + 5 * (1 : Int).toNat = 12 from rfl] at hi0 he
    rw [hi0, he 7 (by omega) (by omega) (by omega) (by omega) (by omega) (by omega)]
    omega
