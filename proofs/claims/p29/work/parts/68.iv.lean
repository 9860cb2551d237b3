/-! ===== what holds of the object between calls ===== -/
theorem ed_q {E E' : Sto} (hE : EdOK E) (he : ∀ a, 1 ≤ a → a ≤ 16 → E' a = E a) (hK : StK E') : EdOK E' := by
  obtain ⟨n1, n2, n3, n4, n5, n6, n7, n8⟩ := hE
  have e1 := he 1 (by omega) (by omega)
  obtain ⟨x1, x2⟩ := nt_c n3 n5 e1 (he 7 (by omega) (by omega)) (he 9 (by omega) (by omega)) (he 10 (by omega) (by omega)) (he 11 (by omega) (by omega)) (fun k k0 k1 q => by rw [he 3 (by omega) (by omega)]; exact q)
  obtain ⟨y1, y2⟩ := nt_c n4 n6 e1 (he 12 (by omega) (by omega)) (he 14 (by omega) (by omega)) (he 15 (by omega) (by omega)) (he 16 (by omega) (by omega)) (fun k k0 k1 q => by rw [he 4 (by omega) (by omega)]; exact q)
  refine ⟨by rw [e1]; exact n1, fun p p0 p1 => ?_, x1, y1, x2, y2, by rw [he 7 (by omega) (by omega), he 12 (by omega) (by omega)]; exact n7, hK⟩
  rw [e1] at p1
  rw [he 3 (by omega) (by omega), he 4 (by omega) (by omega), he 5 (by omega) (by omega), he 6 (by omega) (by omega)]
  exact n2 p p0 p1
theorem ed_set {E E' : Sto} {w v : Int} (hE : EdOK E) (hw : 0 ≤ w ∧ w ≤ 5) (hv : st_v 1 w ≤ v ∧ v ≤ st_v 2 w) (he : ∀ a, 1 ≤ a → a ≤ 16 → E' a = E a) (h17 : ∀ j, E' 17 j = if j = w then v else E 17 j) : EdOK E' := by
  have hK := hE.2.2.2.2.2.2.2
  have s0 : st_v 1 0 = 8 ∧ st_v 1 1 = 0 ∧ st_v 1 2 = 0 ∧ st_v 1 3 = 1 ∧ st_v 1 4 = 0 ∧ st_v 1 5 = 0 := ⟨rfl, rfl, rfl, rfl, rfl, rfl⟩
  have s1 : st_v 2 0 = 60 ∧ st_v 2 1 = 3 ∧ st_v 2 2 = 2 ∧ st_v 2 3 = 4 ∧ st_v 2 4 = 5 ∧ st_v 2 5 = 1 := ⟨rfl, rfl, rfl, rfl, rfl, rfl⟩
  refine ed_q hE he ?_
  unfold StK at hK ⊢
  rw [h17 0, h17 1, h17 2, h17 3, h17 4, h17 5]
  rcases (show w = 0 ∨ w = 1 ∨ w = 2 ∨ w = 3 ∨ w = 4 ∨ w = 5 by omega) with e | e | e | e | e | e <;> subst e <;> simp only [Int.reduceEq, if_true, if_false] <;> omega
def vw (σ : Sto) (b : Nat) : Sto := fun a => σ (b + a)
def EdE (E E' : Sto) : Prop := E' 1 0 = E 1 0 ∧ (∀ i j, 3 ≤ i → i ≤ 6 → 0 ≤ j → j < 20 → E' i j = E i j) ∧ (E' 7 0 = E 7 0 ∧ E' 12 0 = E 12 0) ∧ (∀ i j, (9 ≤ i ∧ i ≤ 11 ∨ 14 ≤ i ∧ i ≤ 16) → 0 ≤ j → j < 40 → E' i j = E i j) ∧ ∀ j, 0 ≤ j → j < 6 → E' 17 j = E 17 j
theorem nt_e {E E' : Sto} {nb lb : Nat} (h : NtO E nb) (hR : NtR E nb lb) (e1 : E' 1 0 = E 1 0) (hn : 0 ≤ E 1 0 ∧ E 1 0 ≤ 20) (e0 : E' nb 0 = E nb 0) (el : ∀ j, 0 ≤ j → j < 20 → E' lb j = E lb j) (e2 : ∀ i j, nb + 2 ≤ i → i ≤ nb + 4 → 0 ≤ j → j < 40 → E' i j = E i j) : NtO E' nb ∧ NtR E' nb lb := by
  have hn' := h.1
  refine ⟨⟨by rw [e0]; exact hn', fun i j i0 ij jn => ?_⟩, fun k k0 k1 => ?_⟩
  · rw [e0] at jn
    rw [e2 _ i (by omega) (by omega) i0 (by omega), e2 _ j (by omega) (by omega) (by omega) (by omega), e2 (nb + 3) i (by omega) (by omega) i0 (by omega), e2 (nb + 3) j (by omega) (by omega) (by omega) (by omega)]
    exact h.2 i j i0 ij jn
  · rw [e0] at k1
    have r := hR k k0 k1
    rw [e2 _ k (by omega) (by omega) k0 (by omega), e2 (nb + 3) k (by omega) (by omega) k0 (by omega), e2 (nb + 4) k (by omega) (by omega) k0 (by omega), e1, el _ r.1.1 (by omega)]
    exact r
theorem ed_e {E E' : Sto} (hE : EdOK E) (h : EdE E E') : EdOK E' := by
  obtain ⟨n1, n2, n3, n4, n5, n6, n7, n8⟩ := hE
  obtain ⟨e1, e2, e3, e4, e5⟩ := h
  obtain ⟨x1, x2⟩ := nt_e n3 n5 e1 n1 e3.1 (fun j j0 j1 => e2 3 j (by omega) (by omega) j0 j1) (fun i j i0 i1 j0 j1 => e4 i j (by omega) j0 j1)
  obtain ⟨y1, y2⟩ := nt_e n4 n6 e1 n1 e3.2 (fun j j0 j1 => e2 4 j (by omega) (by omega) j0 j1) (fun i j i0 i1 j0 j1 => e4 i j (by omega) j0 j1)
  refine ⟨by rw [e1]; exact n1, fun p p0 p1 => ?_, x1, y1, x2, y2, by rw [e3.1, e3.2]; exact n7, stk_e n8 e5⟩
  rw [e1] at p1
  rw [e2 3 p (by omega) (by omega) p0 (by omega), e2 4 p (by omega) (by omega) p0 (by omega), e2 5 p (by omega) (by omega) p0 (by omega), e2 6 p (by omega) (by omega) p0 (by omega)]
  exact n2 p p0 p1
/-- the place of a recorded edition -/
def hb (σ : Sto) (i : Int) : Nat := 19 + 17 * ((σ 18 1 - σ 18 0 + i) % 6).toNat
def Hs (σ : Sto) : Prop := ∀ i : Int, 0 ≤ i → i < σ 18 0 → EdOK (vw σ (hb σ i))
def Iw (V σ : Sto) : Prop := RI V σ ∧ HiOK σ ∧ DI V σ ∧ Hs σ
def Iv (σ : Sto) : Prop := ∃ V, Iw V σ
theorem hs_c {σ σ' : Sto} (h : Hs σ) (e1 : ∀ a, 18 ≤ a → a ≤ 121 → σ' a = σ a) : Hs σ' := by
  have e18 := e1 18 (by omega) (by omega)
  intro i i0 i1
  rw [e18] at i1
  have a1 := h i i0 i1
  have hbe : hb σ' i = hb σ i := by unfold hb; rw [e18]
  have eq : ∀ a, 1 ≤ a → a ≤ 17 → vw σ' (hb σ i) a = vw σ (hb σ i) a := fun a a0 a1 => e1 (hb σ i + a) (by unfold hb; omega) (by unfold hb; omega)
  rw [hbe]
  exact ed_q a1 (fun a a0 a1 => eq a a0 (by omega)) (stk_e a1.2.2.2.2.2.2.2 (fun j _ _ => by rw [eq 17 (by omega) (by omega)]))
theorem hs_op {σ σ1 : Sto} (hE : EdOK σ) (hH : HiOK σ) (h : Hs σ) (ho : opR σ σ1) : Hs σ1 := by
  obtain ⟨o1, -, -, c1, c2, c3, c4⟩ := ho
  obtain ⟨⟨b1, b2⟩, b3, b4⟩ := hH
  intro i i0 i1
  rw [c2] at i1
  by_cases c : i = min (σ 18 0 + 1) 6 - 1
  · have hbe : hb σ1 i = 19 + 17 * (σ 18 1).toNat := by
      unfold hb
      rw [c2, c1, c]
      split <;> omega
    rw [hbe]
    refine ed_e hE ?_
    obtain ⟨k1, k2, k3, k4, k5⟩ := c4
    simp only [Nat.zero_add] at k1 k2 k3 k4 k5
    exact ⟨k1, fun i j i0 i1 j0 j1 => k2 i j i0 i1 j0 j1, ⟨k3.1, k3.2⟩, fun i j i0 j0 j1 => k4 i j i0 j0 j1, fun j j0 j1 => k5 j j0 j1⟩
  · have go : ∀ i' : Int, 0 ≤ i' → i' < σ 18 0 → hb σ1 i = hb σ i' → hb σ i' ≠ 19 + 17 * (σ 18 1).toNat → EdOK (vw σ1 (hb σ1 i)) := by
      intro i' g0 g1 ge gn
      have a1 := h i' g0 g1
      have eq : ∀ a, 1 ≤ a → a ≤ 17 → vw σ1 (hb σ i') a = vw σ (hb σ i') a := fun a a0 a1 => by
        show σ1 (hb σ i' + a) = σ (hb σ i' + a)
        have l : 19 ≤ hb σ i' ∧ hb σ i' ≤ 104 := by unfold hb; omega
        refine c3 _ (by omega) (by omega) ?_
        unfold hb at gn l ⊢
        omega
      rw [ge]
      exact ed_q a1 (fun a a0 a1 => eq a a0 (by omega)) (stk_e a1.2.2.2.2.2.2.2 (fun j _ _ => by rw [eq 17 (by omega) (by omega)]))
    by_cases c6 : σ 18 0 = 6
    · refine go (i + 1) (by omega) (by omega) ?_ ?_
      · unfold hb
        rw [c2, c1]
        split <;> omega
      · unfold hb
        omega
    · refine go i i0 (by omega) ?_ ?_
      · unfold hb
        rw [c2, c1]
        split <;> omega
      · unfold hb
        omega
theorem iv_ed {σ V : Sto} (h : RI V σ) : EdOK σ := (veq_ed h.2.1 h.1).1
theorem iw_op {V σ σ1 : Sto} (hI : Iw V σ) (o : opR σ σ1) (hE : EdOK σ1) : Iw σ1 σ1 := by
  obtain ⟨i1, i2, i3, i4⟩ := hI
  have hs := hs_op (iv_ed i1) i2 i4 o
  obtain ⟨o1, o2, o3, c1, c2, -⟩ := o
  refine ⟨⟨fun a a0 a1 => rfl, hE, by rw [o1 123 (by omega) (by omega)]; exact i1.2.2.1, fun q => absurd o2 q⟩, ?_, ⟨Or.inl o3, fun q => absurd q (by rw [o3]; omega)⟩, hs⟩
  obtain ⟨⟨b1, b2⟩, b3, b4⟩ := i2
  unfold HiOK
  rw [c1, c2]
  refine ⟨by omega, ?_⟩
  split <;> omega
theorem iw_rd {V σ σ1 : Sto} (hI : Iw V σ) (hr : RdR V σ σ1) : Iw V σ1 := by
  obtain ⟨i1, i2, i3, i4⟩ := hI
  obtain ⟨r1, r2⟩ := hr
  refine ⟨r2, ?_, ?_, hs_c i4 (fun a a0 a1 => r1 a (by omega))⟩
  · unfold HiOK
    rw [r1 18 (by omega)]
    exact i2
  · unfold DI DivC zC at i3 ⊢
    rw [r1 164 (by omega), r1 165 (by omega), r1 166 (by omega), r1 167 (by omega)]
    exact i3
theorem iw_dv {V σ σ1 : Sto} (hI : Iw V σ) (hr : DvF σ σ1) (s1 : σ1 164 0 = 1) (hD : DivC V σ1) : Iw V σ1 := by
  obtain ⟨i1, i2, i3, i4⟩ := hI
  refine ⟨⟨fun a a0 a1 => by rw [hr a (by omega)]; exact i1.1 a a0 a1, i1.2.1, by rw [hr 123 (by omega)]; exact i1.2.2.1, fun q => ?_⟩, ?_, ⟨Or.inr s1, fun _ => hD⟩, hs_c i4 (fun a a0 a1 => hr a (by omega))⟩
  · rw [hr 122 (by omega)] at q ⊢
    exact ⟨(i1.2.2.2 q).1, ct_c (i1.2.2.2 q).2 (fun a a0 a1 => hr a (by omega))⟩
  · unfold HiOK
    rw [hr 18 (by omega)]
    exact i2
theorem iw_un {V σ σ1 : Sto} (hI : Iw V σ) (h0 : 0 < σ 18 0) (c1 : ∀ a, 18 < a → a ≠ 122 → a ≠ 164 → σ1 a = σ a) (c2 : σ1 122 0 = 0) (c3 : σ1 164 0 = 0) (c4 : σ1 18 0 = σ 18 0 - 1) (c5 : σ1 18 1 = (if 0 < σ 18 1 then σ 18 1 - 1 else 5)) (c6 : ecV σ σ1 (19 + 17 * (if 0 < σ 18 1 then σ 18 1 - 1 else 5).toNat) 0) : Iw σ1 σ1 := by
  obtain ⟨i1, i2, i3, i4⟩ := hI
  obtain ⟨⟨b1, b2⟩, b3, b4⟩ := i2
  have a1 := i4 (σ 18 0 - 1) (by omega) (by omega)
  have hbe : hb σ (σ 18 0 - 1) = 19 + 17 * (if 0 < σ 18 1 then σ 18 1 - 1 else 5).toNat := by
    unfold hb
    split <;> omega
  rw [hbe] at a1
  have eE : EdE (vw σ (19 + 17 * (if 0 < σ 18 1 then σ 18 1 - 1 else 5).toNat)) σ1 := by
    obtain ⟨k1, k2, k3, k4, k5⟩ := c6
    simp only [Nat.zero_add] at k1 k2 k3 k4 k5
    exact ⟨k1, fun i j i0 i1 j0 j1 => k2 i j i0 i1 j0 j1, ⟨k3.1, k3.2⟩, fun i j i0 j0 j1 => k4 i j i0 j0 j1, fun j j0 j1 => k5 j j0 j1⟩
  have hE := ed_e a1 eE
  refine ⟨⟨fun _ _ _ => rfl, hE, by rw [c1 123 (by omega) (by omega) (by omega)]; exact i1.2.2.1, fun q => absurd c2 q⟩, ?_, ⟨Or.inl c3, fun q => absurd q (by rw [c3]; omega)⟩, fun i i0 i1 => ?_⟩
  · unfold HiOK
    rw [c4, c5]
    refine ⟨by omega, ?_⟩
    split <;> omega
  · rw [c4] at i1
    have g1 := i4 i i0 (by omega)
    have he : hb σ1 i = hb σ i := by
      unfold hb
      rw [c4, c5]
      split <;> omega
    have eq : ∀ a, 1 ≤ a → a ≤ 17 → vw σ1 (hb σ i) a = vw σ (hb σ i) a := fun a x0 x1 => by
      have l : 19 ≤ hb σ i ∧ hb σ i ≤ 104 := by unfold hb; omega
      exact c1 _ (by omega) (by omega) (by omega)
    rw [he]
    exact ed_q g1 (fun a x0 x1 => eq a x0 (by omega)) (stk_e g1.2.2.2.2.2.2.2 (fun j _ _ => by rw [eq 17 (by omega) (by omega)]))
