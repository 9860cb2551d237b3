/-! ===== the class and the check, side by side ===== -/
theorem ed_q {E E' : Sto} (hE : EdOK E) (he : ∀ a, 1 ≤ a → a ≤ 16 → E' a = E a) (hK : StK E') : EdOK E' := by
  obtain ⟨n1, n2, n3, n4, n5, n6, n7, n8⟩ := hE
  have e1 := he 1 (by omega) (by omega)
  obtain ⟨x1, x2⟩ := nt_c n3 n5 e1 (he 7 (by omega) (by omega)) (he 9 (by omega) (by omega)) (he 10 (by omega) (by omega)) (he 11 (by omega) (by omega)) (fun k k0 k1 q => by rw [he 3 (by omega) (by omega)]; exact q)
  obtain ⟨y1, y2⟩ := nt_c n4 n6 e1 (he 12 (by omega) (by omega)) (he 14 (by omega) (by omega)) (he 15 (by omega) (by omega)) (he 16 (by omega) (by omega)) (fun k k0 k1 q => by rw [he 4 (by omega) (by omega)]; exact q)
  refine ⟨by rw [e1]; exact n1, fun p p0 p1 => ?_, x1, y1, x2, y2, by rw [he 7 (by omega) (by omega), he 12 (by omega) (by omega)]; exact n7, hK⟩
  rw [e1] at p1
  rw [he 3 (by omega) (by omega), he 4 (by omega) (by omega), he 5 (by omega) (by omega), he 6 (by omega) (by omega)]
  exact n2 p p0 p1
theorem ed_set {E E' : Sto} {w v : Int} (hE : EdOK E) (hw : 0 ≤ w ∧ w ≤ 5) (hv : st_v 1 w ≤ v ∧ v ≤ st_v 2 w) (he : ∀ a, 1 ≤ a → a ≤ 16 → E' a = E a) (h17 : ∀ j, E' 17 j = if j = w then v else E 17 j) : EdOK E' := by
  have hK := hE.2.2.2.2.2.2.2
  have s0 : st_v 1 0 = 8 ∧ st_v 1 1 = 0 ∧ st_v 1 2 = 0 ∧ st_v 1 3 = 1 ∧ st_v 1 4 = 0 ∧ st_v 1 5 = 0 := ⟨rfl, rfl, rfl, rfl, rfl, rfl⟩
  have s1 : st_v 2 0 = 60 ∧ st_v 2 1 = 3 ∧ st_v 2 2 = 2 ∧ st_v 2 3 = 4 ∧ st_v 2 4 = 5 ∧ st_v 2 5 = 1 := ⟨rfl, rfl, rfl, rfl, rfl, rfl⟩
  refine ed_q hE he ?_
  unfold StK at hK ⊢
  rw [h17 0, h17 1, h17 2, h17 3, h17 4, h17 5]
  rcases (show w = 0 ∨ w = 1 ∨ w = 2 ∨ w = 3 ∨ w = 4 ∨ w = 5 by omega) with e | e | e | e | e | e <;> subst e <;> simp only [Int.reduceEq, if_true, if_false] <;> omega
theorem md_v {V V' : Sto} {h : Int} {dv : Int → Int} (hM : MDh V h dv) (e : ∀ a, 1 ≤ a → a ≤ 17 → V' a = V a) : MDh V' h dv := by
  obtain ⟨m1, m2, m3, m4, m5⟩ := hM
  refine ⟨by rw [e 1 (by omega) (by omega)]; exact m1, fun r p r0 r1 p0 p1 => by rw [e (3 + r.toNat) (by omega) (by omega)]; rw [e 1 (by omega) (by omega)] at p1; exact m2 r p r0 r1 p0 p1, ⟨m3.1, fun j j0 j1 => by rw [e 17 (by omega) (by omega)]; exact m3.2 j j0 j1⟩, fun s hs => ?_, m5⟩
  have hb : 7 ≤ nbS s ∧ nbS s + 4 ≤ 17 := by rcases hs with rfl | rfl <;> decide
  rw [e _ (by omega) (by omega), e (nbS s + 2) (by omega) (by omega), e (nbS s + 3) (by omega) (by omega), e (nbS s + 4) (by omega) (by omega)]
  exact m4 s hs
/-- an edition as another -/
def vw (σ : Sto) (b : Nat) : Sto := fun a => σ (b + a)
def EdE (E E' : Sto) : Prop := E' 1 0 = E 1 0 ∧ (∀ i j, 3 ≤ i → i ≤ 6 → 0 ≤ j → j < 20 → E' i j = E i j) ∧ (E' 7 0 = E 7 0 ∧ E' 12 0 = E 12 0) ∧ (∀ i j, (9 ≤ i ∧ i ≤ 11 ∨ 14 ≤ i ∧ i ≤ 16) → 0 ≤ j → j < 40 → E' i j = E i j) ∧ ∀ j, 0 ≤ j → j < 6 → E' 17 j = E 17 j
theorem nt_e {E E' : Sto} {nb lb : Nat} (h : NtO E nb) (hR : NtR E nb lb) (e1 : E' 1 0 = E 1 0) (hn : 0 ≤ E 1 0 ∧ E 1 0 ≤ 20) (e0 : E' nb 0 = E nb 0) (el : ∀ j, 0 ≤ j → j < 20 → E' lb j = E lb j) (e2 : ∀ i j, nb + 2 ≤ i → i ≤ nb + 4 → 0 ≤ j → j < 40 → E' i j = E i j) : NtO E' nb ∧ NtR E' nb lb := by
  have hn' := h.1
  refine ⟨⟨by rw [e0]; exact hn', fun i j i0 ij jn => ?_⟩, fun k k0 k1 => ?_⟩
  · rw [e0] at jn
    rw [e2 _ i (by omega) (by omega) i0 (by omega), e2 _ j (by omega) (by omega) (by omega) (by omega), e2 (nb + 3) i (by omega) (by omega) i0 (by omega), e2 (nb + 3) j (by omega) (by omega) (by omega) (by omega)]
    exact h.2 i j i0 ij jn
  · rw [e0] at k1
    have r := hR k k0 k1
    rw [e2 _ k (by omega) (by omega) k0 (by omega), e2 (nb + 3) k (by omega) (by omega) k0 (by omega), e2 (nb + 4) k (by omega) (by omega) k0 (by omega), e1, el _ r.1.1 (by omega)]
    exact r
theorem ed_e {E E' : Sto} (hE : EdOK E) (h : EdE E E') : EdOK E' := by
  obtain ⟨n1, n2, n3, n4, n5, n6, n7, n8⟩ := hE
  obtain ⟨e1, e2, e3, e4, e5⟩ := h
  obtain ⟨x1, x2⟩ := nt_e n3 n5 e1 n1 e3.1 (fun j j0 j1 => e2 3 j (by omega) (by omega) j0 j1) (fun i j i0 i1 j0 j1 => e4 i j (by omega) j0 j1)
  obtain ⟨y1, y2⟩ := nt_e n4 n6 e1 n1 e3.2 (fun j j0 j1 => e2 4 j (by omega) (by omega) j0 j1) (fun i j i0 i1 j0 j1 => e4 i j (by omega) j0 j1)
  refine ⟨by rw [e1]; exact n1, fun p p0 p1 => ?_, x1, y1, x2, y2, by rw [e3.1, e3.2]; exact n7, stk_e n8 e5⟩
  rw [e1] at p1
  rw [e2 3 p (by omega) (by omega) p0 (by omega), e2 4 p (by omega) (by omega) p0 (by omega), e2 5 p (by omega) (by omega) p0 (by omega), e2 6 p (by omega) (by omega) p0 (by omega)]
  exact n2 p p0 p1
theorem md_e {E E' : Sto} {h : Int} {dv : Int → Int} (hE : EdOK E) (hM : MDh E h dv) (he : EdE E E') : MDh E' h dv := by
  obtain ⟨m1, m2, m3, m4, m5⟩ := hM
  obtain ⟨e1, e2, e3, e4, e5⟩ := he
  have hn := hE.1
  have n7 := hE.2.2.1.1
  have n12 := hE.2.2.2.1.1
  refine ⟨by rw [e1]; exact m1, fun r p r0 r1 p0 p1 => by rw [e1] at p1; rw [e2 (3 + r.toNat) p (by omega) (by omega) p0 (by omega)]; exact m2 r p r0 r1 p0 p1, ⟨m3.1, fun j j0 j1 => by rw [e5 j (by omega) (by omega)]; exact m3.2 j j0 j1⟩, fun s hs => ?_, m5⟩
  have m4 := m4 s hs
  have f : E' (nbS s) 0 = E (nbS s) 0 ∧ E (nbS s) 0 ≤ 40 ∧ (nbS s = 7 ∨ nbS s = 12) := by
    rcases hs with rfl | rfl
    · exact ⟨e3.1, n7.2, Or.inl rfl⟩
    · exact ⟨e3.2, n12.2, Or.inr rfl⟩
  refine ⟨by rw [f.1]; exact m4.1, fun k k0 k1 => ?_⟩
  rw [f.1] at k1
  rw [e4 _ k (by omega) k0 (by omega), e4 (nbS s + 3) k (by omega) k0 (by omega), e4 (nbS s + 4) k (by omega) k0 (by omega)]
  exact m4.2 k k0 k1
theorem md_d {V : Sto} {h : Int} {d d' : Int → Int} (hM : MDh V h d) (hV : EdOK V) (e : ∀ j, 0 ≤ j → j < 329 → d' j = d j) : MDh V h d' := by
  obtain ⟨m1, m2, m3, m4, m5⟩ := hM
  have hn := hV.1
  refine ⟨by rw [e _ (by omega) (by omega)]; exact m1, fun r p r0 r1 p0 p1 => by rw [e _ (by omega) (by omega)]; exact m2 r p r0 r1 p0 p1, ⟨by rw [e _ (by omega) (by omega)]; exact m3.1, fun j j0 j1 => by rw [e _ (by omega) (by omega)]; exact m3.2 j j0 j1⟩, fun s hs => ?_, fun j j0 j1 => by rw [e j j0 j1]; exact m5 j j0 j1⟩
  have n40 : V (nbS s) 0 ≤ 40 := (nbO hV hs).1.1.2
  refine ⟨by rw [e _ (by omega) (by omega)]; exact (m4 s hs).1, fun k k0 k1 => ?_⟩
  rw [e _ (by omega) (by omega), e _ (by omega) (by omega), e _ (by omega) (by omega)]
  exact (m4 s hs).2 k k0 k1
/-- the place of a recorded edition -/
def hb (σ : Sto) (i : Int) : Nat := 19 + 17 * ((σ 18 1 - σ 18 0 + i) % 6).toNat
def Hs (σ : Sto) : Prop := σ 179 2 = σ 18 0 ∧ ∀ i : Int, 0 ≤ i → i < σ 18 0 → EdOK (vw σ (hb σ i)) ∧ MDh (vw σ (hb σ i)) (vw σ (hb σ i) 17 0) (fun j => σ 181 (329 * i + j))
def Iv (σ : Sto) : Prop := ∃ V, RI V σ ∧ HiOK σ ∧ DI V σ ∧ MR V σ ∧ (∀ j, 0 ≤ j → j ≤ 5 → σ 182 j = st_v 1 j ∧ σ 183 j = st_v 2 j) ∧ Hs σ
theorem hs_c {σ σ' : Sto} (h : Hs σ) (e1 : ∀ a, 18 ≤ a → a ≤ 121 → σ' a = σ a) (e2 : σ' 179 2 = σ 179 2) (e3 : σ' 181 = σ 181) : Hs σ' := by
  obtain ⟨h1, h2⟩ := h
  have e18 := e1 18 (by omega) (by omega)
  refine ⟨by rw [e2, e18]; exact h1, fun i i0 i1 => ?_⟩
  rw [e18] at i1
  obtain ⟨a1, a2⟩ := h2 i i0 i1
  have hbe : hb σ' i = hb σ i := by unfold hb; rw [e18]
  have eq : ∀ a, 1 ≤ a → a ≤ 17 → vw σ' (hb σ i) a = vw σ (hb σ i) a := fun a a0 a1 => e1 (hb σ i + a) (by unfold hb; omega) (by unfold hb; omega)
  rw [hbe, e3]
  refine ⟨ed_q a1 (fun a a0 a1 => eq a a0 (by omega)) (stk_e a1.2.2.2.2.2.2.2 (fun j _ _ => by rw [eq 17 (by omega) (by omega)])), ?_⟩
  rw [eq 17 (by omega) (by omega)]
  exact md_v a2 eq
theorem hs_op {σ σ1 σ2 : Sto} (hE : EdOK σ) (hM : MR σ σ) (hH : HiOK σ) (h : Hs σ) (ho : opR σ σ1) (hc : ChM σ1 σ2) : Hs σ2 := by
  obtain ⟨h1, h2⟩ := h
  obtain ⟨o1, -, -, c1, c2, c3, c4⟩ := ho
  obtain ⟨d1, -, d3, d4, d5, d6⟩ := hc
  have x1 := o1 179 (by omega) (by omega)
  have x2 := o1 180 (by omega) (by omega)
  have x3 := o1 181 (by omega) (by omega)
  rw [x1] at d3 d4 d5 d6
  rw [x3] at d4 d5
  rw [x2] at d6
  have y := d1 18 (by omega) (by omega) (by omega)
  obtain ⟨⟨b1, b2⟩, b3, b4⟩ := hH
  have n0 : σ2 18 0 = min (σ 18 0 + 1) 6 := by rw [y]; exact c2
  have n1 : σ2 18 1 = if σ 18 1 + 1 < 6 then σ 18 1 + 1 else 0 := by rw [y]; exact c1
  refine ⟨by rw [d3, n0, h1], fun i i0 i1 => ?_⟩
  rw [n0] at i1
  rw [h1] at d4 d5 d6
  -- the newest
  by_cases c : i = min (σ 18 0 + 1) 6 - 1
  · have hbe : hb σ2 i = 19 + 17 * (σ 18 1).toNat := by
      unfold hb
      rw [n0, n1, c]
      split <;> omega
    have eE : EdE σ (vw σ2 (hb σ2 i)) := by
      rw [hbe]
      have e : ∀ a, 1 ≤ a → a ≤ 17 → σ2 (19 + 17 * (σ 18 1).toNat + a) = σ1 (19 + 17 * (σ 18 1).toNat + a) := fun a _ _ => d1 _ (by omega) (by omega) (by omega)
      obtain ⟨k1, k2, k3, k4, k5⟩ := c4
      simp only [Nat.zero_add] at k1 k2 k3 k4 k5
      refine ⟨?_, fun i j i0 i1 j0 j1 => ?_, ⟨?_, ?_⟩, fun i j i0 j0 j1 => ?_, fun j j0 j1 => ?_⟩
      · show σ2 (19 + 17 * (σ 18 1).toNat + 1) 0 = _
        rw [e 1 (by omega) (by omega)]; exact k1
      · show σ2 (19 + 17 * (σ 18 1).toNat + i) j = _
        rw [e i (by omega) (by omega)]; exact k2 i j i0 i1 j0 j1
      · show σ2 (19 + 17 * (σ 18 1).toNat + 7) 0 = _
        rw [e 7 (by omega) (by omega)]; exact k3.1
      · show σ2 (19 + 17 * (σ 18 1).toNat + 12) 0 = _
        rw [e 12 (by omega) (by omega)]; exact k3.2
      · show σ2 (19 + 17 * (σ 18 1).toNat + i) j = _
        rw [e i (by omega) (by omega)]; exact k4 i j i0 j0 j1
      · show σ2 (19 + 17 * (σ 18 1).toNat + 17) j = _
        rw [e 17 (by omega) (by omega)]; exact k5 j j0 j1
    refine ⟨ed_e hE eE, ?_⟩
    rw [eE.2.2.2.2 0 (by omega) (by omega)]
    refine md_d (md_e hE hM eE) (ed_e hE eE) (fun j j0 j1 => ?_)
    show σ2 181 (329 * i + j) = _
    rw [c]
    exact d6 j j0 j1
  · -- the others
    have go : ∀ i' : Int, 0 ≤ i' → i' < σ 18 0 → hb σ2 i = hb σ i' → hb σ i' ≠ 19 + 17 * (σ 18 1).toNat → (∀ j, 0 ≤ j → j < 329 → σ2 181 (329 * i + j) = σ 181 (329 * i' + j)) → EdOK (vw σ2 (hb σ2 i)) ∧ MDh (vw σ2 (hb σ2 i)) (vw σ2 (hb σ2 i) 17 0) (fun j => σ2 181 (329 * i + j)) := by
      intro i' g0 g1 ge gn gd
      obtain ⟨a1, a2⟩ := h2 i' g0 g1
      have eq : ∀ a, 1 ≤ a → a ≤ 17 → vw σ2 (hb σ i') a = vw σ (hb σ i') a := fun a a0 a1 => by
        show σ2 (hb σ i' + a) = σ (hb σ i' + a)
        have l : 19 ≤ hb σ i' ∧ hb σ i' ≤ 104 := by unfold hb; omega
        rw [d1 _ (by omega) (by omega) (by omega)]
        refine c3 _ (by omega) (by omega) ?_
        unfold hb at gn l ⊢
        omega
      rw [ge]
      have ek : EdOK (vw σ2 (hb σ i')) := ed_q a1 (fun a a0 a1 => eq a a0 (by omega)) (stk_e a1.2.2.2.2.2.2.2 (fun j _ _ => by rw [eq 17 (by omega) (by omega)]))
      refine ⟨ek, ?_⟩
      rw [eq 17 (by omega) (by omega)]
      exact md_d (md_v a2 eq) ek gd
    by_cases c6 : σ 18 0 = 6
    · refine go (i + 1) (by omega) (by omega) ?_ ?_ (fun j j0 j1 => ?_)
      · unfold hb
        rw [n0, n1]
        split <;> omega
      · unfold hb
        omega
      · rw [d5 c6 _ (by omega) (by omega)]
        rw [show 329 * i + j + 329 = 329 * (i + 1) + j by omega]
    · refine go i i0 (by omega) ?_ ?_ (fun j j0 j1 => d4 (by omega) _ (by omega) (by omega))
      · unfold hb
        rw [n0, n1]
        split <;> omega
      · unfold hb
        omega
theorem iv_ed {σ V : Sto} (h : RI V σ) : EdOK σ := (veq_ed h.2.1 h.1).1
theorem iv_mr {σ V : Sto} (h : RI V σ) (hM : MR V σ) : MR σ σ := by
  unfold MR at hM ⊢
  rw [h.1 17 (by omega) (by omega)]
  exact md_v hM (fun a a0 a1 => h.1 a a0 a1)
theorem iv_op {σ σ1 σ2 : Sto} (hI : Iv σ) (ho : opR σ σ1) (hE : EdOK σ1) (hc : ChM σ1 σ2) (hM : MR σ1 σ2) : Iv σ2 := by
  obtain ⟨V, i1, i2, i3, i4, i5, i6⟩ := hI
  have hs := hs_op (iv_ed i1) (iv_mr i1 i4) i2 i6 ho hc
  obtain ⟨o1, o2, o3, o4⟩ := ho
  have d1 := hc.1
  have y := d1 18 (by omega) (by omega) (by omega)
  refine ⟨σ1, ⟨fun a a0 a1 => d1 a (by omega) (by omega) (by omega), hE, by rw [d1 123 (by omega) (by omega) (by omega), o1 123 (by omega) (by omega)]; exact i1.2.2.1, fun q => absurd (by rw [d1 122 (by omega) (by omega) (by omega)]; exact o2) q⟩, ?_, ⟨Or.inl (by rw [d1 164 (by omega) (by omega) (by omega)]; exact o3), fun q => absurd q (by rw [d1 164 (by omega) (by omega) (by omega), o3]; omega)⟩, hM, fun j j0 j1 => by rw [d1 182 (by omega) (by omega) (by omega), d1 183 (by omega) (by omega) (by omega), o1 182 (by omega) (by omega), o1 183 (by omega) (by omega)]; exact i5 j j0 j1, hs⟩
  obtain ⟨⟨b1, b2⟩, b3, b4⟩ := i2
  obtain ⟨c1, c2, -⟩ := o4
  unfold HiOK
  rw [y, c1, c2]
  refine ⟨by omega, ?_⟩
  split <;> omega
theorem iv_rd {V σ σ1 σ2 : Sto} (hI : Iv σ) (i1 : RI V σ) (hD : DI V σ) (hM : MR V σ) (hr : RdR V σ σ1) (hf : FrM σ1 σ2) : Iv σ2 := by
  obtain ⟨-, -, i2, -, -, i5, i6⟩ := hI
  obtain ⟨r1, r2⟩ := hr
  obtain ⟨f1, f2⟩ := hf
  have g : ∀ a, (a < 122 ∨ 163 < a) → (a < 184 ∨ 194 < a) → a ≠ 179 → σ2 a = σ a := fun a a1 a2 a3 => by rw [f1 a a2 a3, r1 a a1]
  have h : ∀ a, a < 179 → σ2 a = σ1 a := fun a a1 => f1 a (by omega) (by omega)
  have g180 := g 180 (by omega) (by omega) (by omega)
  refine ⟨V, ⟨fun a a0 a1 => by rw [g a (by omega) (by omega) (by omega)]; exact i1.1 a a0 a1, i1.2.1, by rw [h 123 (by omega)]; exact r2.2.2.1, fun q => ?_⟩, ?_, ?_, ?_, fun j j0 j1 => by rw [g 182 (by omega) (by omega) (by omega), g 183 (by omega) (by omega) (by omega)]; exact i5 j j0 j1, hs_c i6 (fun a a0 a1 => g a (by omega) (by omega) (by omega)) (by rw [f2, r1 179 (by omega)]) (g 181 (by omega) (by omega) (by omega))⟩
  · rw [h 122 (by omega)] at q ⊢
    exact ⟨(r2.2.2.2 q).1, ct_c (r2.2.2.2 q).2 (fun a a0 a1 => h a (by omega))⟩
  · unfold HiOK
    rw [g 18 (by omega) (by omega) (by omega)]
    exact i2
  · unfold DI DivC zC at hD ⊢
    rw [g 164 (by omega) (by omega) (by omega), g 165 (by omega) (by omega) (by omega), g 166 (by omega) (by omega) (by omega), g 167 (by omega) (by omega) (by omega)]
    exact hD
  · unfold MR at hM ⊢
    rw [g180]
    exact hM
theorem iv_dv {V σ σ1 σ2 : Sto} (hI : Iv σ) (i1 : RI V σ) (hM : MR V σ) (hr : DvF σ σ1) (s1 : σ1 164 0 = 1) (hD : DivC V σ1) (hf : FrD σ1 σ2) : Iv σ2 := by
  obtain ⟨-, -, i2, -, -, i5, i6⟩ := hI
  have g : ∀ a, (a < 164 ∨ 178 < a) → a ≠ 195 → a ≠ 196 → σ2 a = σ a := fun a a1 a2 a3 => by rw [hf a a2 a3, hr a a1]
  have h : ∀ a, a < 195 → σ2 a = σ1 a := fun a a1 => hf a (by omega) (by omega)
  refine ⟨V, ⟨fun a a0 a1 => by rw [g a (by omega) (by omega) (by omega)]; exact i1.1 a a0 a1, i1.2.1, by rw [g 123 (by omega) (by omega) (by omega)]; exact i1.2.2.1, fun q => ?_⟩, ?_, ?_, ?_, fun j j0 j1 => by rw [g 182 (by omega) (by omega) (by omega), g 183 (by omega) (by omega) (by omega)]; exact i5 j j0 j1, hs_c i6 (fun a a0 a1 => g a (by omega) (by omega) (by omega)) (by rw [g 179 (by omega) (by omega) (by omega)]) (g 181 (by omega) (by omega) (by omega))⟩
  · rw [g 122 (by omega) (by omega) (by omega)] at q ⊢
    exact ⟨(i1.2.2.2 q).1, ct_c (i1.2.2.2 q).2 (fun a a0 a1 => g a (by omega) (by omega) (by omega))⟩
  · unfold HiOK
    rw [g 18 (by omega) (by omega) (by omega)]
    exact i2
  · refine ⟨Or.inr (by rw [h 164 (by omega)]; exact s1), fun _ => ?_⟩
    unfold DivC zC at hD ⊢
    rw [h 164 (by omega), h 165 (by omega), h 166 (by omega), h 167 (by omega)]
    exact hD
  · unfold MR at hM ⊢
    rw [g 180 (by omega) (by omega) (by omega)]
    exact hM
