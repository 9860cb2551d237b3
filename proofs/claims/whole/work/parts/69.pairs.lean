/-! ===== each call, on both ===== -/
def PairOp (X : XT) (M7 M8 : MT) (args : List AV) : Prop := ∀ (G : List Sh) (σ : Sto), CSh G → MSh G → Iv σ → MS X M7 (.inr 0 :: args) G σ (fun r G' σ' => G' = G ∧ ∃ v, r = some (.inl v) ∧ MS X M8 (.inr 179 :: args) G' σ' (fun r' G'' σ'' => G'' = G ∧ r' = some (.inl v) ∧ Iv σ''))
theorem iv_hm {σ : Sto} (h : Iv σ) : (0 ≤ σ 179 2 ∧ σ 179 2 ≤ 6) ∧ HiOK σ ∧ EdOK σ ∧ MR σ σ := by
  obtain ⟨V, i1, i2, -, i4, -, i6⟩ := h
  refine ⟨?_, i2, iv_ed i1, iv_mr i1 i4⟩
  rw [i6.1]
  exact i2.1
theorem op_mr {σ σ1 : Sto} (ho : opR σ σ1) (hM : MR σ σ) : MR σ σ1 ∧ σ1 179 = σ 179 ∧ σ1 182 = σ 182 ∧ σ1 183 = σ 183 := by
  unfold MR at hM ⊢
  rw [ho.1 180 (by omega) (by omega)]
  exact ⟨hM, ho.1 179 (by omega) (by omega), ho.1 182 (by omega) (by omega), ho.1 183 (by omega) (by omega)⟩
section
variable {X : XT}
theorem po_insert {a l r : Int} : PairOp X M_7_insert M_8_insert [.inl a, .inl l, .inl r] := by
  intro G σ hG hG' hI
  obtain ⟨hm, hH, hE, hM⟩ := iv_hm hI
  refine ms_insert hG hE hH (fun c => ⟨rfl, _, rfl, ?_⟩) (fun c c1 => ⟨rfl, _, rfl, ?_⟩) (fun c c1 σ1 o i => ⟨rfl, _, rfl, ?_⟩)
  · exact mm_insert hG' hE hM hm (fun _ => ⟨rfl, rfl, hI⟩) (fun q => absurd q c) (fun q => absurd q c)
  · exact mm_insert hG' hE hM hm (fun q => absurd c q) (fun _ _ => ⟨rfl, rfl, hI⟩) (fun _ q => absurd q (by omega))
  · obtain ⟨m1, m2, -⟩ := op_mr o hM
    exact mm_insert hG' hE m1 (by rw [m2]; exact hm) (fun q => absurd c q) (fun _ q => absurd q (by omega)) (fun _ _ σ2 ch mr => ⟨rfl, rfl, iv_op hI o (ed_in hE c1 c.1 c.2.1 c.2.2 i) ch (mr σ1 i)⟩)
theorem po_remove {p : Int} : PairOp X M_7_remove M_8_remove [.inl p] := by
  intro G σ hG hG' hI
  obtain ⟨hm, hH, hE, hM⟩ := iv_hm hI
  refine ms_remove hG hE hH (fun c => ⟨rfl, _, rfl, ?_⟩) (fun c σ1 o i => ⟨rfl, _, rfl, ?_⟩)
  · exact mm_remove hG' hE hM hm (fun _ => ⟨rfl, rfl, hI⟩) (fun q => absurd q c)
  · obtain ⟨m1, m2, -⟩ := op_mr o hM
    exact mm_remove hG' hE m1 (by rw [m2]; exact hm) (fun q => absurd c q) (fun _ σ2 ch mr => ⟨rfl, rfl, iv_op hI o (ed_de hE c i) ch (mr σ1 i)⟩)
theorem po_setLines {p s v : Int} : PairOp X M_7_setLines M_8_setLines [.inl p, .inl s, .inl v] := by
  intro G σ hG hG' hI
  obtain ⟨hm, hH, hE, hM⟩ := iv_hm hI
  refine ms_setLines hG hE hH (fun c => ⟨rfl, _, rfl, ?_⟩) (fun c c1 => ⟨rfl, _, rfl, ?_⟩) (fun c c1 σ1 o i j => ⟨rfl, _, rfl, ?_⟩)
  · exact mm_setLines hG' hE hM hm (fun _ => ⟨rfl, rfl, hI⟩) (fun q => absurd q c) (fun q => absurd q c)
  · exact mm_setLines hG' hE hM hm (fun q => absurd c q) (fun _ _ => ⟨rfl, rfl, hI⟩) (fun _ q => absurd c1 q)
  · obtain ⟨m1, m2, -⟩ := op_mr o hM
    have hs : s.toNat < 2 := by have := c.2.1; omega
    exact mm_setLines hG' hE m1 (by rw [m2]; exact hm) (fun q => absurd c q) (fun _ q => absurd q c1) (fun _ _ σ2 ch mr => ⟨rfl, rfl, iv_op hI o (ed_row (r := s.toNat) hE (by omega) c.1 i j (by rw [if_pos hs]; exact ⟨c.2.2, c1⟩)) ch (mr σ1 i j)⟩)
theorem po_setFlag {p w v : Int} : PairOp X M_7_setFlag M_8_setFlag [.inl p, .inl w, .inl v] := by
  intro G σ hG hG' hI
  obtain ⟨hm, hH, hE, hM⟩ := iv_hm hI
  refine ms_setFlag hG hE hH (fun c => ⟨rfl, _, rfl, ?_⟩) (fun c σ1 o i j => ⟨rfl, _, rfl, ?_⟩)
  · exact mm_setFlag hG' hE hM hm (fun _ => ⟨rfl, rfl, hI⟩) (fun q => absurd q c)
  · obtain ⟨m1, m2, -⟩ := op_mr o hM
    have hs : w.toNat < 2 := by have := c.2.1; omega
    refine mm_setFlag hG' hE m1 (by rw [m2]; exact hm) (fun q => absurd c q) (fun _ σ2 ch mr => ⟨rfl, rfl, iv_op hI o (ed_row (r := 2 + w.toNat) (p := p) (v := v) hE (by omega) c.1 ?_ ?_ ?_) ch (mr σ1 i j)⟩)
    · intro a a0 a1 a2
      exact i a a0 a1 (by omega)
    · intro q
      rw [show 3 + (2 + w.toNat) = 5 + w.toNat by omega]
      exact j q
    · rw [if_neg (by omega)]
      have := c.2.2
      omega
theorem po_addNote {p s x n : Int} : PairOp X M_7_addNote M_8_addNote [.inl p, .inl s, .inl x, .inl n] := by
  intro G σ hG hG' hI
  obtain ⟨hm, hH, hE, hM⟩ := iv_hm hI
  refine ms_addNote hG hE hH (fun c => ⟨rfl, _, rfl, ?_⟩) (fun c c1 => ⟨rfl, _, rfl, ?_⟩) (fun c c1 σ1 o i j => ⟨rfl, _, rfl, ?_⟩)
  · exact mm_addNote hG' hE hM hm (fun _ => ⟨rfl, rfl, hI⟩) (fun q => absurd q c) (fun q => absurd q c)
  · exact mm_addNote hG' hE hM hm (fun q => absurd c q) (fun _ _ => ⟨rfl, rfl, hI⟩) (fun _ q => absurd q (by omega))
  · obtain ⟨m1, m2, -⟩ := op_mr o hM
    exact mm_addNote hG' hE m1 (by rw [m2]; exact hm) (fun q => absurd c q) (fun _ q => absurd q (by omega)) (fun _ _ σ2 ch mr => ⟨rfl, rfl, iv_op hI o (ed_pl hE c.1 c.2 c1 i j) ch (mr σ1 i j)⟩)
theorem po_removeNote {s k : Int} : PairOp X M_7_removeNote M_8_removeNote [.inl s, .inl k] := by
  intro G σ hG hG' hI
  obtain ⟨hm, hH, hE, hM⟩ := iv_hm hI
  refine ms_removeNote hG hE hH (fun c => ⟨rfl, _, rfl, ?_⟩) (fun c c1 => ⟨rfl, _, rfl, ?_⟩) (fun c c1 σ1 o i j => ⟨rfl, _, rfl, ?_⟩)
  · exact mm_removeNote hG' hE hM hm (fun _ => ⟨rfl, rfl, hI⟩) (fun q => absurd q c) (fun q => absurd q c)
  · exact mm_removeNote hG' hE hM hm (fun q => absurd c q) (fun _ _ => ⟨rfl, rfl, hI⟩) (fun _ q => absurd q (by omega))
  · obtain ⟨m1, m2, -⟩ := op_mr o hM
    exact mm_removeNote hG' hE m1 (by rw [m2]; exact hm) (fun q => absurd c q) (fun _ q => absurd q (by omega)) (fun _ _ σ2 ch mr => ⟨rfl, rfl, iv_op hI o (ed_ds hE (by omega) ⟨c.2, c1⟩ i j) ch (mr σ1 i j)⟩)
theorem po_set {w v : Int} : PairOp X M_7_set M_8_set [.inl w, .inl v] := by
  intro G σ hG hG' hI
  obtain ⟨hm, hH, hE, hM⟩ := iv_hm hI
  have hl : ∀ j, 0 ≤ j → j ≤ 5 → σ 182 j = st_v 1 j ∧ σ 183 j = st_v 2 j := by
    obtain ⟨V, -, -, -, -, i5, -⟩ := id hI
    exact i5
  refine ms_set hG hE hH (fun c => ⟨rfl, _, rfl, ?_⟩) (fun c σ1 o i j => ⟨rfl, _, rfl, ?_⟩)
  · exact mm_set hG' hE hM hm hl (fun _ => ⟨rfl, rfl, hI⟩) (fun q => absurd q c)
  · obtain ⟨m1, m2, m3, m4⟩ := op_mr o hM
    exact mm_set hG' hE m1 (by rw [m2]; exact hm) (by rw [m3, m4]; exact hl) (fun q => absurd c q) (fun _ σ2 ch mr => ⟨rfl, rfl, iv_op hI o (ed_set hE c.1 c.2 i j) ch (mr σ1 i j)⟩)
theorem iv_un {σ σ1 σ2 : Sto} (hI : Iv σ) (h0 : 0 < σ 18 0) (c1 : ∀ a, 18 < a → a ≠ 122 → a ≠ 164 → σ1 a = σ a) (c2 : σ1 122 0 = 0) (c3 : σ1 164 0 = 0) (c4 : σ1 18 0 = σ 18 0 - 1) (c5 : σ1 18 1 = (if 0 < σ 18 1 then σ 18 1 - 1 else 5)) (c6 : ecV σ σ1 (19 + 17 * (if 0 < σ 18 1 then σ 18 1 - 1 else 5).toNat) 0)
    (d1 : ∀ a, a ≠ 180 → a ≠ 179 → σ2 a = σ1 a) (d2 : σ2 179 2 = σ1 179 2 - 1) (d3 : ∀ j, 0 ≤ j → j < 329 → σ2 180 j = σ1 181 (329 * (σ1 179 2 - 1) + j)) : Iv σ2 := by
  obtain ⟨V, i1, i2, i3, i4, i5, i6, i7⟩ := hI
  obtain ⟨⟨b1, b2⟩, b3, b4⟩ := i2
  have y := d1 18 (by omega) (by omega)
  have z := c1 179 (by omega) (by omega) (by omega)
  have z1 := c1 181 (by omega) (by omega) (by omega)
  rw [z, i6, z1] at d3
  rw [z, i6] at d2
  obtain ⟨a1, a2⟩ := i7 (σ 18 0 - 1) (by omega) (by omega)
  have hbe : hb σ (σ 18 0 - 1) = 19 + 17 * (if 0 < σ 18 1 then σ 18 1 - 1 else 5).toNat := by
    unfold hb
    split <;> omega
  rw [hbe] at a1 a2
  have eE : EdE (vw σ (19 + 17 * (if 0 < σ 18 1 then σ 18 1 - 1 else 5).toNat)) σ2 := by
    obtain ⟨k1, k2, k3, k4, k5⟩ := c6
    simp only [Nat.zero_add] at k1 k2 k3 k4 k5
    have e : ∀ a, a < 18 → σ2 a = σ1 a := fun a _ => d1 a (by omega) (by omega)
    refine ⟨by rw [e 1 (by omega)]; exact k1, fun i j i0 i1 j0 j1 => by rw [e i (by omega)]; exact k2 i j i0 i1 j0 j1, ⟨by rw [e 7 (by omega)]; exact k3.1, by rw [e 12 (by omega)]; exact k3.2⟩, fun i j i0 j0 j1 => by rw [e i (by omega)]; exact k4 i j i0 j0 j1, fun j j0 j1 => by rw [e 17 (by omega)]; exact k5 j j0 j1⟩
  have hE := ed_e a1 eE
  have l18 : ∀ a, 18 < a → a ≠ 122 → a ≠ 164 → a ≠ 180 → a ≠ 179 → σ2 a = σ a := fun a x1 x2 x3 x4 x5 => by rw [d1 a x4 x5, c1 a x1 x2 x3]
  refine ⟨σ2, ⟨fun _ _ _ => rfl, hE, by rw [l18 123 (by omega) (by omega) (by omega) (by omega) (by omega)]; exact i1.2.2.1, fun q => absurd (by rw [d1 122 (by omega) (by omega)]; exact c2) q⟩, ?_, ⟨Or.inl (by rw [d1 164 (by omega) (by omega)]; exact c3), fun q => absurd q (by rw [d1 164 (by omega) (by omega), c3]; omega)⟩, ?_, fun j j0 j1 => by rw [l18 182 (by omega) (by omega) (by omega) (by omega) (by omega), l18 183 (by omega) (by omega) (by omega) (by omega) (by omega)]; exact i5 j j0 j1, ?_⟩
  · unfold HiOK
    rw [y, c4, c5]
    refine ⟨by omega, ?_⟩
    split <;> omega
  · unfold MR
    rw [eE.2.2.2.2 0 (by omega) (by omega)]
    exact md_d (md_e a1 a2 eE) hE (fun j j0 j1 => d3 j j0 j1)
  · refine ⟨by rw [d2, y, c4], fun i i0 i1 => ?_⟩
    rw [y, c4] at i1
    obtain ⟨g1, g2⟩ := i7 i i0 (by omega)
    have he : hb σ2 i = hb σ i := by
      unfold hb
      rw [y, c4, c5]
      split <;> omega
    have eq : ∀ a, 1 ≤ a → a ≤ 17 → vw σ2 (hb σ i) a = vw σ (hb σ i) a := fun a x0 x1 => by
      have l : 19 ≤ hb σ i ∧ hb σ i ≤ 104 := by unfold hb; omega
      exact l18 _ (by omega) (by omega) (by omega) (by omega) (by omega)
    rw [he, l18 181 (by omega) (by omega) (by omega) (by omega) (by omega)]
    refine ⟨ed_q g1 (fun a x0 x1 => eq a x0 (by omega)) (stk_e g1.2.2.2.2.2.2.2 (fun j _ _ => by rw [eq 17 (by omega) (by omega)])), ?_⟩
    rw [eq 17 (by omega) (by omega)]
    exact md_v g2 eq
theorem po_undo : PairOp X M_7_undo M_8_undo [] := by
  intro G σ hG hG' hI
  obtain ⟨hm, hH, hE, hM⟩ := iv_hm hI
  have h6 : σ 179 2 = σ 18 0 := by
    obtain ⟨V, -, -, -, -, -, i6⟩ := id hI
    exact i6.1
  refine ms_undo hG hH (fun c => ⟨rfl, _, rfl, ?_⟩) (fun c σ1 c1 c1' c2 c3 c4 c5 c6 => ⟨rfl, _, rfl, ?_⟩)
  · exact mm_undo hG' hm (fun _ => ⟨rfl, rfl, hI⟩) (fun q => absurd q (by omega))
  · have z := c1 179 (by omega) (by omega) (by omega)
    have zz : σ1 179 2 = σ 18 0 := by rw [z, h6]
    exact mm_undo hG' (by rw [z]; exact hm) (fun q => absurd q (by omega)) (fun _ σ2 d1 d1' d2 d3 => ⟨rfl, by rw [zz], iv_un hI c c1 c2 c3 c4 c5 c6 d1 d2 d3⟩)
theorem po_pairCount : PairOp X M_7_pairCount M_8_pairCount [] := by
  intro G σ hG hG' hI
  obtain ⟨hm, hH, hE, hM⟩ := iv_hm hI
  exact ms_pairCount hG ⟨rfl, _, rfl, mm_pairCount hG' hM ⟨rfl, rfl, hI⟩⟩
theorem po_pairInfo {p w : Int} : PairOp X M_7_pairInfo M_8_pairInfo [.inl p, .inl w] := by
  intro G σ hG hG' hI
  obtain ⟨hm, hH, hE, hM⟩ := iv_hm hI
  exact ms_pairInfo hG hE.1 (fun c => ⟨rfl, _, rfl, mm_pairInfo hG' hE hM (fun _ => ⟨rfl, rfl, hI⟩) (fun q => absurd q c)⟩) (fun c => ⟨rfl, _, rfl, mm_pairInfo hG' hE hM (fun q => absurd c q) (fun _ => ⟨rfl, rfl, hI⟩)⟩)
theorem po_noteCount {s : Int} : PairOp X M_7_noteCount M_8_noteCount [.inl s] := by
  intro G σ hG hG' hI
  obtain ⟨hm, hH, hE, hM⟩ := iv_hm hI
  exact ms_noteCount hG (fun c => ⟨rfl, _, rfl, mm_noteCount hG' hM (fun _ => ⟨rfl, rfl, hI⟩) (fun q => absurd q c)⟩) (fun c => ⟨rfl, _, rfl, mm_noteCount hG' hM (fun q => absurd c q) (fun _ => ⟨rfl, rfl, hI⟩)⟩)
theorem po_noteInfo {s k w : Int} : PairOp X M_7_noteInfo M_8_noteInfo [.inl s, .inl k, .inl w] := by
  intro G σ hG hG' hI
  obtain ⟨hm, hH, hE, hM⟩ := iv_hm hI
  exact ms_noteInfo hG hE (fun c => ⟨rfl, _, rfl, mm_noteInfo hG' hE hM (fun _ => ⟨rfl, rfl, hI⟩) (fun q => absurd q c) (fun q => absurd q c)⟩) (fun c c1 => ⟨rfl, _, rfl, mm_noteInfo hG' hE hM (fun q => absurd c q) (fun _ _ => ⟨rfl, rfl, hI⟩) (fun _ q => absurd q (by omega))⟩) (fun c c1 => ⟨rfl, _, rfl, mm_noteInfo hG' hE hM (fun q => absurd c q) (fun _ q => absurd q (by omega)) (fun _ _ => ⟨rfl, rfl, hI⟩)⟩)
theorem iv_r {σ : Sto} (h : Iv σ) : ∃ V, RI V σ ∧ DI V σ ∧ EdOK V ∧ MR V σ ∧ ∀ {σ1 : Sto}, RdR V σ σ1 → MR V σ1 ∧ ∀ {σ2 : Sto}, FrM σ1 σ2 → Iv σ2 := by
  obtain ⟨V, i1, i2, i3, i4, i5, i6⟩ := id h
  refine ⟨V, i1, i3, i1.2.1, i4, fun r => ⟨?_, fun f => iv_rd h i1 i3 i4 r f⟩⟩
  unfold MR at i4 ⊢
  rw [r.1 180 (by omega)]
  exact i4
theorem po_spreadCount : PairOp X M_7_spreadCount M_8_spreadCount [] := by
  intro G σ hG hG' hI
  obtain ⟨V, i1, i3, hV, i4, iv⟩ := iv_r hI
  exact ms_spreadCount hG i1 (fun σ1 r => ⟨rfl, _, rfl, mm_spreadCount hG' hV (iv r).1 (fun σ2 f => ⟨rfl, rfl, (iv r).2 f⟩)⟩)
theorem po_segmentCount {j : Int} : PairOp X M_7_segmentCount M_8_segmentCount [.inl j] := by
  intro G σ hG hG' hI
  obtain ⟨V, i1, i3, hV, i4, iv⟩ := iv_r hI
  exact ms_segmentCount hG i1 (fun c σ1 r => ⟨rfl, _, rfl, mm_segmentCount hG' hV (iv r).1 (fun _ σ2 f => ⟨rfl, rfl, (iv r).2 f⟩) (fun q => absurd q c)⟩)
    (fun c σ1 r => ⟨rfl, _, rfl, mm_segmentCount hG' hV (iv r).1 (fun q => absurd c q) (fun _ σ2 f => ⟨rfl, rfl, (iv r).2 f⟩)⟩)
theorem po_segmentInfo {j k w : Int} : PairOp X M_7_segmentInfo M_8_segmentInfo [.inl j, .inl k, .inl w] := by
  intro G σ hG hG' hI
  obtain ⟨V, i1, i3, hV, i4, iv⟩ := iv_r hI
  exact ms_segmentInfo hG i1 (fun c σ1 r => ⟨rfl, _, rfl, mm_segmentInfo hG' hV (iv r).1 (fun _ σ2 f => ⟨rfl, rfl, (iv r).2 f⟩) (fun q => absurd q c) (fun q => absurd q c)⟩)
    (fun c c1 σ1 r => ⟨rfl, _, rfl, mm_segmentInfo hG' hV (iv r).1 (fun q => absurd c q) (fun _ _ σ2 f => ⟨rfl, rfl, (iv r).2 f⟩) (fun _ q => absurd q (by omega))⟩)
    (fun c c1 σ1 r => ⟨rfl, _, rfl, mm_segmentInfo hG' hV (iv r).1 (fun q => absurd c q) (fun _ q => absurd q (by omega)) (fun _ _ σ2 f => ⟨rfl, rfl, (iv r).2 f⟩)⟩)
theorem po_pageInfo {j s w : Int} : PairOp X M_7_pageInfo M_8_pageInfo [.inl j, .inl s, .inl w] := by
  intro G σ hG hG' hI
  obtain ⟨V, i1, i3, hV, i4, iv⟩ := iv_r hI
  exact ms_pageInfo hG i1 (fun c σ1 r => ⟨rfl, _, rfl, mm_pageInfo hG' hV (iv r).1 (fun _ σ2 f => ⟨rfl, rfl, (iv r).2 f⟩) (fun q => absurd q c)⟩)
    (fun c σ1 r => ⟨rfl, _, rfl, mm_pageInfo hG' hV (iv r).1 (fun q => absurd c q) (fun _ σ2 f => ⟨rfl, rfl, (iv r).2 f⟩)⟩)
theorem po_isOverfull {j : Int} : PairOp X M_7_isOverfull M_8_isOverfull [.inl j] := by
  intro G σ hG hG' hI
  obtain ⟨V, i1, i3, hV, i4, iv⟩ := iv_r hI
  exact ms_isOverfull hG i1 (fun c σ1 r => ⟨rfl, _, rfl, mm_isOverfull hG' hV (iv r).1 (fun _ σ2 f => ⟨rfl, rfl, (iv r).2 f⟩) (fun q => absurd q c)⟩)
    (fun c σ1 r => ⟨rfl, _, rfl, mm_isOverfull hG' hV (iv r).1 (fun q => absurd c q) (fun _ σ2 f => ⟨rfl, rfl, (iv r).2 f⟩)⟩)
theorem seg_uniq {L : Sto} {p s x k k' : Int} (h : IsSeg L p s x k) (h' : IsSeg L p s x k') : k = k' := by
  rcases Int.lt_trichotomy k k' with q | q | q
  · exact absurd h.2.1 (h'.2.2 k h.1.1 q)
  · exact q
  · exact absurd h'.2.1 (h.2.2 k' h'.1.1 q)
theorem sp_uniq {L : Sto} {k j j' : Int} (h : IsSp L k j) (h' : IsSp L k j') : j = j' := by
  rcases Int.lt_trichotomy j j' with q | q | q
  · have := h'.2.2 j h.1.1 q
    have := h.2.1
    omega
  · exact q
  · have := h.2.2 j' h'.1.1 q
    have := h'.2.1
    omega
theorem po_spreadOf {p s x : Int} : PairOp X M_7_spreadOf M_8_spreadOf [.inl p, .inl s, .inl x] := by
  intro G σ hG hG' hI
  obtain ⟨V, i1, i3, hV, i4, iv⟩ := iv_r hI
  refine ms_spreadOf hG i1 (fun c => ⟨rfl, _, rfl, mm_spreadOf hG' hV i4 (fun _ => ⟨rfl, rfl, hI⟩) (fun q => absurd q c)⟩) (fun c => ?_)
  obtain ⟨k, j, k1, k2⟩ := seg_ex (lay_ok hV (hgt hV).2) c
  refine ⟨k, j, k1, k2, fun σ1 r => ⟨rfl, _, rfl, mm_spreadOf hG' hV (iv r).1 (fun q => absurd c q) (fun _ k' j' q1 q2 σ2 f => ⟨rfl, ?_, (iv r).2 f⟩)⟩⟩
  rw [seg_uniq q1 k1] at q2
  rw [sp_uniq q2 k2]
theorem po_rowOf {p s x : Int} : PairOp X M_7_rowOf M_8_rowOf [.inl p, .inl s, .inl x] := by
  intro G σ hG hG' hI
  obtain ⟨V, i1, i3, hV, i4, iv⟩ := iv_r hI
  refine ms_rowOf hG i1 (fun c => ⟨rfl, _, rfl, mm_rowOf hG' hV i4 (fun _ => ⟨rfl, rfl, hI⟩) (fun q => absurd q c)⟩) (fun c => ?_)
  obtain ⟨k, j, k1, k2⟩ := seg_ex (lay_ok hV (hgt hV).2) c
  refine ⟨k, k1, fun σ1 r => ⟨rfl, _, rfl, mm_rowOf hG' hV (iv r).1 (fun q => absurd c q) (fun _ k' q1 σ2 f => ⟨rfl, ?_, (iv r).2 f⟩)⟩⟩
  rw [seg_uniq q1 k1]
theorem po_shown {j s row : Int} : PairOp X M_7_shown M_8_shown [.inl j, .inl s, .inl row] := by
  intro G σ hG hG' hI
  obtain ⟨V, i1, i3, hV, i4, iv⟩ := iv_r hI
  exact ms_shown hG i1 (fun c σ1 r => ⟨rfl, _, rfl, mm_shown hG' hV (iv r).1 (fun _ σ2 f => ⟨rfl, rfl, (iv r).2 f⟩) (fun q => absurd q c)⟩)
    (fun c σ1 r => ⟨rfl, _, rfl, mm_shown hG' hV (iv r).1 (fun q => absurd c q) (fun _ σ2 f => ⟨rfl, rfl, (iv r).2 f⟩)⟩)
theorem po_cost : PairOp X M_7_cost M_8_cost [] := by
  intro G σ hG hG' hI
  obtain ⟨V, i1, i3, hV, i4, iv⟩ := iv_r hI
  exact ms_cost hG i1 (fun σ1 r => ⟨rfl, _, rfl, mm_cost hG' hV (iv r).1 (fun σ2 f => ⟨rfl, rfl, (iv r).2 f⟩)⟩)
theorem po_splitPairs : PairOp X M_7_splitPairs M_8_splitPairs [] := by
  intro G σ hG hG' hI
  obtain ⟨V, i1, i3, hV, i4, iv⟩ := iv_r hI
  exact ms_splitPairs hG i1 (fun σ1 r => ⟨rfl, _, rfl, mm_splitPairs hG' hV (iv r).1 (fun σ2 f => ⟨rfl, rfl, (iv r).2 f⟩)⟩)
theorem po_overfullWith {h : Int} : PairOp X M_7_overfullWith M_8_overfullWith [.inl h] := by
  intro G σ hG hG' hI
  obtain ⟨V, i1, i3, hV, i4, iv⟩ := iv_r hI
  exact ms_overfullWith hG i1 (fun c => ⟨rfl, _, rfl, mm_overfullWith hG' hV i4 (fun _ => ⟨rfl, rfl, hI⟩) (fun q => absurd q c)⟩)
    (fun c σ1 r => ⟨rfl, _, rfl, mm_overfullWith hG' hV (iv r).1 (fun q => absurd c q) (fun _ σ2 f => ⟨rfl, rfl, (iv r).2 f⟩)⟩)
theorem lh_uniq {V : Sto} {m h h' : Int} (a : IsLH V m h) (b : IsLH V m h') : h = h' := by
  rcases Int.lt_trichotomy h h' with q | q | q
  · have := b.2.2 h a.1.1 q
    have := a.2.1
    omega
  · exact q
  · have := a.2.2 h' b.1.1 q
    have := b.2.1
    omega
theorem po_leastHeight {m : Int} : PairOp X M_7_leastHeight M_8_leastHeight [.inl m] := by
  intro G σ hG hG' hI
  obtain ⟨V, i1, i3, hV, i4, iv⟩ := iv_r hI
  refine ms_leastHeight hG i1 (fun c => ⟨rfl, _, rfl, mm_leastHeight hG' hV i4 (fun _ => ⟨rfl, rfl, hI⟩) (fun q => absurd q c) (fun q => absurd q c)⟩) (fun c h hh σ1 r => ⟨rfl, _, rfl, ?_⟩) (fun c hh σ1 r => ⟨rfl, _, rfl, ?_⟩)
  · refine mm_leastHeight hG' hV (iv r).1 (fun q => absurd c q) (fun _ h' g σ2 f => ⟨rfl, ?_, (iv r).2 f⟩) (fun _ q => ?_)
    · rw [lh_uniq g hh]
    · have := q h hh.1.1 hh.1.2
      have := hh.2.1
      omega
  · refine mm_leastHeight hG' hV (iv r).1 (fun q => absurd c q) (fun _ h' g => ?_) (fun _ q σ2 f => ⟨rfl, rfl, (iv r).2 f⟩)
    have := hh h' g.1.1 g.1.2
    have := g.2.1
    omega
theorem dv_r {σ : Sto} (h : Iv σ) : ∃ V, RI V σ ∧ DI V σ ∧ EdOK V ∧ MR V σ ∧ ∀ {σ1 : Sto}, DvF σ σ1 → σ1 164 0 = 1 → DivC V σ1 → MR V σ1 ∧ ∀ {σ2 : Sto}, FrD σ1 σ2 → Iv σ2 := by
  obtain ⟨V, i1, i2, i3, i4, i5, i6⟩ := id h
  refine ⟨V, i1, i3, i1.2.1, i4, fun r s d => ⟨?_, fun f => iv_dv h i1 i4 r s d f⟩⟩
  unfold MR at i4 ⊢
  rw [r 180 (by omega)]
  exact i4
theorem po_bestCost : PairOp X M_7_bestCost M_8_bestCost [] := by
  intro G σ hG hG' hI
  obtain ⟨V, i1, i3, hV, i4, iv⟩ := dv_r hI
  have hn := hV.1
  refine ms_bestCost hG hV i1.1 i3 (fun σ1 r s d => ⟨rfl, _, rfl, mm_bestCost hG' hV (iv r s d).1 (fun σ2 f d2 => ⟨rfl, ?_, (iv r s d).2 f⟩)⟩)
  have u := (bt_uniq hn.1 d.1 d2.1 (V 1 0).toNat (by omega)).1
  rw [show V 1 0 - ((V 1 0).toNat : Int) = 0 by omega] at u
  rw [u]
theorem itz_eq {V : Sto} {c z c' z' : Int → Int} (hn : 0 ≤ V 1 0) (h : BT V c z) (h' : BT V c' z') (h0 : 0 ≤ c 0) : ∀ k : Nat, itz z (V 1 0) k = itz z' (V 1 0) k
  | 0 => rfl
  | k + 1 => by
    have ih := itz_eq hn h h' h0 k
    have b := itz_b hn h h0 k
    show (if itz z (V 1 0) k < V 1 0 then z (itz z (V 1 0) k) else itz z (V 1 0) k) = (if itz z' (V 1 0) k < V 1 0 then z' (itz z' (V 1 0) k) else itz z' (V 1 0) k)
    rw [← ih]
    by_cases q : itz z (V 1 0) k < V 1 0
    · rw [if_pos q, if_pos q]
      have u := (bt_uniq hn h h' (V 1 0 - itz z (V 1 0) k).toNat (by omega)).2
      rw [show V 1 0 - ((V 1 0 - itz z (V 1 0) k).toNat : Int) = itz z (V 1 0) k by omega] at u
      exact u b.2 (by omega)
    · rw [if_neg q, if_neg q]
theorem po_bestBreak {g : Int} : PairOp X M_7_bestBreak M_8_bestBreak [.inl g] := by
  intro G σ hG hG' hI
  obtain ⟨V, i1, i3, hV, i4, iv⟩ := dv_r hI
  have hn := hV.1
  refine ms_bestBreak hG hV i1.1 i3 (fun c => ⟨rfl, _, rfl, mm_bestBreak hG' hV i4 (fun _ => ⟨rfl, rfl, hI⟩) (fun q => absurd q (by omega))⟩) (fun c σ1 r s d => ⟨rfl, _, rfl, mm_bestBreak hG' hV (iv r s d).1 (fun q => absurd q (by omega)) (fun _ σ2 f d2 => ⟨rfl, ?_, (iv r s d).2 f⟩)⟩)
  have u := (bt_uniq hn.1 d.1 d2.1 (V 1 0).toNat (by omega)).1
  rw [show V 1 0 - ((V 1 0).toNat : Int) = 0 by omega] at u
  obtain ⟨d1, db, dn, dp⟩ := d
  by_cases c0 : σ1 166 0 = -1
  · rw [if_pos (Or.inl (by rw [← u]; exact c0)), dn c0, if_neg (by omega)]
  · have h0 : 0 ≤ σ1 166 0 := by
      rcases (show V 1 0 = 0 ∨ 0 < V 1 0 by omega) with z | z
      · have := d1.1
        rw [z] at this
        omega
      · rcases d1.2 0 (by omega) z with ⟨w, -⟩ | ⟨w, -⟩
        · exact absurd w c0
        · exact w.1
    obtain ⟨dp1, dp2⟩ := dp c0
    have e := itz_eq hn.1 d1 d2.1 h0 g.toNat
    rw [← e]
    by_cases c1 : g < σ1 164 1
    · have := dp1 g.toNat (by omega)
      rw [show ((g.toNat : Nat) : Int) = g by omega] at this
      rw [if_pos c1, if_neg (fun q => by
        rcases q with q | q
        · rw [← u] at q
          exact c0 q
        · omega), this.1]
    · have := itz_ge dp2 (g.toNat - (σ1 164 1).toNat)
      rw [show (σ1 164 1).toNat + (g.toNat - (σ1 164 1).toNat) = g.toNat by omega] at this
      rw [if_neg c1, if_pos (Or.inr (by omega))]
end
