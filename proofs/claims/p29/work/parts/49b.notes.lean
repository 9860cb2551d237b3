/-! ===== the notes that the pages show ===== -/
/-- note n's line 'part' is the l-th line of all notes of the side; behind the last one n is their number -/
def NO (V : Sto) (nb : Nat) (n part l : Int) : Prop := (0 ≤ n ∧ n ≤ V nb 0) ∧ SL V nb 0 n + part = l ∧ (n < V nb 0 → 0 ≤ part ∧ part < V (nb + 4) n) ∧ (n = V nb 0 → part = 0)
def NOK (V : Sto) (nb : Nat) : Prop := (0 ≤ V nb 0 ∧ V nb 0 ≤ 40) ∧ ∀ k, 0 ≤ k → k < V nb 0 → 1 ≤ V (nb + 4) k ∧ V (nb + 4) k ≤ 10
theorem nok {V : Sto} (hV : EdOK V) {s : Int} (hs : s = 0 ∨ s = 1) : NOK V (nbS s) := ⟨(nbO hV hs).1.1, (nbO hV hs).2.2⟩
theorem SL_m {V : Sto} {nb : Nat} (hN : NOK V nb) {a b : Int} (a0 : 0 ≤ a) (h : a ≤ b) (h1 : b ≤ V nb 0) : SL V nb 0 a ≤ SL V nb 0 b := by
  rw [SL_add a0 h]
  have := SL_b (E := V) (nb := nb) h a0 h1 hN.2
  omega
theorem no_u1 {V : Sto} {nb : Nat} (hN : NOK V nb) {n p n' p' l : Int} (h : NO V nb n p l) (h' : NO V nb n' p' l) (hl : n < n') : False := by
  obtain ⟨⟨a0, a1⟩, a2, a3, a4⟩ := h
  obtain ⟨⟨b0, b1⟩, b2, b3, b4⟩ := h'
  have e := SL_m hN (a := n + 1) (b := n') (by omega) (by omega) b1
  rw [SL_s V nb a0] at e
  have := a3 (by omega)
  have : 0 ≤ p' := by
    by_cases c : n' < V nb 0
    · exact (b3 c).1
    · rw [b4 (by omega)]
      exact Int.le_refl _
  omega
theorem no_u {V : Sto} {nb : Nat} (hN : NOK V nb) {n p n' p' l : Int} (h : NO V nb n p l) (h' : NO V nb n' p' l) : n = n' ∧ p = p' := by
  have e : n = n' := by
    rcases Int.lt_trichotomy n n' with q | q | q
    · exact (no_u1 hN h h' q).elim
    · exact q
    · exact (no_u1 hN h' h q).elim
  subst e
  have := h.2.1
  have := h'.2.1
  exact ⟨rfl, by omega⟩
theorem no_s {V : Sto} {nb : Nat} (hN : NOK V nb) {n p l : Int} (h : NO V nb n p l) (hn : n < V nb 0) : NO V nb (if p + 1 = V (nb + 4) n then n + 1 else n) (if p + 1 = V (nb + 4) n then 0 else p + 1) (l + 1) := by
  obtain ⟨⟨a0, a1⟩, a2, a3, a4⟩ := h
  have a3 := a3 hn
  by_cases c : p + 1 = V (nb + 4) n
  · rw [if_pos c, if_pos c]
    refine ⟨⟨by omega, by omega⟩, ?_, fun q => ?_, fun _ => rfl⟩
    · rw [SL_s V nb a0]
      omega
    · have := hN.2 (n + 1) (by omega) q
      omega
  · rw [if_neg c, if_neg c]
    exact ⟨⟨a0, a1⟩, by omega, fun _ => by omega, fun q => by omega⟩
theorem no_lt {V : Sto} {nb : Nat} (hN : NOK V nb) {n p l b : Int} (h : NO V nb n p l) (b0 : 0 ≤ b) (b1 : b ≤ V nb 0) (hl : l < SL V nb 0 b) : n < b := by
  obtain ⟨⟨a0, a1⟩, a2, a3, a4⟩ := h
  rcases (show n < b ∨ b ≤ n by omega) with q | q
  · exact q
  · exfalso
    have e := SL_m hN b0 q a1
    have : 0 ≤ p := by
      by_cases c : n < V nb 0
      · exact (a3 c).1
      · rw [a4 (by omega)]
        exact Int.le_refl _
    omega
theorem ntR_at {V : Sto} {nb : Nat} (hN : NOK V nb) {n p : Int} : ∀ (f : Nat) (k l : Int), 0 ≤ k → k ≤ V nb 0 → V nb 0 - k < f → 0 ≤ l → SL V nb 0 k + l < SL V nb 0 (V nb 0) → NO V nb n p (SL V nb 0 k + l) → ntR V nb f k l = 20000 + 100 * n + p
  | 0, k, l, h0, h1, h2, h3, h4, h5 => by omega
  | f + 1, k, l, h0, h1, h2, h3, h4, h5 => by
    have hk : k < V nb 0 := by
      rcases (show k < V nb 0 ∨ k = V nb 0 by omega) with q | q
      · exact q
      · rw [q] at h4
        omega
    unfold ntR
    rw [if_pos hk]
    by_cases c : l < V (nb + 4) k
    · rw [if_pos c]
      have := no_u hN h5 (n' := k) (p' := l) ⟨⟨h0, h1⟩, rfl, fun _ => ⟨h3, c⟩, fun q => by omega⟩
      rw [this.1, this.2]
    · rw [if_neg c]
      have e := SL_s V nb h0
      refine ntR_at hN f (k + 1) (l - V (nb + 4) k) (by omega) (by omega) (by omega) (by omega) (by omega) ?_
      rw [show SL V nb 0 (k + 1) + (l - V (nb + 4) k) = SL V nb 0 k + l by omega]
      exact h5
/-- the lines of notes on a page; their number ahead of it -/
def cntN (V L : Sto) (s q : Int) : Int := L 138 q + SL V (nbS s) (L 141 q) (L 141 q + L 140 q) - L 139 q
def offN (V L : Sto) (s q : Int) : Int := SL V (nbS s) 0 (L 141 q) - L 138 q
theorem pg {V L : Sto} {h : Int} (hk : LK V h L) {k s : Int} (hj : 0 ≤ k ∧ k < L 0 2) (hs : s = 0 ∨ s = 1) : pgOK V L h (2 * k + s) s := (hk.2.1.2.1.2.2.2.2 k s hj.1 hj.2 hs).1
theorem cnt_b {V L : Sto} {h : Int} (hk : LK V h L) {k s : Int} (hj : 0 ≤ k ∧ k < L 0 2) (hs : s = 0 ∨ s = 1) : (0 ≤ cntN V L s (2 * k + s) ∧ cntN V L s (2 * k + s) ≤ 410) ∧ offN V L s (2 * k + s) + cntN V L s (2 * k + s) = SL V (nbS s) 0 (L 141 (2 * k + s) + L 140 (2 * k + s)) - L 139 (2 * k + s) := by
  obtain ⟨g1, g2, g3, g4, g5, g6, g7, g8, g9, g10⟩ := pg hk hj hs
  have d := (hk.2.2.1.2.1 k hj.1 hj.2 s hs).2.2.2.2
  have hN := nok hk.1 hs
  have b := SL_b (E := V) (nb := nbS s) (a := L 141 (2 * k + s)) (b := L 141 (2 * k + s) + L 140 (2 * k + s)) (by omega) g7 g8 hN.2
  have e := SL_add (E := V) (nb := nbS s) (a := 0) (b := L 141 (2 * k + s)) (c := L 141 (2 * k + s) + L 140 (2 * k + s)) g7 (by omega)
  have := hN.1
  unfold cntN offN
  refine ⟨⟨?_, by omega⟩, by omega⟩
  by_cases c : 0 < L 139 (2 * k + s)
  · have d := d c
    have f := SL_s V (nbS s) (a := L 141 (2 * k + s)) (b := L 141 (2 * k + s) + L 140 (2 * k + s) - 1) (by omega)
    rw [show L 141 (2 * k + s) + L 140 (2 * k + s) - 1 + 1 = L 141 (2 * k + s) + L 140 (2 * k + s) by omega] at f
    have := SL_b (E := V) (nb := nbS s) (a := L 141 (2 * k + s)) (b := L 141 (2 * k + s) + L 140 (2 * k + s) - 1) (by omega) g7 (by omega) hN.2
    omega
  · omega
theorem noteR_at {V L : Sto} {h : Int} (hk : LK V h L) {k s n p l : Int} (hj : 0 ≤ k ∧ k < L 0 2) (hs : s = 0 ∨ s = 1) (hl : 0 ≤ l ∧ l < cntN V L s (2 * k + s)) (hn : NO V (nbS s) n p (offN V L s (2 * k + s) + l)) :
    noteR V L s (2 * k + s) l = 20000 + 100 * n + p ∧ n < L 141 (2 * k + s) + L 140 (2 * k + s) := by
  obtain ⟨g1, g2, g3, g4, g5, g6, g7, g8, g9, g10⟩ := pg hk hj hs
  have hN := nok hk.1 hs
  have hc := cnt_b hk hj hs
  have lt := no_lt hN hn (b := L 141 (2 * k + s) + L 140 (2 * k + s)) (by omega) g8 (by omega)
  refine ⟨?_, lt⟩
  unfold noteR
  unfold offN at hn
  by_cases c : l < L 138 (2 * k + s) ∧ 0 < L 141 (2 * k + s)
  · rw [if_pos c]
    have g := g10 (by omega)
    have f := SL_s V (nbS s) (a := 0) (b := L 141 (2 * k + s) - 1) (by omega)
    rw [show L 141 (2 * k + s) - 1 + 1 = L 141 (2 * k + s) by omega] at f
    have u := no_u hN hn (n' := L 141 (2 * k + s) - 1) (p' := V (nbS s + 4) (L 141 (2 * k + s) - 1) - L 138 (2 * k + s) + l) ⟨⟨by omega, by omega⟩, by omega, fun _ => ⟨by omega, by omega⟩, fun q => by omega⟩
    rw [u.1, u.2]
    omega
  · rw [if_neg c]
    have lc : L 138 (2 * k + s) ≤ l := by
      rcases (show L 138 (2 * k + s) ≤ l ∨ l < L 138 (2 * k + s) by omega) with q | q
      · exact q
      · exact absurd ⟨q, (g10 (by omega)).1⟩ c
    have m := SL_m hN (a := L 141 (2 * k + s) + L 140 (2 * k + s)) (b := V (nbS s) 0) (by omega) g8 (Int.le_refl _)
    have h2 := hc.2
    unfold offN at h2
    refine ntR_at hN 41 _ _ g7 (by omega) (by have := hN.1; omega) (by omega) (by omega) ?_
    rw [show SL V (nbS s) 0 (L 141 (2 * k + s)) + (l - L 138 (2 * k + s)) = SL V (nbS s) 0 (L 141 (2 * k + s)) - L 138 (2 * k + s) + l by omega]
    exact hn
/-- a page's note, its line stands on the page's spread or ahead of it -/
theorem note_sp {V L : Sto} {h : Int} (hk : LK V h L) {k s n : Int} (hj : 0 ≤ k ∧ k < L 0 2) (hs : s = 0 ∨ s = 1) (hn : 0 ≤ n ∧ n < L 141 (2 * k + s) + L 140 (2 * k + s)) : isL V (V (nbS s + 2) n) s (V (nbS s + 3) n) ∧ ∀ i j, IsSeg L (V (nbS s + 2) n) s (V (nbS s + 3) n) i → IsSp L i j → j ≤ k := by
  obtain ⟨hO, hR, -⟩ := nbO hk.1 hs
  have d := (hk.2.2.1.2.1 k hj.1 hj.2 s hs).2.2.2.1
  have p := hk.2.1.2.1.2.1 k hj.1 hj.2
  rw [d] at hn
  obtain ⟨a1, a2, a3, a4⟩ := nA_is hO (stP L (L 123 (k + 1))) (stF L s (L 123 (k + 1)))
  have b := a3 n hn.1 hn.2
  have r := hR n hn.1 (by omega)
  refine ⟨⟨r.1, ?_⟩, fun i j hi hj' => ?_⟩
  · rcases hs with rfl | rfl
    · exact Or.inl ⟨rfl, r.2.1⟩
    · exact Or.inr ⟨rfl, r.2.1⟩
  · exact sp_le hj' hj.1 (seg_lt hk hs hi.1.2 (by omega) hi.2.1 b)
/-- the notes, up to a row of a page -/
def bgN (L : Sto) (h q : Int) : Int := max (h - L 136 q) (L 135 q)
def NS (V L : Sto) (h s q row n p noted : Int) : Prop := noted = max 0 (min (row - bgN L h q - V 17 2) (cntN V L s q)) ∧ NO V (nbS s) n p (offN V L s q + noted)
theorem ns_step {V L : Sto} {h : Int} (hk : LK V h L) {k s row n p noted : Int} (hj : 0 ≤ k ∧ k < L 0 2) (hs : s = 0 ∨ s = 1) (hS : NS V L h s (2 * k + s) row n p noted) :
    (L 135 (2 * k + s) ≤ row ∧ noteA V L h s (2 * k + s) row = 20000 + 100 * n + p ∧ (0 ≤ n ∧ n < V (nbS s) 0) ∧ (0 ≤ p ∧ p < V (nbS s + 4) n) ∧ n < L 141 (2 * k + s) + L 140 (2 * k + s) ∧
      NS V L h s (2 * k + s) (row + 1) (if p + 1 = V (nbS s + 4) n then n + 1 else n) (if p + 1 = V (nbS s + 4) n then 0 else p + 1) (noted + 1)) ∨
    ((noteA V L h s (2 * k + s) row = 0 ∨ noteA V L h s (2 * k + s) row = 30000) ∧ NS V L h s (2 * k + s) (row + 1) n p noted) := by
  obtain ⟨h1, h2⟩ := hS
  obtain ⟨g1, g2, g3, g4, g5, g6, g7, g8, g9, g10⟩ := pg hk hj hs
  have hK : StK V := hk.1.2.2.2.2.2.2.2
  have hr : 0 ≤ V 17 2 ∧ V 17 2 ≤ 2 := hK.2.2.1
  have hc := cnt_b hk hj hs
  have e9 : L 136 (2 * k + s) = if 0 < cntN V L s (2 * k + s) then V 17 2 + cntN V L s (2 * k + s) else 0 := g9
  have hN := nok hk.1 hs
  unfold noteA
  have eb : max (h - L 136 (2 * k + s)) (L 135 (2 * k + s)) = bgN L h (2 * k + s) := rfl
  have b5 : L 135 (2 * k + s) ≤ bgN L h (2 * k + s) := by unfold bgN; omega
  rw [eb]
  by_cases c : bgN L h (2 * k + s) ≤ row ∧ row ≤ bgN L h (2 * k + s) + L 136 (2 * k + s) - 1
  · rw [if_pos c]
    have hcp : 0 < cntN V L s (2 * k + s) := by
      rcases (show 0 < cntN V L s (2 * k + s) ∨ ¬ 0 < cntN V L s (2 * k + s) by omega) with q | q
      · exact q
      · rw [if_neg q] at e9
        omega
    rw [if_pos hcp] at e9
    by_cases d : row - bgN L h (2 * k + s) - V 17 2 < 0
    · rw [if_pos d]
      right
      have z : noted = 0 := by omega
      refine ⟨Or.inr rfl, ?_, h2⟩
      omega
    · rw [if_neg d]
      left
      have z : noted = row - bgN L h (2 * k + s) - V 17 2 := by omega
      rw [← z]
      have lt : noted < cntN V L s (2 * k + s) := by omega
      obtain ⟨r1, r2⟩ := noteR_at hk hj hs (l := noted) ⟨by omega, lt⟩ h2
      have nl : n < V (nbS s) 0 := by omega
      refine ⟨by omega, r1, ⟨h2.1.1, nl⟩, h2.2.2.1 nl, r2, by omega, ?_⟩
      rw [show offN V L s (2 * k + s) + (noted + 1) = offN V L s (2 * k + s) + noted + 1 by omega]
      exact no_s hN h2 nl
  · rw [if_neg c]
    right
    refine ⟨Or.inl rfl, ?_, h2⟩
    by_cases q : 0 < cntN V L s (2 * k + s)
    · rw [if_pos q] at e9
      omega
    · omega
theorem ns_0 {V L : Sto} {h : Int} (hk : LK V h L) {k s n p : Int} (hj : 0 ≤ k ∧ k < L 0 2) (hs : s = 0 ∨ s = 1) (hn : NO V (nbS s) n p (offN V L s (2 * k + s))) : NS V L h s (2 * k + s) 0 n p 0 := by
  obtain ⟨g1, g2, -⟩ := pg hk hj hs
  have hK : StK V := hk.1.2.2.2.2.2.2.2
  have hr : 0 ≤ V 17 2 := hK.2.2.1.1
  have hc := cnt_b hk hj hs
  refine ⟨?_, by rw [Int.add_zero]; exact hn⟩
  unfold bgN
  omega
theorem ns_end {V L : Sto} {h : Int} (hk : LK V h L) {k s n p noted : Int} (hh : h ≤ 60) (hj : 0 ≤ k ∧ k < L 0 2) (hs : s = 0 ∨ s = 1) (hw : L 135 (2 * k + s) + L 136 (2 * k + s) ≤ 99) (hS : NS V L h s (2 * k + s) 100 n p noted) :
    (noted = 0 ↔ L 136 (2 * k + s) = 0) ∧ NO V (nbS s) n p (SL V (nbS s) 0 (L 141 (2 * k + s) + L 140 (2 * k + s)) - L 139 (2 * k + s)) := by
  obtain ⟨h1, h2⟩ := hS
  obtain ⟨g1, g2, g3, g4, g5, g6, g7, g8, g9, g10⟩ := pg hk hj hs
  have hK : StK V := hk.1.2.2.2.2.2.2.2
  have hr : 0 ≤ V 17 2 ∧ V 17 2 ≤ 2 := hK.2.2.1
  have hc := cnt_b hk hj hs
  have e9 : L 136 (2 * k + s) = if 0 < cntN V L s (2 * k + s) then V 17 2 + cntN V L s (2 * k + s) else 0 := g9
  have z : noted = cntN V L s (2 * k + s) := by
    unfold bgN at h1
    by_cases q : 0 < cntN V L s (2 * k + s)
    · rw [if_pos q] at e9
      omega
    · omega
  refine ⟨?_, ?_⟩
  · by_cases q : 0 < cntN V L s (2 * k + s)
    · rw [if_pos q] at e9
      omega
    · rw [if_neg q] at e9
      omega
  · rw [← hc.2, ← z]
    exact h2
/-- between the spreads -/
def offK (V L : Sto) (s k : Int) : Int := if k < L 0 2 then offN V L s (2 * k + s) else SL V (nbS s) 0 (V (nbS s) 0)
theorem off_nx {V L : Sto} {h : Int} (hk : LK V h L) {k s : Int} (hj : 0 ≤ k ∧ k < L 0 2) (hs : s = 0 ∨ s = 1) : offK V L s (k + 1) = SL V (nbS s) 0 (L 141 (2 * k + s) + L 140 (2 * k + s)) - L 139 (2 * k + s) := by
  obtain ⟨-, q1, q2⟩ := hk.2.1.2.1.2.2.2.2 k s hj.1 hj.2 hs
  unfold offK
  by_cases c : k + 1 < L 0 2
  · have q1 := q1 c
    rw [if_pos c]
    unfold offN
    rw [show 2 * (k + 1) + s = 2 * k + 2 + s by omega, q1.1, q1.2]
  · have q2 := q2 (by omega)
    have d := (hk.2.2.1.2.1 k hj.1 hj.2 s hs).2.2.2.1
    have e := st_end hk
    obtain ⟨-, -, -, l4, -, -, l7, l8⟩ := hk.2.1
    rw [if_neg c]
    rw [show k + 1 = L 0 2 by omega, l4, e.1, e.2 s hs] at d
    have hO := nbO hk.1 hs
    rw [d, nA_all hO.1 hO.2.1]
    have : L 3 s = 0 := by
      rcases hs with rfl | rfl
      · exact l7
      · exact l8
    omega
theorem off_0 {V L : Sto} {h : Int} (hk : LK V h L) {s : Int} (hs : s = 0 ∨ s = 1) : stP L (L 123 0) = 0 ∧ stF L s (L 123 0) = 0 ∧ NO V (nbS s) 0 0 (offK V L s 0) := by
  have hN := nok hk.1 hs
  obtain ⟨p1, p2, p3, p4, p5⟩ := hk.2.1.2.1
  have t := hk.2.2.1.1.1
  rw [p1]
  refine ⟨t.1, t.2 s hs, ⟨Int.le_refl _, hN.1.1⟩, ?_, fun q => ?_, fun _ => rfl⟩
  · rw [SL_0]
    unfold offK
    by_cases c : 0 < L 0 2
    · rw [if_pos c]
      have := p4 c s hs
      unfold offN
      rw [show 2 * 0 + s = s by omega, this.1, this.2, SL_0]
      omega
    · rw [if_neg c]
      have n2 := hk.2.1.2.2.1.2.2.2.1
      have l4 := hk.2.1.2.2.2.1
      rw [show L 0 2 = 0 by omega, p1] at l4
      have e := st_end hk
      rw [← l4, t.1] at e
      have hO := nbO hk.1 hs
      have a := nA_all hO.1 hO.2.1
      rw [← e.1, nA_0 hO.1 hO.2.1] at a
      rw [← a, SL_0]
      omega
  · have := hN.2 0 (Int.le_refl _) q
    omega
