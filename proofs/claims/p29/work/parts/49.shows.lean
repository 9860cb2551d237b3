/-! ===== what the pages show ===== -/
/-- all that is known of the spreads of an edition at a height -/
def LK (V : Sto) (h : Int) (L : Sto) : Prop := EdOK V ∧ LOK V h L ∧ TI V L ∧ SD V L
theorem lay_lk {V : Sto} {h : Int} (hV : EdOK V) (hh : h ≤ 60) : LK V h (lay V h) := ⟨hV, lay_ok hV hh, (lay_tk hV hh).1, (lay_tk hV hh).2⟩
def lxl (p f p' f' : Int) : Prop := p < p' ∨ p = p' ∧ f ≤ f'
def lxs (p f p' f' : Int) : Prop := p < p' ∨ p = p' ∧ f < f'
theorem st_end {V L : Sto} {h : Int} (hk : LK V h L) : stP L (L 0 1) = V 1 0 ∧ ∀ s, (s = 0 ∨ s = 1) → stF L s (L 0 1) = 0 := by
  obtain ⟨hV, ⟨-, -, l3, l4, l5, -⟩, -⟩ := hk
  refine ⟨?_, fun s hs => ?_⟩
  · unfold stP
    rw [if_neg (by omega)]
    exact l5
  · unfold stF
    rw [if_neg (by omega)]
    exact (l3.2.2.2.2.2 s hs).1.2.2 l5
theorem stq {L : Sto} {k : Int} (h : k < L 0 1) : stP L k = L 126 k ∧ ∀ s, stF L s k = L (sF s) k := by
  unfold stP stF
  exact ⟨if_pos h, fun s => if_pos h⟩
theorem st_step {V L : Sto} {h : Int} (hk : LK V h L) {k s : Int} (k0 : 0 ≤ k) (k1 : k < L 0 1) (hs : s = 0 ∨ s = 1) : 1 ≤ L (sN s) k ∧ ((L (sF s) k + L (sN s) k < V (3 + s.toNat) (L 126 k) ∧ stP L (k + 1) = L 126 k ∧ stF L s (k + 1) = L (sF s) k + L (sN s) k) ∨ (L (sF s) k + L (sN s) k = V (3 + s.toNat) (L 126 k) ∧ stP L (k + 1) = L 126 k + 1 ∧ stF L s (k + 1) = 0)) := hk.2.2.1.1.2 k s k0 k1 hs
theorem st_mono {V L : Sto} {h : Int} (hk : LK V h L) {s : Int} (hs : s = 0 ∨ s = 1) {i : Int} (i0 : 0 ≤ i) : ∀ n : Nat, i + n ≤ L 0 1 → lxl (stP L i) (stF L s i) (stP L (i + n)) (stF L s (i + n))
  | 0, _ => by
    rw [show i + ((0 : Nat) : Int) = i by omega]
    exact Or.inr ⟨rfl, Int.le_refl _⟩
  | n + 1, h1 => by
    have ih := st_mono hk hs i0 n (by omega)
    have e := st_step hk (k := i + n) (s := s) (by omega) (by omega) hs
    have q := stq (L := L) (k := i + n) (by omega)
    rw [q.1, q.2 s] at ih
    rw [show i + ((n + 1 : Nat) : Int) = i + n + 1 by omega]
    unfold lxl at *
    omega
theorem seg_nx {V L : Sto} {h : Int} (hk : LK V h L) {s : Int} (hs : s = 0 ∨ s = 1) {i p x : Int} (i0 : 0 ≤ i) (i1 : i < L 0 1) (hi : inSeg L i p s x) : lxs p x (stP L (i + 1)) (stF L s (i + 1)) := by
  have e := st_step hk i0 i1 hs
  unfold inSeg at hi
  unfold lxs
  omega
/-- a line that stands ahead of a segment's start stands in an earlier one -/
theorem seg_lt {V L : Sto} {h : Int} (hk : LK V h L) {s : Int} (hs : s = 0 ∨ s = 1) {i m p x : Int} (i1 : i < L 0 1) (m0 : 0 ≤ m) (hi : inSeg L i p s x) (hm : lxs p x (stP L m) (stF L s m)) : i < m := by
  rcases (show i < m ∨ m ≤ i by omega) with q | q
  · exact q
  · exfalso
    have e := st_mono hk hs m0 (i - m).toNat (by omega)
    rw [show m + ((i - m).toNat : Int) = i by omega, (stq i1).1, (stq i1).2 s] at e
    unfold inSeg at hi
    unfold lxl at e
    unfold lxs at hm
    omega
theorem seg_u {V L : Sto} {h : Int} (hk : LK V h L) {s : Int} (hs : s = 0 ∨ s = 1) {i i' p x : Int} (h0 : 0 ≤ i ∧ i < L 0 1) (h1 : 0 ≤ i' ∧ i' < L 0 1) (hi : inSeg L i p s x) (hi' : inSeg L i' p s x) : i = i' := by
  have a := seg_lt hk hs h0.2 (m := i' + 1) (by omega) hi (seg_nx hk hs h1.1 h1.2 hi')
  have b := seg_lt hk hs h1.2 (m := i + 1) (by omega) hi' (seg_nx hk hs h0.1 h0.2 hi)
  omega
theorem m123 {V L : Sto} {h : Int} (hk : LK V h L) {i : Int} (i0 : 0 ≤ i) : ∀ n : Nat, i + n ≤ L 0 2 → L 123 i ≤ L 123 (i + n)
  | 0, _ => by rw [show i + ((0 : Nat) : Int) = i by omega]; exact Int.le_refl _
  | n + 1, h1 => by
    have ih := m123 hk i0 n (by omega)
    have e := hk.2.1.2.1.2.1 (i + n) (by omega) (by omega)
    rw [show i + ((n + 1 : Nat) : Int) = i + n + 1 by omega]
    omega
theorem m123' {V L : Sto} {h : Int} (hk : LK V h L) {i j : Int} (i0 : 0 ≤ i) (hj : i ≤ j) (h1 : j ≤ L 0 2) : L 123 i ≤ L 123 j := by
  have := m123 hk i0 (j - i).toNat (by omega)
  rwa [show i + ((j - i).toNat : Int) = j by omega] at this
theorem sp_le {L : Sto} {k j j' : Int} (hj : IsSp L k j) (h0 : 0 ≤ j') (h1 : k < L 123 (j' + 1)) : j ≤ j' := by
  rcases (show j ≤ j' ∨ j' < j by omega) with q | q
  · exact q
  · have := hj.2.2 j' h0 q
    omega
theorem sp_u {V L : Sto} {h : Int} (hk : LK V h L) {k j j' : Int} (hj : IsSp L k j) (h0 : 0 ≤ j' ∧ j' < L 0 2) (h1 : L 123 j' ≤ k ∧ k < L 123 (j' + 1)) : j = j' := by
  have a := sp_le hj h0.1 h1.2
  rcases (show j = j' ∨ j < j' by omega) with q | q
  · exact q
  · have := m123' hk (i := j + 1) (j := j') (by have := hj.1; omega) (by omega) (by omega)
    have := hj.2.1
    omega
/-- the rows of a spread's segments -/
theorem rows_c {V L : Sto} {h : Int} (hk : LK V h L) {j s : Int} (hj : 0 ≤ j ∧ j < L 0 2) (hs : s = 0 ∨ s = 1) {i : Int} (i0 : L 123 j ≤ i) : ∀ n : Nat, i + n + 1 < L 123 (j + 1) → L (sB s) i + L (sN s) i ≤ L (sB s) (i + n + 1)
  | 0, h1 => by
    have := (hk.2.2.1.2.1 j hj.1 hj.2 s hs).1 i i0 (by omega)
    rw [show i + ((0 : Nat) : Int) + 1 = i + 1 by omega]
    exact this
  | n + 1, h1 => by
    have ih := rows_c hk hj hs i0 n (by omega)
    have := (hk.2.2.1.2.1 j hj.1 hj.2 s hs).1 (i + n + 1) (by omega) (by omega)
    have p := hk.2.1.2.1.2.1 j hj.1 hj.2
    have e := st_step hk (k := i + n + 1) (s := s) (by omega) (by omega) hs
    rw [show i + ((n + 1 : Nat) : Int) + 1 = i + n + 1 + 1 by omega]
    omega
theorem rows_lt {V L : Sto} {h : Int} (hk : LK V h L) {j s : Int} (hj : 0 ≤ j ∧ j < L 0 2) (hs : s = 0 ∨ s = 1) {i i' : Int} (i0 : L 123 j ≤ i) (hi : i < i') (h1 : i' < L 123 (j + 1)) : L (sB s) i + L (sN s) i ≤ L (sB s) i' := by
  have := rows_c hk hj hs i0 (i' - i - 1).toNat (by omega)
  rwa [show i + ((i' - i - 1).toNat : Int) + 1 = i' by omega] at this
theorem rows_end {V L : Sto} {h : Int} (hk : LK V h L) {j s : Int} (hj : 0 ≤ j ∧ j < L 0 2) (hs : s = 0 ∨ s = 1) {i : Int} (i0 : L 123 j ≤ i) (h1 : i < L 123 (j + 1)) : L (sB s) i + L (sN s) i ≤ L 135 (2 * j + s) := by
  have e := (hk.2.2.1.2.1 j hj.1 hj.2 s hs).2.2.1 (by omega)
  by_cases c : i = L 123 (j + 1) - 1
  · rw [c]
    omega
  · have a := rows_lt hk hj hs i0 (i' := L 123 (j + 1) - 1) (by omega) (by omega)
    have p := hk.2.1.2.1.2.1 j hj.1 hj.2
    have e := st_step hk (k := L 123 (j + 1) - 1) (s := s) (by omega) (by omega) hs
    omega
def inRow (L : Sto) (s k row : Int) : Prop := L (sB s) k ≤ row ∧ row < L (sB s) k + L (sN s) k
theorem txR_hit {L : Sto} {s row e m : Int} (h1 : m < e) (hm : inRow L s m row) : ∀ (n : Nat) (k : Int), k ≤ m → m - k < n → (∀ i, k ≤ i → i < m → ¬ inRow L s i row) → txR L s row e n k = 10000 + 100 * L 126 m + (L (sF s) m + (row - L (sB s) m))
  | 0, k, h2, h3, _ => by omega
  | n + 1, k, h2, h3, h4 => by
    unfold txR
    rw [if_pos (by omega)]
    by_cases c : k = m
    · rw [c]
      exact if_pos hm
    · rw [if_neg (show ¬ (L (sB s) k ≤ row ∧ row < L (sB s) k + L (sN s) k) from h4 k (Int.le_refl _) (by omega))]
      exact txR_hit h1 hm n (k + 1) (by omega) (by omega) (fun i i0 i1 => h4 i (by omega) i1)
theorem txR_none {L : Sto} {s row e : Int} : ∀ (n : Nat) (k : Int), (∀ i, k ≤ i → i < e → ¬ inRow L s i row) → txR L s row e n k = 0
  | 0, _, _ => rfl
  | n + 1, k, h => by
    unfold txR
    by_cases c : k < e
    · rw [if_pos c, if_neg (show ¬ (L (sB s) k ≤ row ∧ row < L (sB s) k + L (sN s) k) from h k (Int.le_refl _) c)]
      exact txR_none n (k + 1) (fun i i0 i1 => h i (by omega) i1)
    · rw [if_neg c]
/-- the text, up to a row of a page -/
def TS (L : Sto) (s k row pair line text : Int) : Prop := ∃ m, (L 123 k ≤ m ∧ m ≤ L 123 (k + 1)) ∧ (L 123 k < m → L (sB s) (m - 1) + L (sN s) (m - 1) ≤ row) ∧ (m < L 123 (k + 1) → row < L (sB s) m + L (sN s) m) ∧
  ((m < L 123 (k + 1) ∧ L (sB s) m < row ∧ pair = L 126 m ∧ line = L (sF s) m + (row - L (sB s) m) ∧ text = row) ∨ ((m < L 123 (k + 1) → row ≤ L (sB s) m) ∧ pair = stP L m ∧ line = stF L s m ∧ text = (if L 123 k < m then L (sB s) (m - 1) + L (sN s) (m - 1) else 0)))
theorem lns (V : Sto) {s : Int} (hs : s = 0 ∨ s = 1) (p : Int) : V (3 + s.toNat) p = if s = 0 then V 3 p else V 4 p := by rcases hs with rfl | rfl <;> rfl
theorem isl_of {V L : Sto} {h : Int} (hk : LK V h L) {s : Int} (hs : s = 0 ∨ s = 1) {i p x : Int} (h0 : 0 ≤ i ∧ i < L 0 1) (hi : inSeg L i p s x) : isL V p s x ∧ x < V (3 + s.toNat) p ∧ V (3 + s.toNat) p ≤ 30 := by
  obtain ⟨c1, c2, c3, -⟩ := hk.2.1.1.1 i h0.1 h0.2
  obtain ⟨i1, i2, i3⟩ := hi
  have l := hk.1.2.1 p (by omega) (by omega)
  rw [← i1] at l ⊢
  rw [lns V hs]
  unfold isL
  rcases hs with rfl | rfl
  · simp only [s0v] at i2 i3
    simp only [if_true]
    exact ⟨⟨c1, Or.inl ⟨trivial, by omega, by omega⟩⟩, by omega, by omega⟩
  · simp only [s0v] at i2 i3
    simp only [Int.reduceEq, if_false]
    exact ⟨⟨c1, Or.inr ⟨trivial, by omega, by omega⟩⟩, by omega, by omega⟩
theorem ts_step {V L : Sto} {h : Int} (hk : LK V h L) {k s row pair line text : Int} (hj : 0 ≤ k ∧ k < L 0 2) (hs : s = 0 ∨ s = 1) (hT : TS L s k row pair line text) :
    (∃ m, (L 123 k ≤ m ∧ m < L 123 (k + 1)) ∧ (0 ≤ m ∧ m < L 0 1) ∧ inSeg L m pair s line ∧ row = L (sB s) m + line - L (sF s) m ∧ row < L 135 (2 * k + s) ∧ txR L s row (L 123 (k + 1)) 700 (L 123 k) = 10000 + 100 * pair + line ∧
      TS L s k (row + 1) (if line + 1 = V (3 + s.toNat) pair then pair + 1 else pair) (if line + 1 = V (3 + s.toNat) pair then 0 else line + 1) (row + 1)) ∨
    (txR L s row (L 123 (k + 1)) 700 (L 123 k) = 0 ∧ TS L s k (row + 1) pair line text) := by
  obtain ⟨m, hm, h1, h2, h3⟩ := hT
  have p := hk.2.1.2.1.2.1 k hj.1 hj.2
  have p6 := hk.2.1.2.2.2.2.2.1
  have early : ∀ i, L 123 k ≤ i → i < m → ¬ inRow L s i row := by
    intro i i0 i1 q
    unfold inRow at q
    have e1 := h1 (by omega)
    by_cases c : i = m - 1
    · rw [c] at q
      omega
    · have := rows_lt hk hj hs i0 (i' := m - 1) (by omega) (by omega)
      have e := st_step hk (k := m - 1) (s := s) (by omega) (by omega) hs
      omega
  by_cases c : m < L 123 (k + 1) ∧ L (sB s) m ≤ row
  · left
    have hst := st_step hk (k := m) (s := s) (by omega) (by omega) hs
    have hin := stq (L := L) (k := m) (by omega)
    have e : pair = L 126 m ∧ line = L (sF s) m + (row - L (sB s) m) := by
      rcases h3 with ⟨-, -, q1, q2, -⟩ | ⟨q0, q1, q2, -⟩
      · exact ⟨q1, q2⟩
      · have := q0 c.1
        rw [hin.1] at q1
        rw [hin.2 s] at q2
        exact ⟨q1, by omega⟩
    have r2 := h2 c.1
    have hi : inSeg L m pair s line := ⟨e.1.symm, by omega, by omega⟩
    have re := rows_end hk hj hs (i := m) (by omega) c.1
    refine ⟨m, ⟨by omega, c.1⟩, ⟨by omega, by omega⟩, hi, by omega, by omega, ?_, ?_⟩
    · rw [txR_hit c.1 ⟨c.2, r2⟩ 700 (L 123 k) (by omega) (by omega) early, e.1, e.2]
    · by_cases d : row + 1 < L (sB s) m + L (sN s) m
      · have nw : ¬ (line + 1 = V (3 + s.toNat) pair) := by
          rw [e.1]
          omega
        rw [if_neg nw, if_neg nw]
        exact ⟨m, hm, fun q => by have := h1 q; omega, fun _ => d, Or.inl ⟨c.1, by omega, e.1, by omega, rfl⟩⟩
      · have hl : line + 1 = L (sF s) m + L (sN s) m := by omega
        have fin : ∀ P F, P = stP L (m + 1) → F = stF L s (m + 1) → TS L s k (row + 1) P F (row + 1) := by
          intro P F hP hF
          refine ⟨m + 1, ⟨by omega, by omega⟩, fun _ => ?_, fun q => ?_, Or.inr ⟨fun q => ?_, hP, hF, ?_⟩⟩
          · rw [show m + 1 - 1 = m by omega]
            omega
          · have := rows_lt hk hj hs (i := m) (i' := m + 1) (by omega) (by omega) q
            have e := st_step hk (k := m + 1) (s := s) (by omega) (by omega) hs
            omega
          · have := rows_lt hk hj hs (i := m) (i' := m + 1) (by omega) (by omega) q
            omega
          · rw [if_pos (by omega), show m + 1 - 1 = m by omega]
            omega
        rcases hst.2 with ⟨q1, q2, q3⟩ | ⟨q1, q2, q3⟩
        · have nw : ¬ (line + 1 = V (3 + s.toNat) pair) := by
            rw [e.1]
            omega
          rw [if_neg nw, if_neg nw]
          exact fin _ _ (by rw [q2]; exact e.1) (by rw [q3]; exact hl)
        · have nw : line + 1 = V (3 + s.toNat) pair := by
            rw [e.1]
            omega
          rw [if_pos nw, if_pos nw]
          exact fin _ _ (by rw [q2, e.1]) q3.symm
  · right
    have e : (m < L 123 (k + 1) → row < L (sB s) m) ∧ pair = stP L m ∧ line = stF L s m ∧ text = (if L 123 k < m then L (sB s) (m - 1) + L (sN s) (m - 1) else 0) := by
      rcases h3 with ⟨q0, q1, -⟩ | ⟨q0, q1⟩
      · exact absurd ⟨q0, by omega⟩ c
      · refine ⟨fun q => ?_, q1⟩
        rcases (show row < L (sB s) m ∨ L (sB s) m ≤ row by omega) with z | z
        · exact z
        · exact absurd ⟨q, z⟩ c
    refine ⟨txR_none _ _ (fun i i0 i1 q => ?_), m, hm, fun q => by have := h1 q; omega, fun q => ?_, Or.inr ⟨fun q => ?_, e.2⟩⟩
    · by_cases d : i < m
      · exact early i i0 d q
      · unfold inRow at q
        have e1 := e.1 (by omega)
        by_cases f : i = m
        · rw [f] at q
          omega
        · have := rows_lt hk hj hs (i := m) (i' := i) (by omega) (by omega) i1
          have e := st_step hk (k := m) (s := s) (by omega) (by omega) hs
          omega
    · have := e.1 q
      have e := st_step hk (k := m) (s := s) (by omega) (by omega) hs
      omega
    · have := e.1 q
      omega
theorem ts_0 {V L : Sto} {h : Int} (hk : LK V h L) {k s : Int} (hj : 0 ≤ k ∧ k < L 0 2) (hs : s = 0 ∨ s = 1) : TS L s k 0 (stP L (L 123 k)) (stF L s (L 123 k)) 0 := by
  have p := hk.2.1.2.1.2.1 k hj.1 hj.2
  have b : L 123 k < L 0 1 → 0 ≤ L (sB s) (L 123 k) := fun q => by
    obtain ⟨-, -, -, c4, c5, -⟩ := hk.2.1.1.1 (L 123 k) p.1 q
    rcases hs with rfl | rfl
    · exact c4.1
    · exact c5.1
  refine ⟨L 123 k, ⟨Int.le_refl _, by omega⟩, fun q => by omega, fun q => ?_, Or.inr ⟨fun q => ?_, rfl, rfl, by rw [if_neg (by omega)]⟩⟩
  · have := b (by omega)
    have e := st_step hk (k := L 123 k) (s := s) (by omega) (by omega) hs
    omega
  · exact b (by omega)
theorem ts_end {V L : Sto} {h : Int} (hk : LK V h L) {k s pair line text row : Int} (hj : 0 ≤ k ∧ k < L 0 2) (hs : s = 0 ∨ s = 1) (hw : L 135 (2 * k + s) ≤ row) (hT : TS L s k row pair line text) : pair = stP L (L 123 (k + 1)) ∧ line = stF L s (L 123 (k + 1)) ∧ text = L 135 (2 * k + s) := by
  obtain ⟨m, hm, h1, h2, h3⟩ := hT
  have p := hk.2.1.2.1.2.1 k hj.1 hj.2
  have d := hk.2.2.1.2.1 k hj.1 hj.2 s hs
  have e : m = L 123 (k + 1) := by
    rcases (show m = L 123 (k + 1) ∨ m < L 123 (k + 1) by omega) with q | q
    · exact q
    · have := h2 q
      have := rows_end hk hj hs (i := m) (by omega) q
      omega
  rcases h3 with ⟨q, -⟩ | ⟨-, q1, q2, q3⟩
  · omega
  · rw [e] at q1 q2 q3
    refine ⟨q1, q2, ?_⟩
    rw [q3]
    by_cases c : L 123 k < L 123 (k + 1)
    · rw [if_pos c]
      exact d.2.2.1 c
    · rw [if_neg c]
      exact (d.2.1 (by omega)).symm
