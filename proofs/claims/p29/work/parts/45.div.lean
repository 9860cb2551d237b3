/-! ===== the best division ===== -/
def pit (V : Sto) (p s : Int) : Int := if V 17 5 = 1 then max (V 3 p) (V 4 p) else V (3 + s.toNat) p
def gNx (V : Sto) (i s : Int) : Nat → Int
  | 0 => 0
  | n + 1 => gNx V i s n + (pit V (i + n) s + V 17 1)
def gT (V : Sto) (i s j : Int) : Int := gNx V i s (j - 1 - i).toNat + V (3 + s.toNat) (j - 1)
noncomputable def gNt (V : Sto) (i s j : Int) : Int := SL V (nbS s) (nA V (nbS s) i 0) (nA V (nbS s) j 0)
noncomputable def gR (V : Sto) (i s j : Int) : Int := gT V i s j + rws (V 17 2) (gNt V i s j)
def gFit (V : Sto) (i j : Int) : Prop := gR V i 0 j ≤ V 17 0 ∧ gR V i 1 j ≤ V 17 0
def isG (V : Sto) (i j : Int) : Prop := gFit V i j ∧ ∀ p, i < p → p < j → V 6 p = 0
noncomputable def gVal (V : Sto) (i j : Int) : Int := if j < V 1 0 then (V 17 0 - gR V i 0 j) * (V 17 0 - gR V i 0 j) + (V 17 0 - gR V i 1 j) * (V 17 0 - gR V i 1 j) else 0
def BTi (V : Sto) (c : Int → Int) (i z e : Int) : Prop := (c i = -1 ∧ ∀ j, i < j → j ≤ e → isG V i j → c j = -1) ∨ ((0 ≤ c i ∧ c i ≤ 7200 * (V 1 0 - i)) ∧ (i < z ∧ z ≤ e) ∧ isG V i z ∧ 0 ≤ c z ∧ c i = c z + gVal V i z ∧ ∀ j, i < j → j ≤ e → isG V i j → c j ≠ -1 → c i ≤ c j + gVal V i j ∧ (z < j → c i < c j + gVal V i j))
def BT (V : Sto) (c z : Int → Int) : Prop := c (V 1 0) = 0 ∧ ∀ i, 0 ≤ i → i < V 1 0 → BTi V c i (z i) (V 1 0)
theorem bt_uniq {V : Sto} {c z c' z' : Int → Int} (hn : 0 ≤ V 1 0) (h : BT V c z) (h' : BT V c' z') : ∀ n : Nat, n ≤ V 1 0 → c (V 1 0 - n) = c' (V 1 0 - n) ∧ (0 ≤ c (V 1 0 - n) → (n : Int) ≠ 0 → z (V 1 0 - n) = z' (V 1 0 - n)) := by
  intro n
  induction n using Nat.strongRecOn with
  | ind n ih =>
    intro hle
    by_cases e : n = 0
    · subst e
      refine ⟨?_, fun _ q => absurd rfl q⟩
      rw [show V 1 0 - ((0 : Nat) : Int) = V 1 0 by omega, h.1, h'.1]
    obtain ⟨i, hi⟩ : ∃ i, V 1 0 - (n : Int) = i := ⟨_, rfl⟩
    have ih : ∀ j, i < j → j ≤ V 1 0 → c j = c' j := by
      intro j j0 j1
      have := (ih (V 1 0 - j).toNat (by omega) (by omega)).1
      rwa [show V 1 0 - ((V 1 0 - j).toNat : Int) = j by omega] at this
    have a := h.2 i (by omega) (by omega)
    have b := h'.2 i (by omega) (by omega)
    rw [hi]
    rcases a with ⟨a1, a2⟩ | ⟨a1, a2, a3, a4, a5, a6⟩ <;> rcases b with ⟨b1, b2⟩ | ⟨b1, b2, b3, b4, b5, b6⟩
    · exact ⟨by omega, fun q => by omega⟩
    · have := a2 _ b2.1 b2.2 b3
      have := ih _ b2.1 b2.2
      omega
    · have := b2 _ a2.1 a2.2 a3
      have := ih _ a2.1 a2.2
      omega
    · have e1 := ih _ a2.1 a2.2
      have e2 := ih _ b2.1 b2.2
      have p1 := a6 _ b2.1 b2.2 b3 (by omega)
      have p2 := b6 _ a2.1 a2.2 a3 (by omega)
      refine ⟨by omega, fun _ _ => ?_⟩
      rcases Int.lt_trichotomy (z i) (z' i) with q | q | q
      · have := p1.2 q
        omega
      · exact q
      · have := p2.2 q
        omega
theorem pit_b {V : Sto} (hV : EdOK V) {p s : Int} (hp : 0 ≤ p ∧ p < V 1 0) (hs : s = 0 ∨ s = 1) : 1 ≤ pit V p s ∧ pit V p s ≤ 30 ∧ V (3 + s.toNat) p ≤ pit V p s ∧ 1 ≤ V (3 + s.toNat) p := by
  have hl := hV.2.1 p hp.1 hp.2
  unfold pit
  rcases hs with rfl | rfl
  · rw [show (3 + (0 : Int).toNat) = 3 from rfl]
    split <;> omega
  · rw [show (3 + (1 : Int).toNat) = 4 from rfl]
    split <;> omega
theorem gNx_b {V : Sto} (hV : EdOK V) {i s : Int} (hi : 0 ≤ i) (hs : s = 0 ∨ s = 1) : ∀ n : Nat, i + n ≤ V 1 0 → 0 ≤ gNx V i s n ∧ gNx V i s n ≤ 33 * n
  | 0, _ => ⟨Int.le_refl _, Int.le_refl _⟩
  | n + 1, h => by
    have ih := gNx_b hV hi hs n (by omega)
    have := pit_b hV (p := i + n) (by omega) hs
    have hK : 0 ≤ V 17 1 ∧ V 17 1 ≤ 3 := hV.2.2.2.2.2.2.2.2.1
    show 0 ≤ gNx V i s n + (pit V (i + n) s + V 17 1) ∧ gNx V i s n + (pit V (i + n) s + V 17 1) ≤ 33 * ((n + 1 : Nat) : Int)
    omega
theorem nA_mono2 {V : Sto} {nb lb : Nat} (hN : NtO V nb) (hR : NtR V nb lb) {p p' : Int} (h : p ≤ p') : nA V nb p 0 ≤ nA V nb p' 0 := by
  obtain ⟨a1, a2, a3, a4⟩ := nA_is hN p 0
  obtain ⟨b1, b2, b3, b4⟩ := nA_is hN p' 0
  rcases (show nA V nb p 0 ≤ nA V nb p' 0 ∨ nA V nb p' 0 < nA V nb p 0 by omega) with q | q
  · exact q
  · have h1 := a3 _ b1 q
    have h2 := b4 _ (Int.le_refl _) (by omega)
    have h3 := hR _ b1 (by omega)
    unfold bef at h1 h2
    omega
theorem rws_mono {r x y : Int} (hr : 0 ≤ r) (h : x ≤ y) : rws r x ≤ rws r y := by
  unfold rws
  split <;> split <;> omega
theorem gR_mono {V : Sto} (hV : EdOK V) {i s j : Int} (hi : 0 ≤ i) (hs : s = 0 ∨ s = 1) (hj : i < j) (hn : j < V 1 0) : gR V i s j ≤ gR V i s (j + 1) := by
  obtain ⟨o1, o2, o3⟩ := nbO hV hs
  have m1 := nA_mono2 o1 o2 (show i ≤ j by omega)
  have m2 := nA_mono2 o1 o2 (show j ≤ j + 1 by omega)
  have b0 := (nA_is o1 i 0).1
  have b1 := (nA_is o1 (j + 1) 0).2.1
  have s1 := SL_add (E := V) (nb := nbS s) m1 m2
  have s2 := SLv_b (a := nA V (nbS s) j 0) (b := nA V (nbS s) (j + 1) 0) hV hs (by omega) m2 b1
  have hK : 0 ≤ V 17 2 := hV.2.2.2.2.2.2.2.2.2.1.1
  have hK1 : 0 ≤ V 17 1 := hV.2.2.2.2.2.2.2.2.1.1
  have r := rws_mono hK (x := gNt V i s j) (y := gNt V i s (j + 1)) (by unfold gNt; omega)
  have p1 := pit_b hV (p := j - 1) (by omega) hs
  have p2 := pit_b hV (p := j) (by omega) hs
  have e : gNx V i s (j + 1 - 1 - i).toNat = gNx V i s (j - 1 - i).toNat + (pit V (j - 1) s + V 17 1) := by
    rw [show (j + 1 - 1 - i).toNat = (j - 1 - i).toNat + 1 by omega]
    show gNx V i s (j - 1 - i).toNat + (pit V (i + ((j - 1 - i).toNat : Int)) s + V 17 1) = _
    rw [show i + ((j - 1 - i).toNat : Int) = j - 1 by omega]
  unfold gR gT
  rw [e, show j + 1 - 1 = j by omega]
  omega
/-- what does not fit does not fit with more -/
theorem gFit_up {V : Sto} (hV : EdOK V) {i j : Int} (hi : 0 ≤ i) (hj : i < j) (hf : ¬ gFit V i j) : ∀ n : Nat, j + n ≤ V 1 0 → ¬ gFit V i (j + n)
  | 0, _ => by rw [show j + ((0 : Nat) : Int) = j by omega]; exact hf
  | n + 1, h => by
    have ih := gFit_up hV hi hj hf n (by omega)
    have r0 := gR_mono hV (s := 0) (j := j + n) hi (Or.inl rfl) (by omega) (by omega)
    have r1 := gR_mono hV (s := 1) (j := j + n) hi (Or.inr rfl) (by omega) (by omega)
    rw [show j + ((n + 1 : Nat) : Int) = j + n + 1 by omega]
    unfold gFit at *
    omega
noncomputable def gA (V : Sto) (i j : Int) : Sto := fun r s => if r = 0 then j else if r = 1 then (if j = i then 0 else gT V i s j) else if r = 2 then gNx V i s (j - i).toNat else if r = 4 then nA V (nbS s) i 0 else if r = 5 then nA V (nbS s) j 0 else 0
theorem gA_v (V : Sto) (i j : Int) : gA V i j 0 0 = j ∧ (∀ s, gA V i j 1 s = if j = i then 0 else gT V i s j) ∧ (∀ s, gA V i j 2 s = gNx V i s (j - i).toNat) ∧ (∀ s, gA V i j 3 s = 0) ∧ (∀ s, gA V i j 4 s = nA V (nbS s) i 0) ∧ (∀ s, gA V i j 5 s = nA V (nbS s) j 0) ∧ ∀ s, gA V i j 6 s = 0 := by
  refine ⟨rfl, fun s => rfl, fun s => rfl, fun s => rfl, fun s => rfl, fun s => rfl, fun s => rfl⟩
theorem eN_g {V : Sto} (hV : EdOK V) {i j s : Int} (hs : s = 0 ∨ s = 1) : eN V (gA V i j) s (V (3 + s.toNat) j) = nA V (nbS s) (j + 1) 0 := by
  obtain ⟨o1, o2, o3⟩ := nbO hV hs
  unfold eN
  rw [(gA_v V i j).1, (gA_v V i j).2.2.2.2.2.2 s, Int.zero_add]
  exact nA_next o1 o2
theorem gNx_al {V : Sto} {i : Int} (ha : V 17 5 = 1) : ∀ n : Nat, gNx V i 0 n = gNx V i 1 n
  | 0 => rfl
  | n + 1 => by
    show gNx V i 0 n + (pit V (i + n) 0 + V 17 1) = gNx V i 1 n + (pit V (i + n) 1 + V 17 1)
    rw [gNx_al ha n]
    unfold pit
    rw [if_pos ha, if_pos ha]
theorem gPut {V σ : Sto} (hV : EdOK V) {i j g : Int} (hi : 0 ≤ i ∧ i ≤ j) (hj : j < V 1 0) (hF : FVr V σ 168 (putA V (gA V i j) (V 3 j) (V 4 j) g)) : FVr V σ 168 (gA V i (j + 1)) := by
  refine fvr_b hF (fun s hs => ?_)
  obtain ⟨-, ⟨b1, b2⟩, ⟨c1, c2⟩, ⟨d1, d2⟩, e3, e4, -⟩ := putA_v V (gA V i j) (V 3 j) (V 4 j) g
  obtain ⟨a0, a1, a2, a3, a4, a5, a6⟩ := gA_v V i (j + 1)
  obtain ⟨z0, z1, z2, z3, z4, z5, z6⟩ := gA_v V i j
  have en := eN_g (i := i) (j := j) hV hs
  have eg : gNx V i s (j + 1 - i).toNat = gNx V i s (j - i).toNat + (pit V j s + V 17 1) := by
    rw [show (j + 1 - i).toNat = (j - i).toNat + 1 by omega]
    show gNx V i s (j - i).toNat + (pit V (i + ((j - i).toNat : Int)) s + V 17 1) = _
    rw [show i + ((j - i).toNat : Int) = j by omega]
  have et : gT V i s (j + 1) = gNx V i s (j - i).toNat + V (3 + s.toNat) j := by
    unfold gT
    rw [show j + 1 - 1 = j by omega]
  have al := fun ha => gNx_al (V := V) (i := i) ha (j - i).toNat
  rw [a1, a2, a3, a4, a5, e3, e4, z3, z4, if_neg (by omega), eg, et]
  unfold nxt at c1 c2
  unfold pit
  rw [z2] at b1 b2
  rw [z2, z2] at c1 c2
  rcases hs with rfl | rfl
  · have en : eN V (gA V i j) 0 (V 3 j) = nA V (nbS 0) (j + 1) 0 := en
    rw [b1, c1, d1, en]
    refine ⟨rfl, ?_, rfl, rfl, rfl⟩
    by_cases ha : V 17 5 = 1
    · have := al ha
      rw [if_pos ha, if_pos ha]
      omega
    · rw [if_neg ha, if_neg ha]
      show _ + (V 3 j + V 17 1) = _
      omega
  · have en : eN V (gA V i j) 1 (V 4 j) = nA V (nbS 1) (j + 1) 0 := en
    rw [b2, c2, d2, en]
    refine ⟨rfl, ?_, rfl, rfl, rfl⟩
    by_cases ha : V 17 5 = 1
    · have := al ha
      rw [if_pos ha, if_pos ha]
      omega
    · rw [if_neg ha, if_neg ha]
      show _ + (V 4 j + V 17 1) = _
      omega
theorem gFit_iff {V : Sto} (hV : EdOK V) {i j : Int} : fitA V (gA V i j) (V 17 0) 0 (V 3 j) (V 4 j) ↔ gFit V i (j + 1) := by
  have en0 : eN V (gA V i j) 0 (V 3 j) = nA V (nbS 0) (j + 1) 0 := eN_g (i := i) (j := j) hV (Or.inl rfl)
  have en1 : eN V (gA V i j) 1 (V 4 j) = nA V (nbS 1) (j + 1) 0 := eN_g (i := i) (j := j) hV (Or.inr rfl)
  obtain ⟨z0, z1, z2, z3, z4, z5, z6⟩ := gA_v V i j
  have m0 : ∀ nb a b, mostN V 0 nb a b = 0 := fun nb a b => by unfold mostN; omega
  unfold fitA fitS gFit gR gT gNt
  rw [en0, en1, z2, z2, z3, z3, z4, z4, m0, m0, show j + 1 - 1 = j by omega]
  simp only [Int.zero_add, Int.sub_zero]
  exact Iff.rfl
