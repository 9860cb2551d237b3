/-! ===== the spreads, as a value: rows 0 (pair, segments, spreads), 1 text, 2 next, 3 carried to, 4 first note, 5 end of notes, 6 done; 123, 124, 126 .. 133, 135 .. 141 the tables ===== -/
def lastL (V : Sto) (nb : Nat) (a b : Int) : Int := if b = a then 0 else V (nb + 4) (b - 1)
def mostN (V : Sto) (c : Int) (nb : Nat) (a b : Int) : Int := max 0 (min c (lastL V nb a b - 1))
noncomputable def eN (V A : Sto) (s n : Int) : Int := nA V (nbS s) (A 0 0) (A 6 s + n)
def pL (V A : Sto) (s : Int) : Int := V (3 + s.toNat) (A 0 0) - A 6 s
def fitS (V A : Sto) (h c s n : Int) : Prop := A 2 s + n + rws (V 17 2) (A 3 s + SL V (nbS s) (A 4 s) (eN V A s n) - mostN V c (nbS s) (A 4 s) (eN V A s n)) ≤ h
def fitA (V A : Sto) (h c x y : Int) : Prop := fitS V A h c 0 x ∧ fitS V A h c 1 y
def nxt (V : Sto) (t0 t1 t : Int) : Int := (if V 17 5 = 1 then max t0 t1 else t) + V 17 1
def segA (A : Sto) (x y g : Int) : Sto := up (up (up (up (up (up (up (up (up A 126 (A 0 1) (A 0 0)) 133 (A 0 1) g) 127 (A 0 1) (A 6 0)) 128 (A 0 1) x) 131 (A 0 1) (A 2 0)) 129 (A 0 1) (A 6 1)) 130 (A 0 1) y) 132 (A 0 1) (A 2 1)) 0 1 (A 0 1 + 1)
noncomputable def putA (V A : Sto) (x y g : Int) : Sto := up (up (up (up (up (up (segA A x y g) 1 0 (A 2 0 + x)) 1 1 (A 2 1 + y)) 2 0 (nxt V (A 2 0 + x) (A 2 1 + y) (A 2 0 + x))) 2 1 (nxt V (A 2 0 + x) (A 2 1 + y) (A 2 1 + y))) 5 0 (eN V A 0 x)) 5 1 (eN V A 1 y)
noncomputable def restA (V A : Sto) : Sto := up (up (up (putA V A (pL V A 0) (pL V A 1) 0) 0 0 (A 0 0 + 1)) 6 0 0) 6 1 0
def yOf (p q x : Int) : Int := (2 * x * q + p) / (2 * p)
noncomputable def splA (V A : Sto) (x : Int) : Sto := up (up (putA V A x (yOf (pL V A 0) (pL V A 1) x) 1) 6 0 (A 6 0 + x)) 6 1 (A 6 1 + yOf (pL V A 0) (pL V A 1) x)
/-- whether the pair can be split behind x left lines -/
def spl (V A : Sto) (h x : Int) : Prop := (V 17 3 ≤ x ∧ x ≤ pL V A 0 - V 17 3) ∧ V 17 3 ≤ yOf (pL V A 0) (pL V A 1) x ∧ V 17 3 ≤ pL V A 1 - yOf (pL V A 0) (pL V A 1) x ∧ fitA V A h (V 17 4) x (yOf (pL V A 0) (pL V A 1) x)
def IsX (V A : Sto) (h r : Int) : Prop := (r = 0 ∧ ∀ x, ¬ spl V A h x) ∨ (spl V A h r ∧ ∀ x, r < x → ¬ spl V A h x)
theorem IsX_ex {V A : Sto} {h : Int} (h3 : 1 ≤ V 17 3) : ∃ r, IsX V A h r := by
  have key : ∀ n : Nat, (∃ r, spl V A h r ∧ ∀ x, r < x → ¬ spl V A h x) ∨ ∀ x, pL V A 0 - n < x → ¬ spl V A h x := by
    intro n
    induction n with
    | zero => exact Or.inr (fun x hx q => by have := q.1; omega)
    | succ n ih =>
      rcases ih with ih | ih
      · exact Or.inl ih
      · by_cases c : spl V A h (pL V A 0 - n)
        · exact Or.inl ⟨_, c, ih⟩
        · refine Or.inr (fun x hx q => ?_)
          by_cases e : x = pL V A 0 - n
          · rw [e] at q
            exact c q
          · exact ih x (by omega) q
  rcases key (pL V A 0).toNat with k | k
  · obtain ⟨r, h1, h2⟩ := k
    exact ⟨r, Or.inr ⟨h1, h2⟩⟩
  · exact ⟨0, Or.inl ⟨rfl, fun x q => by
      by_cases e : pL V A 0 - (pL V A 0).toNat < x
      · exact k x e q
      · have := q.1
        omega⟩⟩
theorem IsX_uniq {V A : Sto} {h r r' : Int} (h3 : 1 ≤ V 17 3) (a : IsX V A h r) (b : IsX V A h r') : r = r' := by
  rcases a with ⟨a1, a2⟩ | ⟨a1, a2⟩ <;> rcases b with ⟨b1, b2⟩ | ⟨b1, b2⟩
  · omega
  · exact absurd b1 (a2 _)
  · exact absurd a1 (b2 _)
  · rcases Int.lt_trichotomy r r' with q | q | q
    · exact absurd b1 (a2 _ q)
    · exact q
    · exact absurd a1 (b2 _ q)
noncomputable def xOf (V A : Sto) (h : Int) : Int := @dite _ (∃ r, IsX V A h r) (Classical.propDecidable _) (fun h => Classical.choose h) (fun _ => 0)
theorem xOf_is {V A : Sto} {h : Int} (h3 : 1 ≤ V 17 3) : IsX V A h (xOf V A h) := by
  unfold xOf
  rw [dif_pos (IsX_ex h3)]
  exact Classical.choose_spec (IsX_ex h3)
theorem xOf_eq {V A : Sto} {h r : Int} (h3 : 1 ≤ V 17 3) (a : IsX V A h r) : xOf V A h = r := IsX_uniq h3 (xOf_is h3) a
/-- the break ends the spread -/
def brk (V A : Sto) : Prop := A 123 (A 0 2) ≠ A 0 1 ∧ A 6 0 = 0 ∧ V 6 (A 0 0) = 1
def goesA (V A : Sto) (h : Int) : Prop := A 0 0 < V 1 0 ∧ ¬ brk V A ∧ fitA V A h (V 17 4) (pL V A 0) (pL V A 1)
def splits (V A : Sto) (h : Int) : Prop := V 5 (A 0 0) = 0 ∧ ∃ x, spl V A h x
noncomputable def stepA (V A : Sto) (h : Int) : Sto :=
  @ite _ (A 0 0 < V 1 0 ∧ ¬ brk V A) (Classical.propDecidable _)
    (@ite _ (fitA V A h (V 17 4) (pL V A 0) (pL V A 1)) (Classical.propDecidable _) (restA V A)
      (@ite _ (splits V A h) (Classical.propDecidable _) (splA V A (xOf V A h)) (if A 123 (A 0 2) = A 0 1 then up (restA V A) 124 (A 0 2) 1 else A))) A
noncomputable def spA (V : Sto) (h : Int) : Nat → Sto → Sto
  | 0, A => A
  | n + 1, A => @ite _ (goesA V A h) (Classical.propDecidable _) (spA V h n (stepA V A h)) (stepA V A h)
def cA (V A : Sto) (h s : Int) : Int := cOf (A 1 s) (A 3 s + SL V (nbS s) (A 4 s) (A 5 s)) (V 17 2) h (mostN V (V 17 4) (nbS s) (A 4 s) (A 5 s))
def nrA (V A : Sto) (h s : Int) : Int := rws (V 17 2) (A 3 s + SL V (nbS s) (A 4 s) (A 5 s) - cA V A h s)
def endS (V A : Sto) (h s : Int) : Sto := up (up (up (up (up (up (up (up (up (up (up (up A 135 (2 * A 0 2 + s) (A 1 s)) 136 (2 * A 0 2 + s) (nrA V A h s)) 137 (2 * A 0 2 + s) (max 0 (h - A 1 s - nrA V A h s))) 138 (2 * A 0 2 + s) (A 3 s)) 139 (2 * A 0 2 + s) (cA V A h s)) 140 (2 * A 0 2 + s) (A 5 s - A 4 s)) 141 (2 * A 0 2 + s) (A 4 s)) 1 s 0) 2 s 0) 3 s (cA V A h s)) 4 s (A 5 s)) 5 s (A 5 s)
def endA (V A : Sto) (h : Int) : Sto := up (up (endS V (endS V A h 0) h 1) 0 2 (A 0 2 + 1)) 123 (A 0 2 + 1) (A 0 1)
noncomputable def layA (V : Sto) (h : Int) : Nat → Sto → Sto
  | 0, A => A
  | n + 1, A => if A 0 0 < V 1 0 ∨ 0 < A 3 0 + A 3 1 then layA V h n (endA V (spA V h 21 (up A 124 (A 0 2) 0)) h) else A
def z0 : Sto := fun _ _ => 0
noncomputable def lay (V : Sto) (h : Int) : Sto := layA V h 602 z0
/-! ===== the order of notes and lines ===== -/
theorem nA_mono {V : Sto} {nb : Nat} (hN : NtO V nb) {p x x' : Int} (h : x ≤ x') : nA V nb p x ≤ nA V nb p x' := by
  obtain ⟨a1, a2, a3, a4⟩ := nA_is hN p x
  obtain ⟨b1, b2, b3, b4⟩ := nA_is hN p x'
  rcases (show nA V nb p x ≤ nA V nb p x' ∨ nA V nb p x' < nA V nb p x by omega) with q | q
  · exact q
  · have h1 := a3 _ b1 q
    have h2 := b4 _ (Int.le_refl _) (by omega)
    unfold bef at h1 h2
    omega
theorem nA_next {V : Sto} {nb lb : Nat} (hN : NtO V nb) (hR : NtR V nb lb) {p : Int} : nA V nb p (V lb p) = nA V nb (p + 1) 0 := by
  refine nA_eq hN ?_
  obtain ⟨b1, b2, b3, b4⟩ := nA_is hN (p + 1) 0
  refine ⟨b1, b2, fun k k0 k1 => ?_, fun k k0 k1 => ?_⟩
  · have h1 := b3 k k0 k1
    have h2 := hR k k0 (by omega)
    unfold bef at *
    by_cases e : V (nb + 2) k = p
    · rw [e] at h2
      omega
    · omega
  · have h1 := b4 k k0 k1
    unfold bef at *
    omega
theorem nA_0 {V : Sto} {nb lb : Nat} (hN : NtO V nb) (hR : NtR V nb lb) : nA V nb 0 0 = 0 := by
  refine nA_eq hN ⟨by omega, hN.1.1, fun k k0 k1 => by omega, fun k k0 k1 => ?_⟩
  have := hR k k0 k1
  unfold bef
  omega
theorem nA_all {V : Sto} {nb lb : Nat} (hN : NtO V nb) (hR : NtR V nb lb) : nA V nb (V 1 0) 0 = V nb 0 := by
  refine nA_eq hN ⟨hN.1.1, Int.le_refl _, fun k k0 k1 => ?_, fun k k0 k1 => by omega⟩
  have := hR k k0 k1
  unfold bef
  omega
theorem nbO {V : Sto} (hV : EdOK V) {s : Int} (hs : s = 0 ∨ s = 1) : NtO V (nbS s) ∧ NtR V (nbS s) (3 + s.toNat) ∧ ∀ k, 0 ≤ k → k < V (nbS s) 0 → 1 ≤ V (nbS s + 4) k ∧ V (nbS s + 4) k ≤ 10 := by
  obtain ⟨-, -, o7, o12, r7, r12, -, -⟩ := hV
  rcases hs with rfl | rfl
  · exact ⟨o7, r7, fun k k0 k1 => (r7 k k0 k1).2.2⟩
  · exact ⟨o12, r12, fun k k0 k1 => (r12 k k0 k1).2.2⟩
theorem lastL_b {V : Sto} (hV : EdOK V) {s a b : Int} (hs : s = 0 ∨ s = 1) (ha : 0 ≤ a) (hab : a ≤ b) (hb : b ≤ V (nbS s) 0) : 0 ≤ lastL V (nbS s) a b ∧ lastL V (nbS s) a b ≤ 10 := by
  unfold lastL
  split
  · omega
  · have := (nbO hV hs).2.2 (b - 1) (by omega) (by omega)
    omega
theorem mostN_b {V : Sto} {c : Int} {nb : Nat} {a b : Int} (hc : 0 ≤ c ∧ c ≤ 5) : 0 ≤ mostN V c nb a b ∧ mostN V c nb a b ≤ 5 := by unfold mostN; omega
theorem SLv_b {V : Sto} (hV : EdOK V) {s a b : Int} (hs : s = 0 ∨ s = 1) (ha : 0 ≤ a) (hab : a ≤ b) (hb : b ≤ V (nbS s) 0) : 0 ≤ SL V (nbS s) a b ∧ SL V (nbS s) a b ≤ 400 := by
  have h := (nbO hV hs)
  have := SL_b (E := V) (nb := nbS s) hab ha hb h.2.2
  have := h.1.1.2
  omega
/-! ===== what holds while the spreads are made ===== -/
def AOK (V A : Sto) : Prop := (0 ≤ A 0 0 ∧ A 0 0 ≤ V 1 0) ∧ (A 6 0 = 0 → A 6 1 = 0) ∧ (0 ≤ A 0 1 ∧ A 0 1 ≤ 30 * A 0 0 + A 6 0) ∧ (0 ≤ A 0 2 ∧ A 0 2 ≤ 601) ∧ (0 ≤ A 123 (A 0 2) ∧ A 123 (A 0 2) ≤ A 0 1) ∧
  ∀ s, (s = 0 ∨ s = 1) → (0 ≤ A 6 s ∧ (A 0 0 < V 1 0 → A 6 s < V (3 + s.toNat) (A 0 0)) ∧ (A 0 0 = V 1 0 → A 6 s = 0)) ∧ (0 ≤ A 1 s ∧ A 1 s ≤ 100) ∧ (0 ≤ A 2 s ∧ A 2 s ≤ 103) ∧ (0 ≤ A 3 s ∧ A 3 s ≤ 5) ∧ (0 ≤ A 4 s ∧ A 4 s ≤ A 5 s) ∧ A 5 s = nA V (nbS s) (A 0 0) (A 6 s) ∧ (0 < A 3 s → 0 < A 4 s ∧ A 3 s < V (nbS s + 4) (A 4 s - 1))
/-- the rows below which a further segment begins, while the spread goes on -/
def AGo (A : Sto) : Prop := ∀ s, (s = 0 ∨ s = 1) → A 1 s ≤ 60 ∧ A 2 s ≤ 63
theorem pL_b {V A : Sto} (hV : EdOK V) (hA : AOK V A) (hp : A 0 0 < V 1 0) {s : Int} (hs : s = 0 ∨ s = 1) : 1 ≤ pL V A s ∧ pL V A s ≤ 30 ∧ A 6 s + pL V A s = V (3 + s.toNat) (A 0 0) ∧ V (3 + s.toNat) (A 0 0) ≤ 30 := by
  obtain ⟨h1, -, -, -, -, h6⟩ := hA
  have h := h6 s hs
  have hl := hV.2.1 (A 0 0) h1.1 hp
  unfold pL
  rcases hs with rfl | rfl
  · have e : V (3 + (0 : Int).toNat) (A 0 0) = V 3 (A 0 0) := rfl
    have := h.1.2.1 hp
    omega
  · have e : V (3 + (1 : Int).toNat) (A 0 0) = V 4 (A 0 0) := rfl
    have := h.1.2.1 hp
    omega
theorem eN_b {V A : Sto} (hV : EdOK V) (hA : AOK V A) {s n : Int} (hs : s = 0 ∨ s = 1) (hn : 0 ≤ n) : A 5 s ≤ eN V A s n ∧ eN V A s n ≤ V (nbS s) 0 ∧ V (nbS s) 0 ≤ 40 := by
  obtain ⟨hO, -, -⟩ := nbO hV hs
  have h := hA.2.2.2.2.2 s hs
  unfold eN
  refine ⟨?_, (nA_is hO _ _).2.1, hO.1.2⟩
  rw [h.2.2.2.2.2.1]
  exact nA_mono hO (by omega)
theorem fit_t {V A : Sto} {h c x y : Int} (hK : StK V) (hf : fitA V A h c x y) : A 2 0 + x ≤ h ∧ A 2 1 + y ≤ h := by
  obtain ⟨h0, h1⟩ := hf
  unfold StK at hK
  have g : ∀ z, 0 ≤ rws (V 17 2) z := fun z => by unfold rws; split <;> omega
  unfold fitS at h0 h1
  have g0 := g (A 3 0 + SL V (nbS 0) (A 4 0) (eN V A 0 x) - mostN V c (nbS 0) (A 4 0) (eN V A 0 x))
  have g1 := g (A 3 1 + SL V (nbS 1) (A 4 1) (eN V A 1 y) - mostN V c (nbS 1) (A 4 1) (eN V A 1 y))
  omega
theorem nxt_b {V : Sto} (hK : StK V) {t0 t1 t b : Int} (h0 : 0 ≤ t0 ∧ t0 ≤ b) (h1 : 0 ≤ t1 ∧ t1 ≤ b) (ht : t = t0 ∨ t = t1) : 0 ≤ nxt V t0 t1 t ∧ nxt V t0 t1 t ≤ b + 3 := by
  unfold StK at hK
  unfold nxt
  split <;> omega
/-- rows of a further segment -/
theorem putA_v (V A : Sto) (x y g : Int) : (putA V A x y g 0 0 = A 0 0 ∧ putA V A x y g 0 1 = A 0 1 + 1 ∧ putA V A x y g 0 2 = A 0 2) ∧ (putA V A x y g 1 0 = A 2 0 + x ∧ putA V A x y g 1 1 = A 2 1 + y) ∧ (putA V A x y g 2 0 = nxt V (A 2 0 + x) (A 2 1 + y) (A 2 0 + x) ∧ putA V A x y g 2 1 = nxt V (A 2 0 + x) (A 2 1 + y) (A 2 1 + y)) ∧
    (putA V A x y g 5 0 = eN V A 0 x ∧ putA V A x y g 5 1 = eN V A 1 y) ∧ putA V A x y g 3 = A 3 ∧ putA V A x y g 4 = A 4 ∧ putA V A x y g 6 = A 6 ∧ putA V A x y g 123 = A 123 ∧ putA V A x y g 124 = A 124 ∧ ∀ w, 134 ≤ w → putA V A x y g w = A w := by
  refine ⟨⟨?_, ?_, ?_⟩, ⟨?_, ?_⟩, ⟨?_, ?_⟩, ⟨?_, ?_⟩, ?_, ?_, ?_, ?_, ?_, fun w hw => ?_⟩
  all_goals unfold putA segA
  all_goals first
    | (simp [up]; done)
    | (funext i; simp [up]; done)
    | (iterate 15 rw [up_other (by omega)])
theorem putA_k (V A : Sto) (x y g k : Int) : putA V A x y g 126 k = (if k = A 0 1 then A 0 0 else A 126 k) ∧ putA V A x y g 127 k = (if k = A 0 1 then A 6 0 else A 127 k) ∧ putA V A x y g 128 k = (if k = A 0 1 then x else A 128 k) ∧ putA V A x y g 129 k = (if k = A 0 1 then A 6 1 else A 129 k) ∧ putA V A x y g 130 k = (if k = A 0 1 then y else A 130 k) ∧
    putA V A x y g 131 k = (if k = A 0 1 then A 2 0 else A 131 k) ∧ putA V A x y g 132 k = (if k = A 0 1 then A 2 1 else A 132 k) ∧ putA V A x y g 133 k = if k = A 0 1 then g else A 133 k := by
  unfold putA segA
  simp [up]
