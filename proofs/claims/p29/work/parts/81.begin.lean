/-! ===== what the start gives ===== -/
theorem st_arr {s : State} {args : Array Value} {ty : FieldType} (h : (Cond.arrayClass ty).before args s = true) (hty : ty = .int ∨ ty = .boolean) : ∃ cA, ArrOfT s cA ty ∧ va_RA s cA ty := by
  obtain ⟨c, k, comp, f1, f2, f3⟩ := Cond.arrayClass_spec h
  refine ⟨c, fun n z => ⟨(fun k h => by cases h), k, f2, comp, f3⟩, ?_⟩
  rcases hty with rfl | rfl <;> exact f1
theorem st_obj {s : State} {args : Array Value} (h : (Cond.arrayOver (.object RX1)).before args s = true) : ∃ cA, ArrOfT s cA (.object RX1) ∧ va_RA s cA (.object RX1) := by
  obtain ⟨comp, c, k, f1, -, f2, f3, f4⟩ := Cond.arrayOver_spec h
  exact ⟨c, fun n z => ⟨(fun k h => by cases h), k, f2, comp, f3⟩, k, comp, f2, f3, f1, f4⟩
theorem st_aa {s : State} {args : Array Value} (h : (Cond.arrayOver (.array .int)).before args s = true) : ∃ cA, ArrOfT s cA (.array .int) ∧ va_RA s cA (.array .int) := by
  obtain ⟨comp, c, k, f1, f2, f3, f4⟩ := Cond.arrayOver_specA h
  exact ⟨c, fun n z => ⟨(fun k h => by cases h), k, f2, comp, f3⟩, f4⟩
theorem st_eq {args : Array Value} {s : State} {t : Term} {z : Int32} (h : (Cond.eq t (.int z)).before args s = true) : t.eval args s none [] s = some (.int z) := by
  cases hv : t.eval args s none [] s with
  | none => simp [Cond.before, Cond.holds, Cond.value, hv] at h
  | some w =>
    have hz : (Term.int z).eval args s none [] s = some (.int z) := rfl
    simp only [Cond.before, Cond.holds, Cond.value, hv, hz] at h
    cases w <;> simp at h
    rw [h]
theorem st_row {args : Array Value} {s : State} {nm : String} {N : Nat} {f : Nat → Int32} {A : Nat → Prop} (hN : N < 2 ^ 31) (hl : (Cond.laysStatic "BilingualSetter" nm "[I").before args s = true) (hini : (Cond.initialized "BilingualSetter").before args s = true) (harr : (Cond.arrayOf (.static "BilingualSetter" nm "[I") .int).before args s = true) (hlen : (Cond.eq (.length (.static "BilingualSetter" nm "[I")) (.int (Int32.ofNat N))).before args s = true)
    (hel : ∀ j : Nat, j < N → (Cond.eq (.elem (.static "BilingualSetter" nm "[I") (.int (Int32.ofNat j))) (.int (f j))).before args s = true) (hA : ∀ a : Nat, a < s.heap.size → ¬ A a) : ∃ t : Nat, (Term.static "BilingualSetter" nm "[I").eval args s none [] s = some (.ref t) ∧ va_Z "BilingualSetter" nm "[I" (.ref t) A s s.heap ∧ va_T .int t N (fun j => .int (f j)) A s s.heap := by
  obtain ⟨t, h1, h2⟩ := va_Tof (f := fun j => .int (f j)) hN harr (st_eq hlen) (fun j hj => st_eq (hel j hj)) hA
  exact ⟨t, h1, va_Zof hl hini h1 hA, h2⟩
theorem st_len {args : Array Value} {s : State} {t : Term} {v : Value} {b : Nat} {cell : Cell} (hv : (Term.length t).eval args s none [] s = some v) (ht : t.eval args s none [] s = some (.ref b)) (harr : s.arrayAt? b = some cell) : cell.slots.size < 2147483648 := by
  simp only [Term.eval, ht, harr, Option.bind_eq_bind, Option.bind_some] at hv
  by_cases hlt : cell.slots.size < 2147483648
  · exact hlt
  · simp [hlt] at hv
theorem st_row0 {args : Array Value} {s : State} {t : Nat} {f : Nat → Value} {A : Nat → Prop} (hex : (Cond.exactly (.static "BilingualSetter" "INITIAL" "[I") "[I").before args s = true) (ht : (Term.static "BilingualSetter" "INITIAL" "[I").eval args s none [] s = some (.ref t)) (hlen : (Cond.eq (.length (.static "BilingualSetter" "INITIAL" "[I")) (.int (Int32.ofNat 6))).before args s = true) (hT : va_T .int t 6 f A s s.heap) :
    ∃ cell : Cell, s.heap[t]? = some cell ∧ s.vm.findClass "[I" = some cell.cls ∧ cell.slots.size = 6 ∧ (∀ j : Nat, j < 6 → cell.slots[j]? = some (f j)) ∧ cell.vm ≠ .unknown ∧ ∀ k, cell.vm ≠ .statics k := by
  obtain ⟨a, c, cell, k, e1, e2, e3, e4, e5, e6, -⟩ := Cond.exactly_spec hex
  cases ht.symm.trans e1
  obtain ⟨cell', t1, t2, t3, t4, t5, t6, t7⟩ := hT
  cases e3.symm.trans t1
  have hv := st_eq hlen
  obtain ⟨b, cell2, g1, g2, g3⟩ := Term.length_spec hv
  cases ht.symm.trans g1
  obtain ⟨g4, -⟩ := State.arrayAt?_spec g2
  cases e3.symm.trans g4
  have hsz := st_len hv ht g2
  have h6 : cell.slots.size = 6 := by
    have h := congrArg Int32.toInt t5
    have e : cell.slots.size.toInt32 = Int32.ofNat cell.slots.size := rfl
    rw [e, Int32.toInt_ofNat_of_lt (by omega), Int32.toInt_ofNat_of_lt (by omega)] at h
    omega
  exact ⟨cell, e3, by rw [e6]; exact e2, h6, t6, t3, t2.1⟩
theorem st_D {s : State} {args : Array Value} (hT : ∀ w ∈ W0, w.before args s = true) (hin : ∀ (c : Nat) (q : vw_C), vwCl[c]? = some q → ∀ w ∈ u_ws q.1 q.2.1 q.2.2, w ∈ W0) (hib : ∀ (c : Nat) (q : vw_C), vwCl[c]? = some q → ∃ n, (Cond.instantiable q.1 n).before args s = true) : ∃ D : va_G, ∀ (c : Nat) (q : vw_C), vwCl[c]? = some q → u_Kn s q.1 q.2.1 q.2.2 (D.1 c) (D.2 c) := by
  have h : ∀ c : Nat, ∃ p : ClassId × (Nat → Nat), ∀ q, vwCl[c]? = some q → u_Kn s q.1 q.2.1 q.2.2 p.1 p.2 := by
    intro c
    by_cases hc : ∃ q, vwCl[c]? = some q
    · obtain ⟨q, hc⟩ := hc
      obtain ⟨n, hn⟩ := hib c q hc
      obtain ⟨cC, iS, h⟩ := u_known hT (hin c q hc) hn
      exact ⟨(cC, iS), fun q' hq' => by
        cases hc.symm.trans hq'
        exact h⟩
    · exact ⟨((0 : Nat), fun _ => 0), fun q hq => absurd ⟨q, hq⟩ hc⟩
  exact ⟨⟨fun c => (h c).choose.1, fun c => (h c).choose.2⟩, fun c q hc => (h c).choose_spec q hc⟩
