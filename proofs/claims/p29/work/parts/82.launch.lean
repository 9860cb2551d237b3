/-! ===== the launch: what the start gives of each table ===== -/
theorem tb_1 {i : Nat} {w : Cond} (h : tables_1_1[i]? = some w) : w ∈ lw_tbl := List.mem_append_right _ (List.mem_append_left _ (List.mem_of_getElem? h))
theorem tb_2 {i : Nat} {w : Cond} (h : tables_1_2[i]? = some w) : w ∈ lw_tbl := List.mem_append_right _ (List.mem_append_right _ (List.mem_append_left _ (List.mem_of_getElem? h)))
theorem tb_3 {i : Nat} {w : Cond} (h : tables_1_3[i]? = some w) : w ∈ lw_tbl := List.mem_append_right _ (List.mem_append_right _ (List.mem_append_right _ (List.mem_of_getElem? h)))
theorem st_nm1 {args : Array Value} {s : State} (hts : ∀ w ∈ lw_tbl, w.before args s = true) : ∀ q ∈ NM, va_Nw (.methodLinkNest q.1 q.2.1 q.2.2.1 q.2.2.2) s :=
  List.forall_mem_cons.mpr ⟨va_Nw.of rfl (hts _ (tb_1 (i := 21) rfl)), List.forall_mem_cons.mpr ⟨va_Nw.of rfl (hts _ (tb_1 (i := 29) rfl)), List.forall_mem_cons.mpr ⟨va_Nw.of rfl (hts _ (tb_1 (i := 94) rfl)), List.forall_mem_cons.mpr ⟨va_Nw.of rfl (hts _ (tb_1 (i := 108) rfl)), List.forall_mem_cons.mpr ⟨va_Nw.of rfl (hts _ (tb_1 (i := 115) rfl)), List.forall_mem_cons.mpr ⟨va_Nw.of rfl (hts _ (tb_1 (i := 149) rfl)), List.forall_mem_cons.mpr ⟨va_Nw.of rfl (hts _ (tb_1 (i := 209) rfl)), List.forall_mem_cons.mpr ⟨va_Nw.of rfl (hts _ (tb_1 (i := 214) rfl)), List.forall_mem_cons.mpr ⟨va_Nw.of rfl (hts _ (tb_1 (i := 216) rfl)), List.forall_mem_cons.mpr ⟨va_Nw.of rfl (hts _ (tb_2 (i := 39) rfl)), List.forall_mem_cons.mpr ⟨va_Nw.of rfl (hts _ (tb_2 (i := 52) rfl)), List.forall_mem_cons.mpr ⟨va_Nw.of rfl (hts _ (tb_2 (i := 79) rfl)), List.forall_mem_cons.mpr ⟨va_Nw.of rfl (hts _ (tb_2 (i := 231) rfl)), List.forall_mem_cons.mpr ⟨va_Nw.of rfl (hts _ (tb_3 (i := 16) rfl)), List.forall_mem_cons.mpr ⟨va_Nw.of rfl (hts _ (tb_3 (i := 21) rfl)), List.forall_mem_cons.mpr ⟨va_Nw.of rfl (hts _ (tb_3 (i := 30) rfl)), List.forall_mem_cons.mpr ⟨va_Nw.of rfl (hts _ (tb_3 (i := 61) rfl)), fun _ h => absurd h List.not_mem_nil⟩⟩⟩⟩⟩⟩⟩⟩⟩⟩⟩⟩⟩⟩⟩⟩⟩
theorem st_nf1 {args : Array Value} {s : State} (hts : ∀ w ∈ lw_tbl, w.before args s = true) : ∀ q ∈ NF, va_Nw (.fieldLinkNest q.1 q.2.1 q.2.2.1 q.2.2.2.1 q.2.2.2.2.1 q.2.2.2.2.2) s :=
  List.forall_mem_cons.mpr ⟨va_Nw.of rfl (hts _ (tb_1 (i := 47) rfl)), List.forall_mem_cons.mpr ⟨va_Nw.of rfl (hts _ (tb_2 (i := 142) rfl)), List.forall_mem_cons.mpr ⟨va_Nw.of rfl (hts _ (tb_2 (i := 144) rfl)), List.forall_mem_cons.mpr ⟨va_Nw.of rfl (hts _ (tb_2 (i := 146) rfl)), fun _ h => absurd h List.not_mem_nil⟩⟩⟩⟩
theorem st_cls {args : Array Value} {s : State} (hts : ∀ w ∈ lw_tbl, w.before args s = true) : ∃ D : va_G, ∀ (c : Nat) (q : vw_C), vwCl[c]? = some q → u_Kn s q.1 q.2.1 q.2.2 (D.1 c) (D.2 c) := by
  have hT : ∀ w ∈ W0, w.before args s = true := fun w hw => hts w (List.mem_filter.mp hw).1
  refine st_D hT ?_ ?_
  · intro c q hc
    match c, hc with
    | 0, hc => cases hc; exact inX0
    | 1, hc => cases hc; exact inX1
    | 2, hc => cases hc; exact inX2
    | 3, hc => cases hc; exact inX3
    | 4, hc => cases hc; exact inX4
    | 5, hc => cases hc; exact inX5
    | 6, hc => cases hc; exact inX6
    | 7, hc => cases hc; exact inX7
    | k + 8, hc => exact absurd hc (by simp [vwCl])
  · intro c q hc
    match c, hc with
    | 0, hc => cases hc; exact ⟨_, hT _ wib_0⟩
    | 1, hc => cases hc; exact ⟨_, hT _ wib_1⟩
    | 2, hc => cases hc; exact ⟨_, hT _ wib_2⟩
    | 3, hc => cases hc; exact ⟨_, hT _ wib_3⟩
    | 4, hc => cases hc; exact ⟨_, hT _ wib_4⟩
    | 5, hc => cases hc; exact ⟨_, hT _ wib_5⟩
    | 6, hc => cases hc; exact ⟨_, hT _ wib_6⟩
    | 7, hc => cases hc; exact ⟨_, hT _ wib_7⟩
    | k + 8, hc => exact absurd hc (by simp [vwCl])
theorem st_r0 {args : Array Value} {s : State} (hts : ∀ w ∈ lw_tbl, w.before args s = true) (hs : ∀ w ∈ flatC (Jvm.Cond.and given_1 narrow_1), w.before args s = true) : ∃ t : Nat, (Term.static "BilingualSetter" "INITIAL" "[I").eval args s none [] s = some (.ref t) ∧ va_Z "BilingualSetter" (st_nm 0) "[I" (.ref t) (fun q : Nat => s.heap.size ≤ q) s s.heap ∧ va_T .int t (st_n 0) (fun j => .int (Int32.ofInt (st_v 0 j))) (fun q : Nat => s.heap.size ≤ q) s s.heap :=
  st_row (nm := "INITIAL") (N := 6) (f := fun j => Int32.ofInt (st_v 0 j)) (by decide) (hts _ (tb_1 (i := 48) rfl)) (hts _ (tb_1 (i := 1) rfl)) (hs _ (by decide +kernel)) (hs _ (by decide +kernel)) (fun j hj => by
    match j, hj with
    | 0, _ => exact hs _ (by decide +kernel)
    | 1, _ => exact hs _ (by decide +kernel)
    | 2, _ => exact hs _ (by decide +kernel)
    | 3, _ => exact hs _ (by decide +kernel)
    | 4, _ => exact hs _ (by decide +kernel)
    | 5, _ => exact hs _ (by decide +kernel)
    | k + 6, hj => exact absurd hj (by omega)) (fun _ h => Nat.not_le.mpr h)
theorem st_r1 {args : Array Value} {s : State} (hts : ∀ w ∈ lw_tbl, w.before args s = true) (hs : ∀ w ∈ flatC (Jvm.Cond.and given_1 narrow_1), w.before args s = true) : ∃ t : Nat, (Term.static "BilingualSetter" "LOWEST" "[I").eval args s none [] s = some (.ref t) ∧ va_Z "BilingualSetter" (st_nm 1) "[I" (.ref t) (fun q : Nat => s.heap.size ≤ q) s s.heap ∧ va_T .int t (st_n 1) (fun j => .int (Int32.ofInt (st_v 1 j))) (fun q : Nat => s.heap.size ≤ q) s s.heap :=
  st_row (nm := "LOWEST") (N := 6) (f := fun j => Int32.ofInt (st_v 1 j)) (by decide) (hts _ (tb_2 (i := 24) rfl)) (hts _ (tb_1 (i := 1) rfl)) (hs _ (by decide +kernel)) (hs _ (by decide +kernel)) (fun j hj => by
    match j, hj with
    | 0, _ => exact hs _ (by decide +kernel)
    | 1, _ => exact hs _ (by decide +kernel)
    | 2, _ => exact hs _ (by decide +kernel)
    | 3, _ => exact hs _ (by decide +kernel)
    | 4, _ => exact hs _ (by decide +kernel)
    | 5, _ => exact hs _ (by decide +kernel)
    | k + 6, hj => exact absurd hj (by omega)) (fun _ h => Nat.not_le.mpr h)
theorem st_r2 {args : Array Value} {s : State} (hts : ∀ w ∈ lw_tbl, w.before args s = true) (hs : ∀ w ∈ flatC (Jvm.Cond.and given_1 narrow_1), w.before args s = true) : ∃ t : Nat, (Term.static "BilingualSetter" "HIGHEST" "[I").eval args s none [] s = some (.ref t) ∧ va_Z "BilingualSetter" (st_nm 2) "[I" (.ref t) (fun q : Nat => s.heap.size ≤ q) s s.heap ∧ va_T .int t (st_n 2) (fun j => .int (Int32.ofInt (st_v 2 j))) (fun q : Nat => s.heap.size ≤ q) s s.heap :=
  st_row (nm := "HIGHEST") (N := 6) (f := fun j => Int32.ofInt (st_v 2 j)) (by decide) (hts _ (tb_2 (i := 26) rfl)) (hts _ (tb_1 (i := 1) rfl)) (hs _ (by decide +kernel)) (hs _ (by decide +kernel)) (fun j hj => by
    match j, hj with
    | 0, _ => exact hs _ (by decide +kernel)
    | 1, _ => exact hs _ (by decide +kernel)
    | 2, _ => exact hs _ (by decide +kernel)
    | 3, _ => exact hs _ (by decide +kernel)
    | 4, _ => exact hs _ (by decide +kernel)
    | 5, _ => exact hs _ (by decide +kernel)
    | k + 6, hj => exact absurd hj (by omega)) (fun _ h => Nat.not_le.mpr h)
theorem st_r3 {args : Array Value} {s : State} (hts : ∀ w ∈ lw_tbl, w.before args s = true) (hs : ∀ w ∈ flatC (Jvm.Cond.and given_1 narrow_1), w.before args s = true) : ∃ t : Nat, (Term.static "BilingualSetter" "SEGMENT_FIRST" "[I").eval args s none [] s = some (.ref t) ∧ va_Z "BilingualSetter" (st_nm 3) "[I" (.ref t) (fun q : Nat => s.heap.size ≤ q) s s.heap ∧ va_T .int t (st_n 3) (fun j => .int (Int32.ofInt (st_v 3 j))) (fun q : Nat => s.heap.size ≤ q) s s.heap :=
  st_row (nm := "SEGMENT_FIRST") (N := 2) (f := fun j => Int32.ofInt (st_v 3 j)) (by decide) (hts _ (tb_2 (i := 143) rfl)) (hts _ (tb_1 (i := 1) rfl)) (hs _ (by decide +kernel)) (hs _ (by decide +kernel)) (fun j hj => by
    match j, hj with
    | 0, _ => exact hs _ (by decide +kernel)
    | 1, _ => exact hs _ (by decide +kernel)
    | k + 2, hj => exact absurd hj (by omega)) (fun _ h => Nat.not_le.mpr h)
theorem st_r4 {args : Array Value} {s : State} (hts : ∀ w ∈ lw_tbl, w.before args s = true) (hs : ∀ w ∈ flatC (Jvm.Cond.and given_1 narrow_1), w.before args s = true) : ∃ t : Nat, (Term.static "BilingualSetter" "SEGMENT_LINES" "[I").eval args s none [] s = some (.ref t) ∧ va_Z "BilingualSetter" (st_nm 4) "[I" (.ref t) (fun q : Nat => s.heap.size ≤ q) s s.heap ∧ va_T .int t (st_n 4) (fun j => .int (Int32.ofInt (st_v 4 j))) (fun q : Nat => s.heap.size ≤ q) s s.heap :=
  st_row (nm := "SEGMENT_LINES") (N := 2) (f := fun j => Int32.ofInt (st_v 4 j)) (by decide) (hts _ (tb_2 (i := 145) rfl)) (hts _ (tb_1 (i := 1) rfl)) (hs _ (by decide +kernel)) (hs _ (by decide +kernel)) (fun j hj => by
    match j, hj with
    | 0, _ => exact hs _ (by decide +kernel)
    | 1, _ => exact hs _ (by decide +kernel)
    | k + 2, hj => exact absurd hj (by omega)) (fun _ h => Nat.not_le.mpr h)
theorem st_r5 {args : Array Value} {s : State} (hts : ∀ w ∈ lw_tbl, w.before args s = true) (hs : ∀ w ∈ flatC (Jvm.Cond.and given_1 narrow_1), w.before args s = true) : ∃ t : Nat, (Term.static "BilingualSetter" "SEGMENT_BEGIN" "[I").eval args s none [] s = some (.ref t) ∧ va_Z "BilingualSetter" (st_nm 5) "[I" (.ref t) (fun q : Nat => s.heap.size ≤ q) s s.heap ∧ va_T .int t (st_n 5) (fun j => .int (Int32.ofInt (st_v 5 j))) (fun q : Nat => s.heap.size ≤ q) s s.heap :=
  st_row (nm := "SEGMENT_BEGIN") (N := 2) (f := fun j => Int32.ofInt (st_v 5 j)) (by decide) (hts _ (tb_2 (i := 147) rfl)) (hts _ (tb_1 (i := 1) rfl)) (hs _ (by decide +kernel)) (hs _ (by decide +kernel)) (fun j hj => by
    match j, hj with
    | 0, _ => exact hs _ (by decide +kernel)
    | 1, _ => exact hs _ (by decide +kernel)
    | k + 2, hj => exact absurd hj (by omega)) (fun _ h => Nat.not_le.mpr h)
set_option maxHeartbeats 4000000 in
/-- what the walk takes of the start -/
theorem st_all {s : State} {b L : Nat} {xq : Nat → Int32} (hL : L ≤ 2560) (hts : ∀ w ∈ lw_tbl, w.before #[Value.ref b] s = true) (hX : va_X b L xq s s.heap) (hbl : b < s.heap.size) (hgv : (Jvm.Cond.and given_1 narrow_1).before #[Value.ref b] s = true) : ∃ X : XT, xb X = s.heap.size ∧ xs X 6 = b ∧ xs X 7 = L ∧ KU X s ∧ StOK X s s.heap := by
  have hs := flat_of_before _ hgv
  obtain ⟨D, hD⟩ := st_cls hts
  obtain ⟨c0, k0, r0⟩ := st_arr (hts (.arrayClass .int) (tb_1 (i := 46) rfl)) (Or.inl rfl)
  obtain ⟨c1, k1, r1⟩ := st_arr (hts (.arrayClass .int) (tb_1 (i := 46) rfl)) (Or.inl rfl)
  have h2 : (Cond.arrayOver (.object RX1)).before #[Value.ref b] s = true := hts _ (tb_1 (i := 93) rfl)
  have h3 : (Cond.arrayOver (.array .int)).before #[Value.ref b] s = true := hts _ (tb_1 (i := 26) rfl)
  obtain ⟨c2, k2, r2⟩ := st_obj h2
  obtain ⟨c3, k3, r3⟩ := st_aa h3
  obtain ⟨t0, e0, z0, a0⟩ := st_r0 hts hs
  obtain ⟨t1, -, z1, a1⟩ := st_r1 hts hs
  obtain ⟨t2, -, z2, a2⟩ := st_r2 hts hs
  obtain ⟨t3, -, z3, a3⟩ := st_r3 hts hs
  obtain ⟨t4, -, z4, a4⟩ := st_r4 hts hs
  obtain ⟨t5, -, z5, a5⟩ := st_r5 hts hs
  obtain ⟨cell, q1, q2, q3, q4, q5, q6⟩ := st_row0 (hs _ (by decide +kernel)) e0 (hs _ (by decide +kernel)) a0
  have r0' : s.vm.findClass "[I" = some c0 := r0
  have q2' : cell.cls = c0 := Option.some.inj (q2.symm.trans r0')
  have ht0 : t0 < s.heap.size := (Array.getElem?_eq_some_iff.mp q1).1
  obtain ⟨X, hX1⟩ : ∃ X : XT, X = (D, s.heap.size, (fun k => if k = 0 then c0 else if k = 1 then c1 else if k = 2 then c2 else c3), (fun k => if k = 0 then t0 else if k = 1 then t1 else if k = 2 then t2 else if k = 3 then t3 else if k = 4 then t4 else if k = 5 then t5 else if k = 6 then b else if k = 7 then L else ((xq (k - 8)).toInt + 2147483648).toNat)) := ⟨_, rfl⟩
  have eb : xb X = s.heap.size := by rw [hX1]
  have eA : x_A X = (fun q : Nat => s.heap.size ≤ q) := by unfold x_A; rw [eb]
  have eD : xD X = D := by rw [hX1]
  have ec0 : xc X 0 = c0 := by rw [hX1]; rfl
  have ec1 : xc X 1 = c1 := by rw [hX1]; rfl
  have ec2 : xc X 2 = c2 := by rw [hX1]; rfl
  have ec3 : xc X 3 = c3 := by rw [hX1]; rfl
  have es0 : xs X 0 = t0 := by rw [hX1]; rfl
  have es1 : xs X 1 = t1 := by rw [hX1]; rfl
  have es2 : xs X 2 = t2 := by rw [hX1]; rfl
  have es3 : xs X 3 = t3 := by rw [hX1]; rfl
  have es4 : xs X 4 = t4 := by rw [hX1]; rfl
  have es5 : xs X 5 = t5 := by rw [hX1]; rfl
  have es6 : xs X 6 = b := by rw [hX1]; rfl
  have es7 : xs X 7 = L := by rw [hX1]; rfl
  have es8 : ∀ j, xs X (8 + j) = ((xq j).toInt + 2147483648).toNat := by
    intro j
    rw [hX1]
    show (if 8 + j = 0 then t0 else if 8 + j = 1 then t1 else if 8 + j = 2 then t2 else if 8 + j = 3 then t3 else if 8 + j = 4 then t4 else if 8 + j = 5 then t5 else if 8 + j = 6 then b else if 8 + j = 7 then L else ((xq (8 + j - 8)).toInt + 2147483648).toNat) = _
    rw [if_neg (by omega), if_neg (by omega), if_neg (by omega), if_neg (by omega), if_neg (by omega), if_neg (by omega), if_neg (by omega), if_neg (by omega), show 8 + j - 8 = j by omega]
  clear hX1
  refine ⟨X, eb, es6, es7, ⟨⟨?_, ?_⟩, st_nm1 hts, st_nf1 hts, va_Nw.of rfl (hts (.castable "[I" "java/lang/Cloneable") (tb_1 (i := 54) rfl)), va_AO.of h2, (show va_AOA .int s from h3)⟩, ⟨?_, ?_, ?_, ?_, ?_, ?_, ?_⟩⟩
  · rw [eD]
    exact hD
  · intro k q hq
    unfold x_tys at hq
    rw [ec0, ec1, ec2, ec3] at hq
    match k, hq with
    | 0, hq => cases hq; exact ⟨k0, r0⟩
    | 1, hq => cases hq; exact ⟨k1, r1⟩
    | 2, hq => cases hq; exact ⟨k2, r2⟩
    | 3, hq => cases hq; exact ⟨k3, r3⟩
    | k + 4, hq => exact absurd hq (by simp)
  · rw [eA]
    intro k hk
    rcases (show k = 0 ∨ k = 1 ∨ k = 2 ∨ k = 3 ∨ k = 4 ∨ k = 5 by omega) with rfl | rfl | rfl | rfl | rfl | rfl
    · rw [es0]; exact ⟨z0, a0⟩
    · rw [es1]; exact ⟨z1, a1⟩
    · rw [es2]; exact ⟨z2, a2⟩
    · rw [es3]; exact ⟨z3, a3⟩
    · rw [es4]; exact ⟨z4, a4⟩
    · rw [es5]; exact ⟨z5, a5⟩
  · refine ⟨cell, by rw [es0]; exact q1, by rw [ec0]; exact q2', ?_, q5, q6⟩
    apply Array.ext_getElem?
    intro i
    by_cases hi : i < 6
    · rw [arrV_read _ _ hi]
      exact q4 i hi
    · rw [Array.getElem?_eq_none (by rw [q3]; omega), Array.getElem?_eq_none (by rw [arrV_size]; omega)]
  · rw [eA, es0]
    exact Nat.not_le.mpr ht0
  · rw [es6, es7]
    have ef : (fun j => Int32.ofInt ((xs X (8 + j) : Int) - 2147483648)) = xq := by
      funext j
      have lo := Int32.le_toInt (xq j)
      rw [es8, show (((((xq j).toInt + 2147483648).toNat : Nat) : Int) - 2147483648) = (xq j).toInt by omega, Int32.ofInt_toInt]
    rw [ef]
    exact hX
  · rw [eA, es6]
    exact Nat.not_le.mpr hbl
  · rw [es7]; exact hL
  · intro j
    rw [es8]
    have lo := Int32.le_toInt (xq j)
    have hi := Int32.toInt_lt (xq j)
    omega
/-! ===== the claim ===== -/
