/-! ===== what is made: a table of rows, a copy of a fixed row ===== -/
def zrs (σ : Sto) (n : Nat) (b : Nat) (i : Int) : Int := if n ≤ b then 0 else σ b i
theorem zrs_o {σ : Sto} {n b : Nat} (h : b < n) : zrs σ n b = σ b := by
  funext i
  simp [zrs, show ¬ n ≤ b by omega]
theorem sok_zrs {σ : Sto} {n : Nat} (h : sok σ) : sok (zrs σ n) := by
  intro a j
  unfold zrs
  split
  · exact ⟨by omega, by omega⟩
  · exact h a j
def rowsSh (b N : Nat) : List (Option Nat) := (List.range N).map fun i => some (b + i)
def a_mnew (M : MT) (N K : Nat) (nx : Nat) : Act := fun L S g σ k _ => match S with
  | .inl c :: .inl r :: S => (c = (K : Int) ∧ r = (N : Int)) ∧ (g.1.length + 1 + N < 100000 ∧ g.2.1 + 1 + N ≤ m_mc M ∧ g.2.2 + N + N * K ≤ m_ms M) ∧ k nx L (.inr g.1.length :: S) (g.1 ++ (.inr (.inr (false, rowsSh (g.1.length + 1) N)) :: List.replicate N (.inr (.inl (false, K)))), g.2.1 + 1 + N, g.2.2 + N + N * K) (zrs σ g.1.length)
  | _ => False
/-- a fixed row's copy (the row of number 0), cast to what it is -/
def st0 (σ : Sto) (n : Nat) (b : Nat) (i : Int) : Int := if b = n then st_v 0 i else σ b i
def a_clone (M : MT) (nx : Nat) : Act := fun L S g σ k _ => match S with
  | .inr q :: S => q = 100000 ∧ S.length ≤ 8 ∧ (g.1.length < 99999 ∧ g.2.1 + 1 ≤ m_mc M ∧ g.2.2 + 6 ≤ m_ms M) ∧ k nx L (.inr g.1.length :: S) (g.1 ++ [.inr (.inl (false, 6))], g.2.1 + 1, g.2.2 + 6) (st0 σ g.1.length)
  | _ => False
def a_cast (nx : Nat) : Act := fun L S g σ k _ => match S with
  | .inr i :: S => (match shp g i with
    | some (.inr (.inl (false, _))) => k nx L (.inr i :: S) g σ
    | _ => False)
  | _ => False
theorem sok_st0 {σ : Sto} {n : Nat} (h : sok σ) : sok (st0 σ n) := by
  intro a j
  unfold st0
  split
  · exact st_in 0 j
  · exact h a j
theorem outer_eq {cA : ClassId} {N h0 : Nat} {f : Nat → Value} (hf : ∀ j, j < N → f j = .ref (h0 + 1 + j)) : Jvm.Free.Multi.outerC cA N h0 N = arrV cA N f := by
  obtain ⟨e1, e2, e3⟩ := Jvm.Free.Multi.outerC_facts cA N h0 N
  have es : (Jvm.Free.Multi.outerC cA N h0 N).slots = (arrV cA N f).slots := by
    apply Array.ext_getElem?
    intro j
    by_cases c : j < N
    · rw [Jvm.Free.Multi.outerC_slot cA N h0 N j c, if_pos c, arrV_read _ _ c, hf j c]
    · rw [Array.getElem?_eq_none (by omega), Array.getElem?_eq_none (by rw [arrV_size]; omega)]
  have ex : ∀ i : Nat, ∃ sl : Array Value, Jvm.Free.Multi.outerC cA N h0 i = { cls := cA, slots := sl, vm := .none } := by
    intro i
    induction i with
    | zero => exact ⟨_, rfl⟩
    | succ i ih =>
      obtain ⟨sl, h⟩ := ih
      unfold Jvm.Free.Multi.outerC
      rw [h]
      exact ⟨_, rfl⟩
  obtain ⟨sl, h⟩ := ex N
  rw [h] at es ⊢
  have es : sl = (arrV cA N f).slots := es
  subst es
  rfl
section SNDC
variable {X : XT} {M M' : MT} {pc nx : Nat}
theorem x_size_eq {g : GS} {σ : Sto} {s : State} {H : Heap} {locs : List Loc} (Hh : Hp X g σ s H locs) (hb : xb X ≤ s.heap.size) (hz : H.size ≤ s.heap.size + g.2.1) : H.size = xb X + g.1.length := by
  have := x_size_ge Hh hb
  have := Hh.2.2
  omega
theorem snd_mnew {N K idx : Nat} (hd : decode (m_c M) pc = .ok (.multianewarray idx 2, 4)) (hw : Cond.classLink (m_y M).cls idx ("[" ++ (FieldType.array .int).toString) ∈ W0) (hw2 : Cond.arrayClass .int ∈ W0) (hN : N ≤ 1000) (hK : K ≤ 100000) (hn : nx = pc + 4) : Snd X M pc (a_mnew M N K nx) := by
  subst hn
  intro Q k L S g σ hk ha p l e s m args below meth c H locs ls Cc Hh hl hS
  unfold a_mnew at ha
  split at ha
  · rename_i c0 r0 S
    obtain ⟨⟨rfl, rfl⟩, ⟨hl9, hcl1, hsl1⟩, ha⟩ := ha
    obtain ⟨hx, hb, hr, hml, hown, hts, hlk, hKU, hSt, hbz, hnm⟩ := id Cc
    obtain ⟨⟨hP, hok, hG⟩, hVS, hsz⟩ := id Hh
    have hvK : InR (K : Int) := okh hS
    have hvN : InR (N : Int) := okh (okt hS)
    have eK : (Int32.ofInt (K : Int)).toNatClampNeg = K := by rw [i_nat hvK]; simp
    have eN : (Int32.ofInt (N : Int)).toNatClampNeg = N := by rw [i_nat hvN]; simp
    refine W_size fun hz => ?_
    have hHs := x_size_eq Hh hbz hz
    intro T hT X0
    obtain ⟨vm₁, cA, comp, hW, hfA, hfC, hO, hI, X1, step⟩ := X0.multianewarray2F (g := F0 m pc ls (((.inl (K : Int) :: .inl (N : Int) :: S : List AV)).map (x_c X))) (n := Int32.ofInt (N : Int)) (k := Int32.ofInt (K : Int)) (rest := S.map (x_c X)) (ty := .int) hx hown (hts _ hw) (hKU.2.2.2.2.2.use) (hts _ hw2) rfl (by rw [hb]; exact hd) rfl (by rw [i_lt0 hvN]; omega) (by rw [i_lt0 hvK]; omega) (by rw [eN]; omega) (by rw [eK]; simp [componentBytes]; omega) (by rw [eK]; omega) rfl rfl (by rw [eN]; show g.2.1 + (1 + N) ≤ m_mc M; omega) (by rw [eN, eK]; show g.2.2 + (N + N * K) ≤ m_ms M; omega)
    rw [eN, eK] at X1 step
    have hcA : cA = xc X 3 := by
      have r2 := (hKU.1.2 3 (xc X 3, .array .int) rfl).2
      exact Option.some.inj (hfA.symm.trans r2)
    have hcB : comp = xc X 0 := by
      have r2 := (hKU.1.2 0 (xc X 0, .int) rfl).2
      exact Option.some.inj (hfC.symm.trans r2)
    subst hcA hcB
    have hTs : (T.setVm vm₁).heap.size = xb X + g.1.length := by
      show T.heap.size = _
      rw [hT, hHs]
    obtain ⟨f1, f2, f3, f4⟩ := Jvm.Free.Multi.fill_facts (T.setVm vm₁) (xc X 3) (xc X 0) N K (defaultValue .int) N
    have fin := Jvm.Free.Multi.fill_inner (T.setVm vm₁) (xc X 3) (xc X 0) N K (defaultValue .int) N
    have fold := fun (a : Nat) (h : a < (T.setVm vm₁).heap.size) => Jvm.Free.Multi.fill_old (T.setVm vm₁) (xc X 3) (xc X 0) N K (defaultValue .int) h N
    rw [hTs] at f1 f2 fin fold
    generalize hT1 : Jvm.Free.Multi.fill (T.setVm vm₁) (xc X 3) (xc X 0) N K (defaultValue .int) N = T1 at *
    have hTH : ∀ a, a < xb X + g.1.length → T1.heap[a]? = H[a]? := fun a h => by
      rw [fold a h]
      show T.heap[a]? = _
      rw [hT]
    have hPk : va_P (xD X) vwCl (x_ws X g.1 σ) T1.heap := hP.kept (fun k x hx => hTH _ (by
      have := (hP k x hx).lt
      omega))
    have hH : Hp X (g.1 ++ (.inr (.inr (false, rowsSh (g.1.length + 1) N)) :: List.replicate N (.inr (.inl (false, K)))), g.2.1 + 1 + N, g.2.2 + N + N * K) (zrs σ g.1.length) s T1.heap locs := by
      refine ⟨⟨fun k q hq => ?_, sok_zrs hok, by simp; omega⟩, ⟨?_, fun q h1 h2 => ?_, hVS.2.2⟩, ?_⟩
      · obtain ⟨hk1, rfl⟩ := x_ws_at hq
        by_cases c1 : k < g.1.length
        · have e1 : x_ent X (g.1 ++ (.inr (.inr (false, rowsSh (g.1.length + 1) N)) :: List.replicate N (.inr (.inl (false, K))))) (zrs σ g.1.length) k = x_ent X g.1 σ k := by
            rw [x_ent_up (zrs_o c1)]
            unfold x_ent
            rw [List.getElem?_append_left c1]
          rw [e1, x_ent_some (List.getElem?_eq_getElem c1)]
          exact hPk k _ (x_ws_get (List.getElem?_eq_getElem c1))
        · by_cases c2 : k = g.1.length
          · subst c2
            rw [x_ent_some (sh := .inr (.inr (false, rowsSh (g.1.length + 1) N))) (by simp)]
            show T1.heap[xb X + g.1.length]? = some (vp_cell _ _)
            rw [f2]
            congr 1
            rw [outer_eq (h0 := xb X + g.1.length) (f := fun j => va_rf (((rowsSh (g.1.length + 1) N)[j]?.join).map (fun k => xb X + k))) (fun j hj => by
              have ej : (rowsSh (g.1.length + 1) N)[j]? = some (some (g.1.length + 1 + j)) := by simp [rowsSh, hj]
              rw [ej]
              exact congrArg Value.ref (show (xb X + (g.1.length + 1 + j) : Nat) = xb X + g.1.length + 1 + j by omega))]
            simp only [rowsSh, List.length_map, List.length_range]
            rfl
          · have hk2 : k - g.1.length - 1 < N := by simp at hk1; omega
            rw [x_ent_some (sh := .inr (.inl (false, K))) (by
              rw [List.getElem?_append_right (by omega), show k - g.1.length = (k - g.1.length - 1) + 1 by omega, List.getElem?_cons_succ, List.getElem?_replicate, if_pos hk2])]
            have := fin (k - g.1.length - 1) hk2
            rw [show xb X + g.1.length + 1 + (k - g.1.length - 1) = xb X + k by omega] at this
            show T1.heap[xb X + k]? = some (vp_cell _ _)
            rw [this]
            congr 1
            have e0 : (fun j : Nat => Int32.ofInt (zrs σ g.1.length k j)) = fun _ => 0 := by
              funext j
              simp [zrs, show g.1.length ≤ k by omega]
            simp only [x_entS, e0]
            have ei : Jvm.Free.Multi.innerC (xc X 0) K (.int 0) = arrV (xc X 0) K (fun _ => .int 0) := by
              unfold Jvm.Free.Multi.innerC
              rw [arrV_new]
            exact ei
      · have h1 := hVS.1
        rw [f1]
        omega
      · rw [hTH q (by omega)]
        exact hVS.2.1 q h1 h2
      · show s.heap.size + (g.2.1 + 1 + N) = xb X + _
        simp
        omega
    have hq : x_c X (.inr g.1.length) = .ref T.heap.size := by
      rw [hT, hHs]
      simp [x_c, x_addr, show g.1.length < 100000 by omega]
    obtain ⟨t, a1, b1⟩ := hk _ _ _ _ _ ha p l e s m args below meth c T1.heap locs ls Cc hH hl (okc trivial (okt (okt hS))) T1 rfl X1
    refine ⟨t, step t ?_, b1⟩
    rw [← hq]
    exact a1
  · exact ha.elim
theorem snd_clone {idx : Nat} (hd : decode (m_c M) pc = .ok (.invokevirtual idx, 3)) (h1 : Cond.methodLink (m_y M).cls idx ⟨"[I", "clone", "()Ljava/lang/Object;"⟩ ∈ W0) (h2 : Cond.sameMethod "[I" "java/lang/Object" "clone" "()Ljava/lang/Object;" ∈ W0) (h3 : Cond.native ⟨"java/lang/Object", "clone", "()Ljava/lang/Object;"⟩ ∈ W0) (h4 : Cond.instanceMethod ⟨"java/lang/Object", "clone", "()Ljava/lang/Object;"⟩ ∈ W0)
    (h5 : Cond.selects "[I" ⟨"[I", "clone", "()Ljava/lang/Object;"⟩ ⟨"java/lang/Object", "clone", "()Ljava/lang/Object;"⟩ ∈ W0) (hrk : 1 ≤ m_k M) (hn : nx = pc + 3) : Snd X M pc (a_clone M nx) := by
  subst hn
  intro Q k L S g σ hk ha p l e s m args below meth c H locs ls Cc Hh hl hS
  unfold a_clone at ha
  split at ha
  · rename_i q S
    obtain ⟨rfl, h8, ⟨hl9, hcl1, hsl1⟩, ha⟩ := ha
    obtain ⟨hx, hb, hr, hml, hown, hts, hlk, hKU, hSt, hbz, hnm⟩ := id Cc
    obtain ⟨⟨hP, hok, hG⟩, hVS, hsz⟩ := id Hh
    have hSt' := hSt.kept (fun a h1 h2 => hVS.2.1 a h1 h2)
    obtain ⟨cell, hs0, hcls, hsl, hknown, hobj⟩ := hSt'.2.1
    have hadr : x_c X (.inr 100000) = .ref (xs X 0) := by simp [x_c, x_addr]
    show W _ _ _ _ _ _ _ _ _ _ _ _ _ _ _ (F0 m pc ls (x_c X (.inr 100000) :: S.map (x_c X)))
    rw [hadr]
    have hnm : s.vm.findClass "[I" = some (xc X 0) := (hKU.1.2 0 _ (tys0 X)).2
    have hszc : cell.slots.size = 6 := by rw [hsl]; exact arrV_size _ _ _
    have hcE : ({ cls := cell.cls, slots := cell.slots } : Cell) = arrV (xc X 0) 6 (fun j => .int (Int32.ofInt (st_v 0 j))) := by
      rw [hcls, hsl]
      rfl
    refine W_size fun hz0 => ?_
    intro T hT X0
    obtain ⟨c0, t0', f1, f2, f3⟩ := Cond.castable_spec (va_Nw.use (A := args) rfl hKU.2.2.2.1)
    cases hnm.symm.trans f1
    have hcellT : T.heap[xs X 0]? = some cell := by rw [hT]; exact hs0
    obtain ⟨-, kA, hkA, comp, hkind⟩ := State.isArrayOf_alike X0.warmed.alike ((hKU.1.2 0 _ (tys0 X)).1 0 (fun _ => .null))
    obtain ⟨-, kS, hkS, compS, hkindS⟩ := (hKU.1.2 0 _ (tys0 X)).1 0 (fun _ => .null)
    obtain ⟨vm', X', st⟩ := X0.cloneArray hx hown (hts _ h1) (hts _ h2) (hts _ h3) (hts _ h4) (hts _ h5) (a := xs X 0) (cell := cell) hcellT hobj hknown (by rw [hcls]; exact hnm) f2 (by rw [hcls]; exact f3)
      (fun i v hv => by
        rw [hcls]
        have hk' : T.vm.classes[xc X 0]? = some kA := hkA
        have hfit : fits .int v = true := by
          rw [hsl] at hv
          by_cases c : i < 6
          · rw [arrV_read _ _ c] at hv
            cases hv
            rfl
          · rw [Array.getElem?_eq_none (by rw [arrV_size]; omega)] at hv
            cases hv
        simpa [State.fitsSlot, State.slotType?, hk', hkind] using hfit)
      (g := F0 m pc ls (.ref (xs X 0) :: S.map (x_c X))) (rest := S.map (x_c X)) rfl (by rw [hml]; exact hl.1) rfl (by rw [hb]; exact hd) hrk (by
        rw [mapc_cat]
        show 2 * 0 + S.length + 14 ≤ (41 * m_k M + 4)
        omega) hcl1 (by rw [hszc]; exact hsl1) (hloader := by rw [hcls]; exact Vm.clonesLoader_of_array hkS hkindS)
    rw [hcE, hszc] at X'
    generalize hH1 : H.push (arrV (xc X 0) 6 (fun j => .int (Int32.ofInt (st_v 0 j)))) = H1
    have z1 : H1.size = H.size + 1 := by rw [← hH1, Array.size_push]
    have e1 : H1[H.size]? = some (arrV (xc X 0) 6 (fun j => .int (Int32.ofInt (st_v 0 j)))) := by rw [← hH1, Array.getElem?_push_size]
    have o1 : ∀ q : Nat, q < H.size → H1[q]? = H[q]? := fun q hq => by rw [← hH1, Array.getElem?_push, if_neg (Nat.ne_of_lt hq)]
    have hkp : ∀ (k : Nat) (y : Nat × va_E), (x_ws X g.1 σ)[k]? = some y → H1[y.1]? = H[y.1]? := fun k y hy => o1 y.1 ((hP k y hy).lt)
    have hP2 : va_P (xD X) vwCl (x_ws X g.1 σ ++ [(H.size, .inl (xc X 0, 6, .inl (fun j => Int32.ofInt (st_v 0 j))))]) H1 := (hP.kept hkp).app (fun k y hy => by
      have hz : k < 1 := (List.getElem?_eq_some_iff.mp hy).1
      rw [show k = 0 by omega] at hy
      cases hy
      exact e1)
    have hD2 : va_D (x_A X) (x_ws X g.1 σ ++ [(H.size, .inl (xc X 0, 6, .inl (fun j => Int32.ofInt (st_v 0 j))))]) := (x_D X g.1 σ).push hP rfl (x_Aup hbz _ hVS.1)
    have hS2 : va_S (x_A X) s.heap H1 locs := ⟨Nat.le_trans hVS.1 (by omega), fun y h1 h2 => (o1 y (Nat.lt_of_lt_of_le h1 hVS.1)).trans (hVS.2.1 y h1 h2), hVS.2.2⟩
    obtain ⟨hq, hH⟩ := x_grow (σ' := st0 σ g.1.length) (u := g.2.2 + 6) (sh := .inr (.inl (false, 6))) Hh hP2 hD2 hS2 (by omega) (fun b hb => by
      funext j
      simp [st0, show ¬ b = g.1.length by omega]) (sok_st0 hok) (by simp [x_entS, st0]) hl9
    obtain ⟨t, b1, b2⟩ := hk _ _ _ _ _ ha p l e s m args below meth c H1 locs ls Cc hH hl (okc trivial (okt hS)) ((T.setVm vm').pushCell (arrV (xc X 0) 6 (fun j => .int (Int32.ofInt (st_v 0 j))))) (by rw [← hH1, ← hT]; rfl) X'
    refine ⟨t, st t ?_, b2⟩
    rw [hcE, hT]
    have b1 : Steps p.tables e below (((T.setVm vm').pushCell (arrV (xc X 0) 6 (fun j => .int (Int32.ofInt (st_v 0 j))))).setTop (F0 m (pc + 3) ls (x_c X (.inr g.1.length) :: S.map (x_c X)))) t := b1
    rw [hq] at b1
    exact b1
  · exact ha.elim
theorem snd_cast {idx : Nat} (hd : decode (m_c M) pc = .ok (.checkcast idx, 3)) (h1 : Cond.classLink (m_y M).cls idx "[I" ∈ W0) (hn : nx = pc + 3) : Snd X M pc (a_cast nx) := by
  subst hn
  intro Q k L S g σ hk ha p l e s m args below meth c H locs ls Cc Hh hl hS
  unfold a_cast at ha
  split at ha
  · rename_i i S
    split at ha
    · rename_i n hsh
      obtain ⟨hx, hb, hr, hml, hown, hts, hlk, hKU, hSt, hbz, hnm⟩ := id Cc
      obtain ⟨hg, hadr⟩ := shp_at Hh hsh
      have fin := hk _ _ _ _ _ ha p l e s m args below meth c H locs ls Cc Hh hl hS
      show W _ _ _ _ _ _ _ _ _ _ _ _ _ _ _ (F0 m pc ls (x_c X (.inr i) :: S.map (x_c X)))
      have fin : W p l e (x_rm M) s m args below meth c H locs g.2.1 g.2.2 (MQ below (x_Qc X Q) args s (m_mc M) (m_ms M) (x_A X)) (F0 m (pc + 3) ls (x_c X (.inr i) :: S.map (x_c X))) := fin
      rw [hadr] at fin ⊢
      exact va_castA (D := xD X) (cl := vwCl) (ws := x_ws X g.1 σ) hx hb hown (hts _ h1) Hh.1.1 i (cA := xc X 0) (x := (n, .inl (fun j => Int32.ofInt (σ i j)))) hg (hKU.1.2 0 _ (tys0 X)).2 hd fin
    · exact ha.elim
  · exact ha.elim
end SNDC
