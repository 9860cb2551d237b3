/-! ===== what is made: new objects and rows ===== -/
def zr (σ : Sto) (n : Nat) (b : Nat) (i : Int) : Int := if b = n then 0 else σ b i
theorem zr_o {σ : Sto} {n b : Nat} (h : b ≠ n) : zr σ n b = σ b := by
  funext i
  simp [zr, h]
theorem zr_n {σ : Sto} {n : Nat} {i : Int} : zr σ n n i = 0 := by simp [zr]
theorem sok_zr {σ : Sto} {n : Nat} (h : sok σ) : sok (zr σ n) := by
  intro a j
  unfold zr
  split
  · exact ⟨by omega, by omega⟩
  · exact h a j
theorem x_ws_push {X : XT} {G : List Sh} {σ σ' : Sto} {sh : Sh} (ho : ∀ b, b < G.length → σ' b = σ b) : x_ws X (G ++ [sh]) σ' = x_ws X G σ ++ [(xb X + G.length, x_entS X σ' G.length sh)] := by
  apply List.ext_getElem?
  intro j
  by_cases h : j < G.length
  · rw [List.getElem?_append_left (by rw [x_ws_len]; exact h), x_ws_get (sh := G[j]) (by rw [List.getElem?_append_left h]; exact List.getElem?_eq_getElem h), x_ws_get (List.getElem?_eq_getElem h), x_entS_up (ho j h)]
  · by_cases h1 : j = G.length
    · subst h1
      rw [x_ws_get (sh := sh) (by simp), List.getElem?_append_right (by rw [x_ws_len]; omega), x_ws_len]
      simp
    · rw [List.getElem?_eq_none (by rw [x_ws_len]; simp; omega), List.getElem?_eq_none (by simp [x_ws_len]; omega)]
theorem x_grow {X : XT} {g : GS} {σ σ' : Sto} {s : State} {H H1 : Heap} {locs : List Loc} {q u : Nat} {e : va_E} {sh : Sh} (Hh : Hp X g σ s H locs) (hP : va_P (xD X) vwCl (x_ws X g.1 σ ++ [(q, e)]) H1) (hD : va_D (x_A X) (x_ws X g.1 σ ++ [(q, e)])) (hS : va_S (x_A X) s.heap H1 locs) (hz : H1.size ≤ s.heap.size + (g.2.1 + 1)) (ho : ∀ b, b < g.1.length → σ' b = σ b) (hsk : sok σ') (he : x_entS X σ' g.1.length sh = e) (hl : g.1.length < 99999) :
    x_c X (.inr g.1.length) = .ref q ∧ Hp X (g.1 ++ [sh], g.2.1 + 1, u) σ' s H1 locs := by
  have hat : (x_ws X g.1 σ ++ [(q, e)])[g.1.length]? = some (q, e) := by
    rw [List.getElem?_append_right (by rw [x_ws_len]; omega), x_ws_len]
    simp
  have h3 := Hh.2.2
  have hq : q = xb X + g.1.length := by
    have a : xb X ≤ q := hD.2 _ _ hat
    have lt : q < H1.size := (hP _ _ hat).lt
    rcases Nat.lt_or_ge (q - xb X) g.1.length with c | c
    · have h2 : (x_ws X g.1 σ ++ [(q, e)])[q - xb X]? = some (xb X + (q - xb X), x_entS X σ (q - xb X) (g.1[q - xb X])) := by
        rw [List.getElem?_append_left (by rw [x_ws_len]; exact c)]
        exact x_ws_get (List.getElem?_eq_getElem c)
      have := hD.1 _ _ _ _ h2 hat (show xb X + (q - xb X) = q by omega)
      omega
    · omega
  subst hq
  refine ⟨by simp [x_c, x_addr, show g.1.length < 100000 by omega], ⟨by rw [x_ws_push ho, he]; exact hP, hsk, by simp; omega⟩, hS, ?_⟩
  show s.heap.size + (g.2.1 + 1) = xb X + (g.1 ++ [sh]).length
  simp
  omega
def a_new (M : MT) (ci : Nat) (fs : List XF) (nx : Nat) : Act := fun L S g σ k _ => (g.1.length < 99999 ∧ g.2.1 + 1 ≤ m_mc M ∧ g.2.2 + fs.length ≤ m_ms M) ∧ k nx L (.inr g.1.length :: S) (g.1 ++ [.inl (ci, fs)], g.2.1 + 1, g.2.2 + fs.length) (zr σ g.1.length)
def a_newa (M : MT) (z : Bool) (N : Nat) (nx : Nat) : Act := fun L S g σ k _ => match S with
  | .inl v :: S => v = (N : Int) ∧ (g.1.length < 99999 ∧ g.2.1 + 1 ≤ m_mc M ∧ g.2.2 + N ≤ m_ms M) ∧ k nx L (.inr g.1.length :: S) (g.1 ++ [.inr (.inl (z, N))], g.2.1 + 1, g.2.2 + N) (zr σ g.1.length)
  | _ => False
def a_anew (M : MT) (N : Nat) (nx : Nat) : Act := fun L S g σ k _ => match S with
  | .inl v :: S => v = (N : Int) ∧ (g.1.length < 99999 ∧ g.2.1 + 1 ≤ m_mc M ∧ g.2.2 + N ≤ m_ms M) ∧ k nx L (.inr g.1.length :: S) (g.1 ++ [.inr (.inr (true, List.replicate N none))], g.2.1 + 1, g.2.2 + N) (zr σ g.1.length)
  | _ => False
/-- a reference into a field -/
def a_pr (ci f nx : Nat) : Act := fun L S g σ k _ => match S with
  | .inr r :: .inr i :: S => r < 100000 ∧ (match shp g i with
    | some (.inl (c', fs)) => c' = ci ∧ (∃ r0, fget fs f = some (some r0)) ∧ k nx L S (g.1.set i (.inl (ci, fs.set f (some (some r)))), g.2.1, g.2.2) σ
    | _ => False)
  | _ => False
/-- Object's own start -/
def a_oi (M : MT) (nx : Nat) : Act := fun L S g σ k _ => match S with
  | .inr _ :: S => S.length ≤ 8 ∧ k nx L S g σ
  | _ => False
/-- a constructor's call -/
def a_ci (X : XT) (M M' : MT) (ci nx : Nat) : Act := fun L S g σ k _ => match S with
  | .inr i :: S => isO g ci [.inr i] ∧ S.length ≤ 8 ∧ (g.2.1 + m_mc M' ≤ m_mc M ∧ g.2.2 + m_ms M' ≤ m_ms M) ∧ MS X M' [.inr i] g.1 σ (fun r G' σ' => r = none ∧ G'.length = g.1.length + m_mc M' ∧ k nx L S (G', g.2.1 + m_mc M', g.2.2 + m_ms M') σ')
  | _ => False
section SNDA
variable {X : XT} {M M' : MT} {pc nx : Nat}
theorem x_Aup {s : State} (hb : xb X ≤ s.heap.size) : ∀ q, s.heap.size ≤ q → x_A X q := fun q hq => Nat.le_trans hb hq
theorem snd_new {ci idx N : Nat} {C : String} {T : u_T} {fs : List XF} {ty : Nat → FieldType} (hd : decode (m_c M) pc = .ok (.new idx, 3)) (hc : vwCl[ci]? = some (C, T, N)) (hin : ∀ w ∈ u_ws C T N, w ∈ W0) (hcl : Cond.classLink (m_y M).cls idx C ∈ W0) (hinst : Cond.instantiable C N ∈ W0) (hini : Cond.initialized C ∈ W0) (hty : ∀ k, k < N → parseFieldDescriptor (T k).2.2.1 = some (ty k)) (hN : fs.length = N)
    (hfs : ∀ j, j < N → (fs[j]? = some none ∧ defaultValue (ty j) = .int 0) ∨ (fs[j]? = some (some none) ∧ defaultValue (ty j) = .null)) (hn : nx = pc + 3) : Snd X M pc (a_new M ci fs nx) := by
  subst hn hN
  intro Q k L S g σ hk ha p l e s m args below meth c H locs ls Cc Hh hl hS
  obtain ⟨⟨hl9, hcl1, hsl1⟩, ha⟩ := ha
  obtain ⟨hx, hb, hr, hml, hown, hts, hlk, hK, hSt, hbz, hnm⟩ := id Cc
  obtain ⟨⟨hP, hok, hG⟩, hVS, hsz⟩ := id Hh
  refine va_new (D := xD X) (cl := vwCl) (tys := x_tys X) (ws := x_ws X g.1 σ) (A := x_A X) (H0 := s.heap) (fs := x_fv X (zr σ g.1.length) g.1.length 0 fs) hx hb hts hin ty hty hown (hts _ hcl) (hts _ hinst) (hts _ hini) hK.1 hP (x_D X g.1 σ) hVS (x_Aup hbz) hc (fun j hj => ?_) hcl1 hsl1 hd (fun q H1 hP1 hD1 hS1 => ?_)
  · unfold vp_V
    rw [List.getD_eq_getElem?_getD, x_fv_get]
    rcases hfs j hj with ⟨h1, h2⟩ | ⟨h1, h2⟩
    · rw [h1, h2]
      simp [x_f1, zr]
    · rw [h1, h2]
      simp [x_f1, va_rf]
  · refine W_size fun hz => ?_
    obtain ⟨hq, hH⟩ := x_grow (σ' := zr σ g.1.length) (u := g.2.2 + fs.length) (sh := .inl (ci, fs)) Hh hP1 hD1 hS1 hz (fun b hb => zr_o (by omega)) (sok_zr hok) rfl hl9
    rw [← hq]
    exact hk _ _ _ _ _ ha p l e s m args below meth c H1 locs ls Cc hH hl (okc trivial hS)
theorem snd_newa {N : Nat} {at' : ArrayType} (hd : decode (m_c M) pc = .ok (.newarray at', 2)) (hat : newarray.typeOf at' = .int) (hw : Cond.arrayClass .int ∈ W0) (hN : N ≤ 100000) (hn : nx = pc + 2) : Snd X M pc (a_newa M false N nx) := by
  subst hn
  intro Q k L S g σ hk ha p l e s m args below meth c H locs ls Cc Hh hl hS
  unfold a_newa at ha
  split at ha
  · rename_i v S
    obtain ⟨rfl, ⟨hl9, hcl1, hsl1⟩, ha⟩ := ha
    obtain ⟨hx, hb, hr, hml, hown, hts, hlk, hK, hSt, hbz, hnm⟩ := id Cc
    obtain ⟨⟨hP, hok, hG⟩, hVS, hsz⟩ := id Hh
    have hv : InR (N : Int) := okh hS
    refine va_newa (D := xD X) (cl := vwCl) (tys := x_tys X) (ws := x_ws X g.1 σ) (A := x_A X) (H0 := s.heap) (N' := N) (a0 := (N, .inl (fun _ => 0))) (ty := .int) hx hb (by rw [hat]; exact hts _ hw) hat hK.1 hP (x_D X g.1 σ) hVS (x_Aup hbz) (fun cA => rfl) (by rw [i_lt0 hv]; omega) (by rw [i_nat hv]; simp) (by simp [componentBytes]; omega) hcl1 hsl1 hd (fun q cA H1 hK1 hP1 hD1 hS1 => ?_)
    refine W_size fun hz => ?_
    have hcA : cA = xc X 0 := by
      have r1 := (hK1.2 4 (cA, .int) (by simp [x_tys])).2
      have r2 := (hK.1.2 0 _ (tys0 X)).2
      exact Option.some.inj (r1.symm.trans r2)
    obtain ⟨hq, hH⟩ := x_grow (σ' := zr σ g.1.length) (u := g.2.2 + N) (sh := .inr (.inl (false, N))) Hh hP1 hD1 hS1 hz (fun b hb => zr_o (by omega)) (sok_zr hok) (by
      rw [hcA]
      simp [x_entS, zr]) hl9
    rw [← hq]
    exact hk _ _ _ _ _ ha p l e s m args below meth c H1 locs ls Cc hH hl (okc trivial (okt hS))
  · exact ha.elim
theorem snd_anew {N idx : Nat} (hd : decode (m_c M) pc = .ok (.anewarray idx, 3)) (hw : Cond.classLink (m_y M).cls idx RX1 ∈ W0) (hN : N ≤ 100000) (hn : nx = pc + 3) : Snd X M pc (a_anew M N nx) := by
  subst hn
  intro Q k L S g σ hk ha p l e s m args below meth c H locs ls Cc Hh hl hS
  unfold a_anew at ha
  split at ha
  · rename_i v S
    obtain ⟨rfl, ⟨hl9, hcl1, hsl1⟩, ha⟩ := ha
    obtain ⟨hx, hb, hr, hml, hown, hts, hlk, hK, hSt, hbz, hnm⟩ := id Cc
    obtain ⟨⟨hP, hok, hG⟩, hVS, hsz⟩ := id Hh
    have hv : InR (N : Int) := okh hS
    refine va_newq (D := xD X) (cl := vwCl) (tys := x_tys X) (ws := x_ws X g.1 σ) (A := x_A X) (H0 := s.heap) (N' := N) hx hb hown (hts _ hw) hK.2.2.2.2.1 hK.1 hP (x_D X g.1 σ) hVS (x_Aup hbz) (by rw [i_lt0 hv]; omega) (by rw [i_nat hv]; simp) (by omega) hcl1 hsl1 hd (fun q cA H1 hK1 hP1 hD1 hS1 => ?_)
    refine W_size fun hz => ?_
    have hcA : cA = xc X 2 := by
      obtain ⟨-, -, -, -, -, r1⟩ := (hK1.2 4 (cA, .object RX1) (by simp [x_tys])).2
      obtain ⟨-, -, -, -, -, r2⟩ := (hK.1.2 2 (xc X 2, .object RX1) rfl).2
      exact Option.some.inj (r1.symm.trans r2)
    obtain ⟨hq, hH⟩ := x_grow (σ' := zr σ g.1.length) (u := g.2.2 + N) (sh := .inr (.inr (true, List.replicate N none))) Hh hP1 hD1 hS1 hz (fun b hb => zr_o (by omega)) (sok_zr hok) (by
      rw [hcA]
      simp only [x_entS, if_true, List.length_replicate]
      congr 7
      funext j
      by_cases c : j < N
      · rw [List.getElem?_replicate, if_pos c]; rfl
      · rw [List.getElem?_replicate, if_neg c]; rfl) hl9
    rw [← hq]
    exact hk _ _ _ _ _ ha p l e s m args below meth c H1 locs ls Cc hH hl (okc trivial (okt hS))
  · exact ha.elim
theorem snd_pr {ci f idx N : Nat} {C ref nm ds : String} {T : u_T} {ty0 : Nat → FieldType} {ty : FieldType} (hd : decode (m_c M) pc = .ok (.putfield idx, 3)) (hc : vwCl[ci]? = some (C, T, N)) (hk : f < N) (hT : T f = (ref, nm, ds, true)) (hin2 : (m_y M).name = "<init>") (hdecl : ref = (m_y M).cls) (hlink : Cond.fieldLink (m_y M).cls idx ref nm ds ∈ W0) (hin : ∀ w ∈ u_ws C T N, w ∈ W0)
    (hty : ∀ k, k < N → parseFieldDescriptor (T k).2.2.1 = some (ty0 k)) (hnm' : ∀ a, a < N → ∀ b, b < N → a ≠ b → (T a).2.1 ≠ (T b).2.1) (hds : parseFieldDescriptor ds = some ty) (hnar : ∀ a : Nat, narrow ty (.ref a) = .ref a ∧ fits ty (.ref a) = true) (hn : nx = pc + 3) : Snd X M pc (a_pr ci f nx) := by
  subst hn
  intro Q k L S g σ hk' ha p l e s m args below meth c H locs ls Cc Hh hl hS
  unfold a_pr at ha
  split at ha
  · rename_i r i S
    obtain ⟨hr5, ha⟩ := ha
    split at ha
    · rename_i c' fs hsh
      obtain ⟨rfl, hfs, ha⟩ := ha
      obtain ⟨hx, hb, hr, hml, hown, hts, hlk, hK, hSt, hbz, hnm⟩ := id Cc
      obtain ⟨⟨hP, hok, hG⟩, hVS, hsz⟩ := id Hh
      obtain ⟨hg, hadr⟩ := shp_at Hh hsh
      obtain ⟨r0, hfs⟩ := hfs
      rw [fget_eq] at hfs
      have hadr2 : x_c X (.inr r) = .ref (xb X + r) := by simp [x_c, x_addr, hr5]
      show W _ _ _ _ _ _ _ _ _ _ _ _ _ _ _ (F0 m pc ls (x_c X (.inr r) :: x_c X (.inr i) :: S.map (x_c X)))
      rw [hadr, hadr2]
      refine va_putF (D := xD X) (cl := vwCl) (ci := c') (v := .ref (xb X + r)) (ty := ty) (C := C) (T := T) (N := N) (fs := x_fv X σ i 0 fs) hx hb hts hin ty0 hty hnm' hown hK.1 hP (x_D X g.1 σ) hVS i hg hc f hk (ref := ref) ?_ ?_ (by rw [hT]) (by rw [hnm]; exact hin2) (by rw [hT]; exact hdecl) (by rw [hT]; exact hds) (hnar _).1 (hnar _).2 ?_ hd (fun H1 locs1 hP1 hD1 hS1 => ?_)
      · rw [hT]; exact hts _ hlink
      · rw [hT]; exact fun _ h => h
      · rw [x_fv_len]; exact (List.getElem?_eq_some_iff.mp hfs).1
      · have hil : i < g.1.length := (List.getElem?_eq_some_iff.mp hsh).1
        rw [x_fv_putr ⟨r0, hfs⟩, x_ws_set (G' := g.1.set i (.inl (c', fs.set f (some (some r))))) (σ' := σ) (by simp) hil (fun k hk1 hk2 => by
          unfold x_ent
          rw [List.getElem?_set_ne (Ne.symm hk2)]) (by
          unfold x_ent
          rw [List.getElem?_set_self hil]
          rfl)] at hP1
        exact hk' _ _ _ _ _ ha p l e s m args below meth c H1 locs1 ls Cc ⟨⟨hP1, hok, by simp; exact hG⟩, hS1, by simp; exact hsz⟩ hl (okt (okt hS))
    · exact ha.elim
  · exact ha.elim
theorem snd_oi {idx : Nat} (hd : decode (m_c M) pc = .ok (.invokespecial idx, 3)) (h1 : Cond.methodLink (m_y M).cls idx Lib.objectInit ∈ W0) (h2 : Cond.instanceMethod Lib.objectInit ∈ W0) (h3 : Cond.code Lib.objectInit ⟨#[0xb1]⟩ 1 none ∈ W0) (hrk : 1 ≤ m_k M) (hn : nx = pc + 3) : Snd X M pc (a_oi M nx) := by
  subst hn
  intro Q k L S g σ hk ha p l e s m args below meth c H locs ls Cc Hh hl hS
  unfold a_oi at ha
  split at ha
  · rename_i i S
    obtain ⟨h8, ha⟩ := ha
    obtain ⟨hx, hb, hr, hml, hown, hts, hlk, hK, hSt, hbz, hnm⟩ := id Cc
    refine W.objInit (g := F0 m pc ls (x_c X (.inr i) :: S.map (x_c X))) (rest := S.map (x_c X)) hx hb hown (hts _ h1) (hts _ h2) (hts _ h3) rfl (by rw [hml]; exact hl.1) rfl hd hrk ?_ ?_
    · have : 2 * (F0 m pc ls (x_c X (.inr i) :: S.map (x_c X))).monitorRoom = 0 := rfl
      rw [this, mapc_cat]
      show 0 + S.length + 12 ≤ (41 * m_k M + 4)
      omega
    · exact hk _ _ _ _ _ ha p l e s m args below meth c H locs ls Cc Hh hl (okt hS)
  · exact ha.elim
end SNDA
