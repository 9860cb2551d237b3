/-! ===== what is made: rows of rows, copies; constructors' calls ===== -/
def a_astq (nx : Nat) : Act := fun L S g σ k _ => match S with
  | .inr v :: .inl j :: .inr a :: S => v < 100000 ∧ (match shp g v with
    | some (.inl (c', _)) => c' = 1
    | _ => False) ∧ (match shp g a with
    | some (.inr (.inr (true, l))) => (0 ≤ j ∧ j < l.length) ∧ k nx L S (g.1.set a (.inr (.inr (true, l.set j.toNat (some v)))), g.2.1, g.2.2) σ
    | _ => False)
  | _ => False
def LnkI (M M' : MT) (idx : Nat) : Prop := Cond.instanceMethod (m_y M') ∈ W0 ∧ (m_y M').name = "<init>" ∧ (Cond.methodLink (m_y M).cls idx (m_y M') ∈ W0 ∨ ((m_y M).cls, idx, m_y M', "BilingualSetter") ∈ NM)
section SNDB
variable {X : XT} {M M' : MT} {pc nx : Nat}
theorem snd_astq (hd : decode (m_c M) pc = .ok (.aastore, 1)) (hn : nx = pc + 1) : Snd X M pc (a_astq nx) := by
  subst hn
  intro Q k L S g σ hk' ha p l e s m args below meth c H locs ls Cc Hh hl hS
  unfold a_astq at ha
  split at ha
  · rename_i v j a S
    obtain ⟨hv5, hv, ha⟩ := ha
    split at hv
    · rename_i c' fs hshv
      subst hv
      split at ha
      · rename_i ll hsh
        obtain ⟨hj, ha⟩ := ha
        obtain ⟨hx, hb, hr, hml, hown, hts, hlk, hK, hSt, hbz, hnm⟩ := id Cc
        obtain ⟨⟨hP, hok, hG⟩, hVS, hsz⟩ := id Hh
        obtain ⟨hg, hadr⟩ := shp_at Hh hsh
        obtain ⟨hgv, hadrv⟩ := shp_at Hh hshv
        have hjr : InR j := okh (okt hS)
        show W _ _ _ _ _ _ _ _ _ _ _ _ _ _ _ (F0 m pc ls (x_c X (.inr v) :: .int (Int32.ofInt j) :: x_c X (.inr a) :: S.map (x_c X)))
        rw [hadr, hadrv]
        refine va_astq (D := xD X) (cl := vwCl) (tys := x_tys X) (ws := x_ws X g.1 σ) (A := x_A X) (H0 := s.heap) hx hb hK.1 hP (x_D X g.1 σ) hVS a 2 v 1 (r := (RX1, TX1, 5)) (f := fun j => ((ll[j]?).join).map (fun k => xb X + k)) hg rfl hgv rfl (i_in hjr hj.1 hj.2) hd (fun H1 locs1 hP1 hD1 hS1 => ?_)
        have hil : a < g.1.length := (List.getElem?_eq_some_iff.mp hsh).1
        rw [x_ws_set (G' := g.1.set a (.inr (.inr (true, ll.set j.toNat (some v))))) (σ' := σ) (by simp) hil (fun k hk1 hk2 => by
          unfold x_ent
          rw [List.getElem?_set_ne (Ne.symm hk2)]) (by
          unfold x_ent
          rw [List.getElem?_set_self hil]
          simp only [x_entS, if_true, List.length_set]
          congr 7
          funext q
          rw [i_nat hjr]
          unfold va_up
          by_cases c : q = j.toNat
          · subst c
            rw [if_pos rfl, List.getElem?_set_self (by omega)]
            rfl
          · rw [if_neg c, List.getElem?_set_ne (Ne.symm c)])] at hP1
        exact hk' _ _ _ _ _ ha p l e s m args below meth c H1 locs1 ls Cc ⟨⟨hP1, hok, by simp; exact hG⟩, hS1, by simp; exact hsz⟩ hl (okt (okt (okt hS)))
      · exact ha.elim
    · exact hv.elim
  · exact ha.elim
theorem runI {idx ci : Nat} {g : GS} {σ : Sto} {p : Program} {l : Launch} {e : Env} {s : State} {m : MethodId} {args : Array Value} {below : List Frame} {meth : Method} {c : Code} {H : Heap} {locs : List Loc} {ls : Array Slot} {i : Nat} {S : List AV} {Q0 : QT}
    (hd : decode (m_c M) pc = .ok (.invokespecial idx, 3)) (hM : MOK M') (hr : m_r M' = none) (hL : LnkI M M' idx) (hpn : (parseMethodDescriptor (m_y M').desc).map (fun d => d.parameters.length) = some 0) (hrk : m_k M' < m_k M)
    (C : Cx X M p s m args meth c) (Hh : Hp X g σ s H locs) (hz : H.size ≤ s.heap.size + g.2.1) (hls : ls.size = m_n M) (hS0 : ∀ v ∈ (.inr i :: S : List AV), okv v) (hO : isO g ci [.inr i]) (h8 : S.length ≤ 8) (hfit : g.2.1 + m_mc M' ≤ m_mc M ∧ g.2.2 + m_ms M' ≤ m_ms M)
    (hMet : Met l (m_y M') (x_w M') (x_rm M') (va_Pc ([(.inr i : AV)].map (x_c X)) (fun U => Rp X g.1 σ U ∧ ∀ v ∈ [(.inr i : AV)], okv v)) (x_Qc X Q0) (m_mc M') (m_ms M') (x_A X)) :
    va_Run p l e (x_rm M) s m args below meth c H locs g.2.1 g.2.2 (m_mc M') (m_ms M') (F0 m pc ls ((.inr i :: S).map (x_c X))) (S.map (x_c X)) (x_Qc X Q0 ([(.inr i : AV)].map (x_c X)).toArray) (x_A X) := by
  obtain ⟨i', fs, rest, has, hg, hadr⟩ := isO_at Hh hO
  cases has
  obtain ⟨hpl, hcode, hini, hmh, hn17⟩ := hM
  have hts := C.2.2.2.2.2.1
  have hR : (x_rm M').frames + 1 ≤ (x_rm M).frames ∧ 8 + (m_n M' + 11) + (x_rm M').locals ≤ (x_rm M).locals := ⟨hrk, by show 8 + (m_n M' + 11) + (41 * m_k M' + 4) ≤ (41 * m_k M + 4); omega⟩
  have hpre : PreS s H (va_Pc ([(.inr i : AV)].map (x_c X)) (fun U => Rp X g.1 σ U ∧ ∀ v ∈ [(.inr i : AV)], okv v)) (Value.ref (xb X + i) :: []) := ⟨x_blind (g := g), fun U hU hW => ⟨by rw [List.map_cons, hadr]; rfl, x_pre C Hh hz (fun v hv => by
    rw [List.mem_singleton] at hv
    rw [hv]
    exact trivial) U hU hW⟩⟩
  have hst : (F0 m pc ls ((.inr i :: S).map (x_c X))).stack = ([] : List Value).reverse ++ .ref (xb X + i) :: S.map (x_c X) := by
    show x_c X (.inr i) :: S.map (x_c X) = _
    rw [hadr]
    rfl
  have hgoal : ([(.inr i : AV)].map (x_c X)) = Value.ref (xb X + i) :: [] := by rw [List.map_cons, hadr]; rfl
  obtain ⟨hinst, hnm, hL⟩ := hL
  rw [hgoal]
  rw [hgoal] at hMet hpre
  rcases hL with hl1 | hl
  · exact va_runI ⟨C.1, C.2.1, C.2.2.2.1, C.2.2.2.2.1, hts⟩ hMet (by
      have := cwI (R := x_rm M) (own := (m_y M).cls) (index := idx) (y := m_y M') (bytes := m_c M') (maxL := m_n M') (ws := x_w M') (ws' := W0) (rm := x_rm M') (mc := m_mc M') (ms := m_ms M') 0 hts (x_w_good hcode) (by rw [← hr]; rfl) rfl rfl (hts _ hini) (hts _ hl1) (hts _ hinst) hnm ⟨hmh.1, hmh.2, hpn⟩ hR
      exact this) hpre rfl rfl hls hst (lv_room (by rw [mapc_cat]; exact h8)) hd hfit
  · have hnw := C.2.2.2.2.2.2.2.1.2.1 _ hl
    exact va_runIN ⟨C.1, C.2.1, C.2.2.2.1, C.2.2.2.2.1, hts⟩ hMet ⟨va_cnB (ret := none) 0 hts (x_w_good hcode) (by rw [← hr]; rfl) rfl rfl hnw (hts _ hini) ⟨hmh.1, hmh.2, hpn⟩ hR, hnm, hts _ hinst⟩ hpre rfl rfl hls hst (lv_room (by rw [mapc_cat]; exact h8)) hd hfit
theorem snd_ci {idx ci : Nat} (hd : decode (m_c M) pc = .ok (.invokespecial idx, 3)) (hM : MOK M') (hr : m_r M' = none) (hL : LnkI M M' idx) (hpn : (parseMethodDescriptor (m_y M').desc).map (fun d => d.parameters.length) = some 0) (hrk : m_k M' < m_k M) (hn : nx = pc + 3) : Snd X M pc (a_ci X M M' ci nx) := by
  subst hn
  intro Q k L S0 g σ hk ha p l e s m args below meth c H locs ls C Hh hl hS0
  unfold a_ci at ha
  split at ha
  · rename_i i S
    obtain ⟨hO, h8, hfit, Q0, hQ0, hMet⟩ := ha
    refine W_size fun hz => ?_
    refine x_back (M' := M') (runI hd hM hr hL hpn hrk C Hh hz hl.1 hS0 hO h8 hfit (hMet l)) Hh.2.1 (fun r G σ' H1 locs1 hq hok hR hVS => ?_)
    obtain ⟨rfl, hG, hK⟩ := hQ0 _ _ _ hq
    exact x_go (mc := m_mc M') (ms := m_ms M') (S := S) (hk _ _ _ _ _ hK) C Hh hl (okt hS0) hR hVS hG
  · exact ha.elim
end SNDB
