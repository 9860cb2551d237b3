/-! ===== calls, answers, a method's start ===== -/
theorem W0_in {w : Cond} (h : w ∈ lw_tbl) (hg : goodWord w = true) : w ∈ W0 := List.mem_filter.mpr ⟨h, hg⟩
theorem W0_good {ws : List Cond} (h : ∀ w ∈ ws, w ∈ W0) : GoodIn W0 ws := fun w hw => ⟨h w hw, good_of_word (List.mem_filter.mp (h w hw)).2⟩
theorem x_w_good {M : MT} (h : Cond.code (m_y M) (m_c M) (m_n M) (m_r M) ∈ W0) : GoodIn W0 (x_w M) := W0_good (fun w hw => (List.mem_cons.mp hw).elim (fun e => e ▸ h) (fun q => q))
theorem W_size {p : Program} {l : Launch} {e : Env} {R : Room} {s : State} {m : MethodId} {args : Array Value} {below : List Frame} {meth : Method} {c : Code} {H : Heap} {locs : List Loc} {cells slots : Nat} {Q : State → Prop} {g : JFrame} (k : H.size ≤ s.heap.size + cells → W p l e R s m args below meth c H locs cells slots Q g) : W p l e R s m args below meth c H locs cells slots Q g :=
  fun T hT X => k (by rw [← hT]; exact X.heapSize) T hT X
theorem x_size_ge {X : XT} {g : GS} {σ : Sto} {s : State} {H : Heap} {locs : List Loc} (Hh : Hp X g σ s H locs) (hb : xb X ≤ s.heap.size) : xb X + g.1.length ≤ H.size := by
  by_cases h : g.1.length = 0
  · have := Hh.2.1.1
    omega
  · have hl : g.1.length - 1 < g.1.length := by omega
    have h1 := Hh.1.1 _ _ (x_ws_get (X := X) (σ := σ) (List.getElem?_eq_getElem hl))
    have h2 := h1.lt
    have h3 : xb X + (g.1.length - 1) < H.size := h2
    omega
/-- what a method's tables say of itself -/
def MOK (M : MT) : Prop := plainName (m_y M).cls = true ∧ Cond.code (m_y M) (m_c M) (m_n M) (m_r M) ∈ W0 ∧ Cond.initialized (m_y M).cls ∈ W0 ∧ ((m_y M).cls ≠ "java/lang/invoke/MethodHandle" ∧ (m_y M).cls ≠ "java/lang/invoke/VarHandle") ∧ m_n M ≤ 17
theorem x_back {X : XT} {M' : MT} {p : Program} {l : Launch} {e : Env} {R : Room} {s : State} {m : MethodId} {args a : Array Value} {below : List Frame} {meth : Method} {c : Code} {H : Heap} {locs : List Loc} {cells slots mc ms pc : Nat} {ls : Array Slot} {rest st0 : List Value} {Q' : QT} {Qf : State → Prop}
    (hr : va_Run p l e R s m args below meth c H locs cells slots mc ms (F0 m pc ls st0) rest (x_Qc X Q' a) (x_A X)) (hS : va_S (x_A X) s.heap H locs)
    (kk : ∀ (r : Option AV) (G : List Sh) (σ : Sto) (H1 : Heap) (locs1 : List Loc), Q' r G σ → (∀ v, r = some v → okv v) → Rh X G σ H1 → va_S (x_A X) s.heap H1 locs1 → W p l e R s m args below meth c H1 locs1 (cells + mc) (slots + ms) Qf (F0 m (pc + 3) ls ((r.map (x_c X)).toList ++ rest))) : W p l e R s m args below meth c H locs cells slots Qf (F0 m pc ls st0) := by
  intro T hT Xs
  obtain ⟨v, st₀, t, T', L, h0, X', hL, e1, e2, ⟨⟨r, G, σ, hv, hq, hok, hR⟩, hz, hk⟩, st⟩ := hr T hT Xs
  have hv : v = r.map (x_c X) := Outcome.returned.inj hv
  subst hv
  rw [h0] at hz hk
  obtain ⟨t2, a1, b1⟩ := kk r G σ T'.heap (locs ++ L) hq hok (by rw [e1]; exact hR)
    ⟨Nat.le_trans hS.1 (by rw [e1]; exact hz), fun q h1 h2 => by rw [e1, hk q (Nat.lt_of_lt_of_le h1 hS.1) h2]; exact hS.2.1 q h1 h2, fun q hq => by
      rcases List.mem_append.mp hq with h | h
      · exact hS.2.2 q h
      · exact hL q h⟩ T' rfl X'
  exact ⟨t2, st t2 a1, b1⟩
section SND3
variable {X : XT} {M M' : MT} {pc nx : Nat}
theorem apop_at : ∀ (n : Nat) (as S as' S' : List AV), apop n as S = some (as', S') → ∃ bs : List AV, as' = bs.reverse ++ as ∧ S = bs ++ S' ∧ bs.length = n
  | 0, as, S, as', S', h => by
    simp [apop] at h
    exact ⟨[], by simp [h.1], by simp [h.2], rfl⟩
  | n + 1, as, [], as', S', h => by simp [apop] at h
  | n + 1, as, v :: S, as', S', h => by
    obtain ⟨bs, h1, h2, h3⟩ := apop_at n (v :: as) S as' S' h
    exact ⟨v :: bs, by simp [h1], by simp [h2], by simp [h3]⟩
/-- the callee's start, at the caller's call -/
theorem x_pre {g : GS} {σ : Sto} {p : Program} {s : State} {m : MethodId} {args : Array Value} {meth : Method} {c : Code} {H : Heap} {locs : List Loc} {as : List AV} (C : Cx X M p s m args meth c) (Hh : Hp X g σ s H locs) (hz : H.size ≤ s.heap.size + g.2.1) (hok : ∀ v ∈ as, okv v) (U : State) (hU : U.heap = H) (hW : s.WarmedH U.vm) : Rp X g.1 σ U ∧ ∀ v ∈ as, okv v := by
  have hge := x_size_ge Hh C.2.2.2.2.2.2.2.2.2.1
  have h3 := Hh.2.2
  refine ⟨⟨KU.warm hW C.2.2.2.2.2.2.2.1, ?_, by rw [hU]; exact Hh.1, by rw [hU]; omega⟩, hok⟩
  rw [hU]
  exact (StOK.moved hW.alike C.2.2.2.2.2.2.2.2.1).kept (fun a h1 h2 => Hh.2.1.2.1 a h1 h2)
theorem x_blind {g : GS} {σ : Sto} {as : List AV} {av : List Value} : FrameBlind (va_Pc av (fun U => Rp X g.1 σ U ∧ ∀ v ∈ as, okv v)) := by
  intro a U gf mk h
  obtain ⟨h1, ⟨h2, h3, h4, h5⟩, h6⟩ := h
  exact ⟨h1, ⟨KU.same rfl h2, StOK.moved (U := U.calling gf mk a) (Vm.Alike.refl U.vm) h3, h4, h5⟩, h6⟩
theorem x_go {g : GS} {σ σ' : Sto} {G' : List Sh} {p : Program} {l : Launch} {e : Env} {s : State} {m : MethodId} {args : Array Value} {below : List Frame} {meth : Method} {c : Code} {H H1 : Heap} {locs locs1 : List Loc} {ls : Array Slot} {L : LT} {S : List AV} {pc' mc ms : Nat} {Q : QT}
    (h : WPc X M Q pc' L S (G', g.2.1 + mc, g.2.2 + ms) σ') (C : Cx X M p s m args meth c) (Hh : Hp X g σ s H locs) (hl : LH X ls (m_n M) L) (hS : ∀ v ∈ S, okv v) (hR : Rh X G' σ' H1) (hVS : va_S (x_A X) s.heap H1 locs1) (hG : G'.length = g.1.length + mc) :
    W p l e (x_rm M) s m args below meth c H1 locs1 (g.2.1 + mc) (g.2.2 + ms) (MQ below (x_Qc X Q) args s (m_mc M) (m_ms M) (x_A X)) (F0 m pc' ls (S.map (x_c X))) :=
  h p l e s m args below meth c H1 locs1 ls C ⟨hR, hVS, by show s.heap.size + (g.2.1 + mc) = xb X + G'.length; have := Hh.2.2; omega⟩ hl hS
theorem isO_at {g : GS} {σ : Sto} {ci : Nat} {as : List AV} {s : State} {H : Heap} {locs : List Loc} (Hh : Hp X g σ s H locs) (h : isO g ci as) : ∃ i fs rest, as = .inr i :: rest ∧ (x_ws X g.1 σ)[i]? = some (xb X + i, .inr (ci, fs)) ∧ x_c X (.inr i) = .ref (xb X + i) := by
  unfold isO at h
  split at h
  · rename_i i rest
    obtain ⟨-, h⟩ := h
    split at h
    · rename_i c' fs hsh
      subst h
      exact ⟨i, _, rest, rfl, (shp_at Hh hsh).1, (shp_at Hh hsh).2⟩
    · exact h.elim
  · exact h.elim
/-- a virtual call, its words by the way that it is linked: either way -/
def LnkV (M M' : MT) (idx : Nat) : Prop := (Cond.methodLink (m_y M).cls idx (m_y M') ∈ W0 ∧ Cond.instanceMethod (m_y M') ∈ W0 ∧ Cond.selects (m_y M').cls (m_y M') (m_y M') ∈ W0)
def LnkS (M M' : MT) (idx : Nat) : Prop := Cond.static (m_y M') ∈ W0 ∧ ((Cond.methodLink (m_y M).cls idx (m_y M') ∈ W0 ∧ (m_y M').cls = (m_y M).cls) ∨ ((m_y M).cls, idx, m_y M', "BilingualSetter") ∈ NM)
theorem runV {n idx ci : Nat} {g : GS} {σ : Sto} {p : Program} {l : Launch} {e : Env} {s : State} {m : MethodId} {args : Array Value} {below : List Frame} {meth : Method} {c : Code} {H : Heap} {locs : List Loc} {ls : Array Slot} {S0 as S : List AV} {Q0 : QT} {rc : vw_C}
    (hd : decode (m_c M) pc = .ok (.invokevirtual idx, 3)) (hM : MOK M') (hL : LnkV M M' idx) (hci : vwCl[ci]? = some rc) (hrc : rc.1 = (m_y M').cls) (hpn : (parseMethodDescriptor (m_y M').desc).map (fun d => d.parameters.length) = some n) (hrk : m_k M' < m_k M)
    (C : Cx X M p s m args meth c) (Hh : Hp X g σ s H locs) (hz : H.size ≤ s.heap.size + g.2.1) (hls : ls.size = m_n M) (hS0 : ∀ v ∈ S0, okv v) (hp : apop (n + 1) [] S0 = some (as, S)) (hO : isO g ci as) (h8 : S.length ≤ 8) (hfit : g.2.1 + m_mc M' ≤ m_mc M ∧ g.2.2 + m_ms M' ≤ m_ms M)
    (hMet : Met l (m_y M') (x_w M') (x_rm M') (va_Pc (as.map (x_c X)) (fun U => Rp X g.1 σ U ∧ ∀ v ∈ as, okv v)) (x_Qc X Q0) (m_mc M') (m_ms M') (x_A X)) :
    va_Run p l e (x_rm M) s m args below meth c H locs g.2.1 g.2.2 (m_mc M') (m_ms M') (F0 m pc ls (S0.map (x_c X))) (S.map (x_c X)) (x_Qc X Q0 (as.map (x_c X)).toArray) (x_A X) := by
  obtain ⟨bs, hb1, hb2, hb3⟩ := apop_at _ _ _ _ _ hp
  obtain ⟨i, fs, rest, has, hg, hadr⟩ := isO_at Hh hO
  have hokas : ∀ v ∈ as, okv v := fun v hv => hS0 v (by rw [hb2]; exact List.mem_append_left _ (by rw [hb1, List.append_nil] at hv; exact List.mem_reverse.mp hv))
  subst has
  have hbs : bs = rest.reverse ++ [.inr i] := by
    have := congrArg List.reverse hb1
    simp at this
    exact this.symm
  have hrl : rest.length = n := by
    rw [hbs] at hb3
    simp at hb3
    exact hb3
  obtain ⟨hpl, hcode, hini, hmh, hn17⟩ := hM
  have hts := C.2.2.2.2.2.1
  have hG : GoodIn W0 (wsV (m_y M).cls idx (m_y M').cls (m_y M') (x_w M')) := W0_good (fun w hw => by
    rcases List.mem_append.mp hw with h | h
    · simp only [List.mem_cons, List.not_mem_nil, or_false] at h
      rcases h with rfl | rfl | rfl | rfl
      · exact hL.1
      · exact hL.2.1
      · exact hL.2.2
      · exact hini
    · exact (x_w_good hcode w h).1)
  have cw := cwV (R := x_rm M) (own := (m_y M).cls) (index := idx) (C := (m_y M').cls) (y := m_y M') (bytes := m_c M') (maxL := m_n M') (ret := m_r M') (ws := x_w M') (ws' := W0) (rm := x_rm M') (mc := m_mc M') (ms := m_ms M') n hts hG rfl rfl rfl ⟨rfl, hmh.1, hmh.2, hpn⟩ ⟨hrk, by show 8 + (m_n M' + 11) + (41 * m_k M' + 4) ≤ (41 * m_k M + 4); omega⟩
  have hrun := va_runV (e := e) (below := below) (meth := meth) (As := rest.map (x_c X)) (rest := S.map (x_c X)) (H := H) (locs := locs) (cells := g.2.1) (slots := g.2.2) (b := xb X + i) (g := F0 m pc ls (S0.map (x_c X))) ⟨C.1, C.2.1, C.2.2.2.1, C.2.2.2.2.1, hts⟩ hMet cw ⟨x_blind (g := g), ?_, fun U hU hW => ?_⟩ rfl (by rw [List.length_map]; exact hrl) hls ?_ (lv_room (by rw [mapc_cat]; exact h8)) hd hfit
  · rw [List.map_cons, hadr]
    exact hrun
  · have := va_recv C.2.2.2.2.2.2.2.1.1 Hh.1.1 hci hg
    rw [hrc] at this
    exact this
  · have := x_pre C Hh hz hokas U hU hW
    exact ⟨by rw [List.map_cons, hadr], this⟩
  · show S0.map (x_c X) = _
    rw [hb2, hbs]
    simp [hadr]
theorem runS {n idx : Nat} {g : GS} {σ : Sto} {p : Program} {l : Launch} {e : Env} {s : State} {m : MethodId} {args : Array Value} {below : List Frame} {meth : Method} {c : Code} {H : Heap} {locs : List Loc} {ls : Array Slot} {S0 as S : List AV} {Q0 : QT}
    (hd : decode (m_c M) pc = .ok (.invokestatic idx, 3)) (hM : MOK M') (hL : LnkS M M' idx) (hpn : (parseMethodDescriptor (m_y M').desc).map (fun d => d.parameters.length) = some n) (hrk : m_k M' < m_k M)
    (C : Cx X M p s m args meth c) (Hh : Hp X g σ s H locs) (hz : H.size ≤ s.heap.size + g.2.1) (hls : ls.size = m_n M) (hS0 : ∀ v ∈ S0, okv v) (hp : apop n [] S0 = some (as, S)) (h8 : S.length ≤ 8) (hfit : g.2.1 + m_mc M' ≤ m_mc M ∧ g.2.2 + m_ms M' ≤ m_ms M)
    (hMet : Met l (m_y M') (x_w M') (x_rm M') (va_Pc (as.map (x_c X)) (fun U => Rp X g.1 σ U ∧ ∀ v ∈ as, okv v)) (x_Qc X Q0) (m_mc M') (m_ms M') (x_A X)) :
    va_Run p l e (x_rm M) s m args below meth c H locs g.2.1 g.2.2 (m_mc M') (m_ms M') (F0 m pc ls (S0.map (x_c X))) (S.map (x_c X)) (x_Qc X Q0 (as.map (x_c X)).toArray) (x_A X) := by
  obtain ⟨bs, hb1, hb2, hb3⟩ := apop_at _ _ _ _ _ hp
  rw [List.append_nil] at hb1
  have hokas : ∀ v ∈ as, okv v := fun v hv => hS0 v (by rw [hb2]; exact List.mem_append_left _ (by rw [hb1] at hv; exact List.mem_reverse.mp hv))
  obtain ⟨hpl, hcode, hini, hmh, hn17⟩ := hM
  have hts := C.2.2.2.2.2.1
  have hlen : (as.map (x_c X)).length = n := by rw [List.length_map, hb1, List.length_reverse]; exact hb3
  have hst : (F0 m pc ls (S0.map (x_c X))).stack = (as.map (x_c X)).reverse ++ S.map (x_c X) := by
    show S0.map (x_c X) = _
    rw [hb2, hb1]
    simp
  have hR : (x_rm M').frames + 1 ≤ (x_rm M).frames ∧ 8 + (m_n M' + 11) + (x_rm M').locals ≤ (x_rm M).locals := ⟨hrk, by show 8 + (m_n M' + 11) + (41 * m_k M' + 4) ≤ (41 * m_k M + 4); omega⟩
  have hpre : PreS s H (va_Pc (as.map (x_c X)) (fun U => Rp X g.1 σ U ∧ ∀ v ∈ as, okv v)) (as.map (x_c X)) := ⟨x_blind (g := g), fun U hU hW => ⟨rfl, x_pre C Hh hz hokas U hU hW⟩⟩
  obtain ⟨hstat, hL⟩ := hL
  rcases hL with ⟨hl1, hl2⟩ | hl
  · have hG : GoodIn W0 (wsS (m_y M).cls idx (m_y M') (x_w M')) := W0_good (fun w hw => by
      rcases List.mem_append.mp hw with h | h
      · simp only [List.mem_cons, List.not_mem_nil, or_false] at h
        rcases h with rfl | rfl | rfl
        · exact hl1
        · exact hstat
        · rw [← hl2]; exact hini
      · exact (x_w_good hcode w h).1)
    exact va_runS ⟨C.1, C.2.1, C.2.2.2.1, C.2.2.2.2.1, hts⟩ hMet (cwS n hts hG rfl rfl rfl ⟨hl2, hmh.1, hmh.2, hpn⟩ hR) hpre rfl hlen hls hst (lv_room (by rw [mapc_cat]; exact h8)) hd hfit
  · have hnw := C.2.2.2.2.2.2.2.1.2.1 _ hl
    exact va_runSN ⟨C.1, C.2.1, C.2.2.2.1, C.2.2.2.2.1, hts⟩ hMet ⟨va_cnB n hts (x_w_good hcode) rfl rfl rfl hnw (hts _ hini) ⟨hmh.1, hmh.2, hpn⟩ hR, hts _ hstat, trivial⟩ hpre rfl hlen hls hst (lv_room (by rw [mapc_cat]; exact h8)) hd hfit
theorem snd_cv {n idx ci : Nat} {rc : vw_C} (hd : decode (m_c M) pc = .ok (.invokevirtual idx, 3)) (hM : MOK M') (hL : LnkV M M' idx) (hci : vwCl[ci]? = some rc) (hrc : rc.1 = (m_y M').cls) (hpn : (parseMethodDescriptor (m_y M').desc).map (fun d => d.parameters.length) = some n) (hrk : m_k M' < m_k M) (h0 : m_mc M' = 0 ∧ m_ms M' = 0) (hn : nx = pc + 3) : Snd X M pc (a_cv X M M' ci (n + 1) nx) := by
  subst hn
  intro Q k L S0 g σ hk ha p l e s m args below meth c H locs ls C Hh hl hS0
  unfold a_cv at ha
  split at ha
  · rename_i as S hp
    obtain ⟨hO, h8, hfit, Q0, hQ0, hMet⟩ := ha
    refine W_size fun hz => ?_
    have hokS : ∀ v ∈ S, okv v := fun v hv => hS0 v (by obtain ⟨bs, -, hb2, -⟩ := apop_at _ _ _ _ _ hp; rw [hb2]; exact List.mem_append_right _ hv)
    refine x_back (M' := M') (runV hd hM hL hci hrc hpn hrk C Hh hz hl.1 hS0 hp hO h8 (by rw [h0.1, h0.2]; exact hfit) (hMet l)) Hh.2.1 (fun r G σ' H1 locs1 hq hok hR hVS => ?_)
    have hK := hQ0 _ _ _ hq
    unfold Kv at hK
    obtain ⟨rfl, hK⟩ := hK
    cases r with
    | none => exact hK.elim
    | some v =>
      rw [h0.1, h0.2]
      exact x_go (mc := 0) (ms := 0) (S := v :: S) (hk _ _ _ _ _ hK) C Hh hl (okc (hok v rfl) hokS) hR hVS rfl
  · exact ha.elim
theorem snd_cn {n idx ci : Nat} {rc : vw_C} (hd : decode (m_c M) pc = .ok (.invokevirtual idx, 3)) (hM : MOK M') (hL : LnkV M M' idx) (hci : vwCl[ci]? = some rc) (hrc : rc.1 = (m_y M').cls) (hpn : (parseMethodDescriptor (m_y M').desc).map (fun d => d.parameters.length) = some n) (hrk : m_k M' < m_k M) (h0 : m_mc M' = 0 ∧ m_ms M' = 0) (hn : nx = pc + 3) : Snd X M pc (a_cn X M M' ci (n + 1) nx) := by
  subst hn
  intro Q k L S0 g σ hk ha p l e s m args below meth c H locs ls C Hh hl hS0
  unfold a_cn at ha
  split at ha
  · rename_i as S hp
    obtain ⟨hO, h8, hfit, Q0, hQ0, hMet⟩ := ha
    refine W_size fun hz => ?_
    have hokS : ∀ v ∈ S, okv v := fun v hv => hS0 v (by obtain ⟨bs, -, hb2, -⟩ := apop_at _ _ _ _ _ hp; rw [hb2]; exact List.mem_append_right _ hv)
    refine x_back (M' := M') (runV hd hM hL hci hrc hpn hrk C Hh hz hl.1 hS0 hp hO h8 (by rw [h0.1, h0.2]; exact hfit) (hMet l)) Hh.2.1 (fun r G σ' H1 locs1 hq hok hR hVS => ?_)
    have hK := hQ0 _ _ _ hq
    unfold Kn at hK
    obtain ⟨rfl, hK⟩ := hK
    cases r with
    | some v => exact hK.elim
    | none =>
      rw [h0.1, h0.2]
      exact x_go (mc := 0) (ms := 0) (S := S) (hk _ _ _ _ _ hK) C Hh hl hokS hR hVS rfl
  · exact ha.elim
theorem snd_sv {n idx : Nat} (hd : decode (m_c M) pc = .ok (.invokestatic idx, 3)) (hM : MOK M') (hL : LnkS M M' idx) (hpn : (parseMethodDescriptor (m_y M').desc).map (fun d => d.parameters.length) = some n) (hrk : m_k M' < m_k M) (h0 : m_mc M' = 0 ∧ m_ms M' = 0) (hn : nx = pc + 3) : Snd X M pc (a_sv X M M' n nx) := by
  subst hn
  intro Q k L S0 g σ hk ha p l e s m args below meth c H locs ls C Hh hl hS0
  unfold a_sv at ha
  split at ha
  · rename_i as S hp
    obtain ⟨h8, hfit, Q0, hQ0, hMet⟩ := ha
    refine W_size fun hz => ?_
    have hokS : ∀ v ∈ S, okv v := fun v hv => hS0 v (by obtain ⟨bs, -, hb2, -⟩ := apop_at _ _ _ _ _ hp; rw [hb2]; exact List.mem_append_right _ hv)
    refine x_back (M' := M') (runS hd hM hL hpn hrk C Hh hz hl.1 hS0 hp h8 (by rw [h0.1, h0.2]; exact hfit) (hMet l)) Hh.2.1 (fun r G σ' H1 locs1 hq hok hR hVS => ?_)
    have hK := hQ0 _ _ _ hq
    unfold Kv at hK
    obtain ⟨rfl, hK⟩ := hK
    cases r with
    | none => exact hK.elim
    | some v =>
      rw [h0.1, h0.2]
      exact x_go (mc := 0) (ms := 0) (S := v :: S) (hk _ _ _ _ _ hK) C Hh hl (okc (hok v rfl) hokS) hR hVS rfl
  · exact ha.elim
theorem snd_sn {n idx : Nat} (hd : decode (m_c M) pc = .ok (.invokestatic idx, 3)) (hM : MOK M') (hL : LnkS M M' idx) (hpn : (parseMethodDescriptor (m_y M').desc).map (fun d => d.parameters.length) = some n) (hrk : m_k M' < m_k M) (h0 : m_mc M' = 0 ∧ m_ms M' = 0) (hn : nx = pc + 3) : Snd X M pc (a_sn X M M' n nx) := by
  subst hn
  intro Q k L S0 g σ hk ha p l e s m args below meth c H locs ls C Hh hl hS0
  unfold a_sn at ha
  split at ha
  · rename_i as S hp
    obtain ⟨h8, hfit, Q0, hQ0, hMet⟩ := ha
    refine W_size fun hz => ?_
    have hokS : ∀ v ∈ S, okv v := fun v hv => hS0 v (by obtain ⟨bs, -, hb2, -⟩ := apop_at _ _ _ _ _ hp; rw [hb2]; exact List.mem_append_right _ hv)
    refine x_back (M' := M') (runS hd hM hL hpn hrk C Hh hz hl.1 hS0 hp h8 (by rw [h0.1, h0.2]; exact hfit) (hMet l)) Hh.2.1 (fun r G σ' H1 locs1 hq hok hR hVS => ?_)
    have hK := hQ0 _ _ _ hq
    unfold Kn at hK
    obtain ⟨rfl, hK⟩ := hK
    cases r with
    | some v => exact hK.elim
    | none =>
      rw [h0.1, h0.2]
      exact x_go (mc := 0) (ms := 0) (S := S) (hk _ _ _ _ _ hK) C Hh hl hokS hR hVS rfl
  · exact ha.elim
theorem snd_max {idx : Nat} (hd : decode (m_c M) pc = .ok (.invokestatic idx, 3)) (hl1 : Cond.methodLink (m_y M).cls idx Lib.Math.max.name ∈ W0) (hl2 : Cond.static Lib.Math.max.name ∈ W0) (hl3 : Cond.initialized "java/lang/Math" ∈ W0) (hl4 : Cond.code Lib.Math.max.name Lib.Math.max.code 2 (some .int) ∈ W0) (hrk : 1 ≤ m_k M) (hn : nx = pc + 3) : Snd X M pc (a_max M nx) := by
  subst hn
  intro Q k L S g σ hk' ha p l e s m args below meth c H locs ls Cc Hh hl hS
  unfold a_max at ha
  split at ha
  · rename_i y x S
    obtain ⟨h8, hfit, ha⟩ := ha
    have hts := Cc.2.2.2.2.2.1
    refine va_mmax Cc.1 Cc.2.1 (Cc.2.2.2.1.trans hl.1.symm) Cc.2.2.2.2.1 (hts _ hl1) (hts _ hl2) (hts _ hl3) (hts _ hl4) hrk ?_ hfit.1 hfit.2 hd ?_
    · rw [mapc_cat]
      show _ ≤ (41 * m_k M + 4)
      omega
    · rw [i_max (okh (okt hS)) (okh hS)]
      refine hk' _ _ _ _ _ ha p l e s m args below meth c H locs ls Cc Hh hl (okc ?_ (okt (okt hS)))
      have h1 : InR y := okh hS
      have h2 : InR x := okh (okt hS)
      show InR (max x y)
      unfold InR at *
      omega
  · exact ha.elim
theorem snd_min {idx : Nat} (hd : decode (m_c M) pc = .ok (.invokestatic idx, 3)) (hl1 : Cond.methodLink (m_y M).cls idx Lib.Math.min.name ∈ W0) (hl2 : Cond.static Lib.Math.min.name ∈ W0) (hl3 : Cond.initialized "java/lang/Math" ∈ W0) (hl4 : Cond.code Lib.Math.min.name Lib.Math.min.code 2 (some .int) ∈ W0) (hrk : 1 ≤ m_k M) (hn : nx = pc + 3) : Snd X M pc (a_min M nx) := by
  subst hn
  intro Q k L S g σ hk' ha p l e s m args below meth c H locs ls Cc Hh hl hS
  unfold a_min at ha
  split at ha
  · rename_i y x S
    obtain ⟨h8, hfit, ha⟩ := ha
    have hts := Cc.2.2.2.2.2.1
    refine va_mmin Cc.1 Cc.2.1 (Cc.2.2.2.1.trans hl.1.symm) Cc.2.2.2.2.1 (hts _ hl1) (hts _ hl2) (hts _ hl3) (hts _ hl4) hrk ?_ hfit.1 hfit.2 hd ?_
    · rw [mapc_cat]
      show _ ≤ (41 * m_k M + 4)
      omega
    · rw [i_min (okh (okt hS)) (okh hS)]
      refine hk' _ _ _ _ _ ha p l e s m args below meth c H locs ls Cc Hh hl (okc ?_ (okt (okt hS)))
      have h1 : InR y := okh hS
      have h2 : InR x := okh (okt hS)
      show InR (min x y)
      unfold InR at *
      omega
  · exact ha.elim
theorem x_fin {g : GS} {σ : Sto} {s : State} {H : Heap} {locs : List Loc} {Q : QT} {r : Option AV} (Hh : Hp X g σ s H locs) (hQ : Q r g.1 σ) (hr : ∀ v, r = some v → okv v) (a : Array Value) (t : State) (ht : t.heap = H) : x_Qc X Q a s (.returned (r.map (x_c X))) t :=
  ⟨⟨r, g.1, σ, rfl, hQ, hr, by rw [ht]; exact Hh.1⟩, Hh.2.1.F ht⟩
theorem snd_iret (hd : decode (m_c M) pc = .ok (.ireturn, 1)) (hr : m_r M = some .int) : Snd X M pc (a_iret M) := by
  intro Q k L S g σ hk' ha p l e s m args below meth c H locs ls Cc Hh hl hS
  unfold a_iret at ha
  split at ha
  · rename_i v
    obtain ⟨hfit, hQ⟩ := ha
    refine W.widen hfit.1 hfit.2 ?_
    have hlk := Cc.2.2.2.2.2.2.1
    exact W.iret Cc.1 Cc.2.1 (Cc.2.2.1.trans hr) (fun t ht _ => x_fin Hh hQ (fun w hw => by cases hw; exact okh hS) _ t ht) Hh.2.1.2.2 hd hlk
  · exact ha.elim
theorem snd_zret (hd : decode (m_c M) pc = .ok (.ireturn, 1)) (hr : m_r M = some .boolean) : Snd X M pc (a_zret M) := by
  intro Q k L S g σ hk' ha p l e s m args below meth c H locs ls Cc Hh hl hS
  unfold a_zret at ha
  split at ha
  · rename_i v
    obtain ⟨hfit, hv, hQ⟩ := ha
    refine W.widen hfit.1 hfit.2 ?_
    have hlk := Cc.2.2.2.2.2.2.1
    exact W.zret Cc.1 Cc.2.1 (Cc.2.2.1.trans hr) (nar_bool hv).1 (fun t ht _ => x_fin Hh hQ (fun w hw => by cases hw; exact okh hS) _ t ht) Hh.2.1.2.2 hd hlk
  · exact ha.elim
theorem snd_aret {rt : FieldType} (hd : decode (m_c M) pc = .ok (.areturn, 1)) (hr : m_r M = some rt) (hrt : (∃ n, rt = .object n) ∨ ∃ t, rt = .array t) : Snd X M pc (a_aret M) := by
  intro Q k L S g σ hk' ha p l e s m args below meth c H locs ls Cc Hh hl hS
  unfold a_aret at ha
  split at ha
  · rename_i v
    obtain ⟨hfit, hQ⟩ := ha
    refine W.widen hfit.1 hfit.2 ?_
    have hlk := Cc.2.2.2.2.2.2.1
    exact W.aret Cc.1 Cc.2.1 (Cc.2.2.1.trans hr) hrt (Or.inr ⟨_, rfl⟩) (fun t ht _ => x_fin Hh hQ (fun w hw => by cases hw; exact okh hS) _ t ht) Hh.2.1.2.2 hd hlk
  · exact ha.elim
theorem snd_ret (hd : decode (m_c M) pc = .ok (.return_, 1)) (hr : m_r M = none) : Snd X M pc (a_ret M) := by
  intro Q k L S g σ hk' ha p l e s m args below meth c H locs ls Cc Hh hl hS
  unfold a_ret at ha
  split at ha
  · obtain ⟨hfit, hQ⟩ := ha
    refine W.widen hfit.1 hfit.2 ?_
    have hlk := Cc.2.2.2.2.2.2.1
    exact W.vret Cc.1 Cc.2.1 (Cc.2.2.1.trans hr) (fun t ht _ => x_fin Hh hQ (fun w hw => by cases hw) _ t ht) Hh.2.1.2.2 hd hlk
  · exact ha.elim
end SND3
/-- the locals at a method's start -/
def l0 (n : Nat) (as : List AV) : LT := as.map some ++ List.replicate (n - as.length) none
theorem lget_l0 : ∀ (as : List AV) (r : Nat) (k : Nat) (v : AV), lget (as.map some ++ List.replicate r none) k = some v → as[k]? = some v
  | [], r, k, v, h => by
    exfalso
    have : ∀ (r k : Nat), lget (List.replicate r (none : Option AV)) k = none := by
      intro r
      induction r with
      | zero => intro k; rfl
      | succ r ih => intro k; cases k with
        | zero => rfl
        | succ k => exact ih k
    simp [this] at h
  | a :: as, r, 0, v, h => by simpa [lget] using h
  | a :: as, r, k + 1, v, h => by
    have := lget_l0 as r k v h
    simpa using this
theorem lv_args1 (X : XT) : ∀ (as : List AV) (i k : Nat) (v : AV), as[k]? = some v → (i + k, x_c X v) ∈ lv_args i (as.map (x_c X))
  | [], _, _, _, h => by simp at h
  | a :: as, i, 0, v, h => by
    have : a = v := by simpa using h
    subst this
    simp [lv_args]
  | a :: as, i, k + 1, v, h => by
    have h1 := lv_args1 X as (i + 1) k v (by simpa using h)
    simp only [List.map_cons, lv_args, cat1]
    rw [show i + (k + 1) = i + 1 + k by omega]
    exact List.mem_cons_of_mem _ h1
theorem lg_sl_len (X : XT) : ∀ (as : List AV), (lg_sl (as.map (x_c X))).length = as.length
  | [] => rfl
  | a :: as => by
    have := lg_sl_len X as
    simp [lg_sl, cat1] at this ⊢
    omega
theorem MS_intro {X : XT} {M : MT} {args : List AV} {G : List Sh} {σ : Sto} {Q : QT} (hM : MOK M) (hn : args.length ≤ m_n M) (h : WPc X M Q 0 (l0 (m_n M) args) [] (G, 0, 0) σ) : MS X M args G σ Q := by
  refine ⟨Q, fun _ _ _ q => q, fun l => ?_⟩
  refine Met.ofW (cc := m_c M) (maxL := m_n M) (ret := m_r M) hM.1 rfl ?_
  intro p e s m a below meth c s₁ B hml hv
  obtain ⟨rfl, ⟨hK, hSt, hR, hz⟩, hok⟩ := hv
  have hts := atoms_spec (ws := x_w M) B.pre
  have hown : s.vm.findClass (m_y M).cls = some m.cls := findClass_of_methodNamed B.named
  have hl := lv_entry (args.map (x_c X)) (n := m_n M) (by rw [lg_sl_len]; exact hn)
  rw [lg_entry_eq]
  generalize (lg_sl (args.map (x_c X)) ++ List.replicate (m_n M - (lg_sl (args.map (x_c X))).length) Slot.unset).toArray = ls at hl ⊢
  refine h p l e s m _ below meth c s.heap [] ls ⟨B.exec, B.bytes, B.returns, hml, hown, fun w hw => hts w (List.mem_cons_of_mem _ hw), B.notSynchronized, hK, hSt, by omega, (name_of_methodNamed B.named B.method).1⟩ ⟨hR, va_S.rf, by show s.heap.size + 0 = _; rw [hz]; rfl⟩ ⟨hl.1, hl.2.1, fun k v hk => ?_⟩ (fun _ h => by cases h)
  have hkv := lget_l0 args _ k v hk
  refine ⟨hl.2.2 (k, x_c X v) ?_, hok v (List.mem_of_getElem? hkv)⟩
  have := lv_args1 X args 0 k v hkv
  rwa [Nat.zero_add] at this
