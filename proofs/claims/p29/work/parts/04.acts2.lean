theorem shp_at {X : XT} {g : GS} {σ : Sto} {s : State} {H : Heap} {locs : List Loc} {i : Nat} {sh : Sh} (Hh : Hp X g σ s H locs) (h : shp g i = some sh) : (x_ws X g.1 σ)[i]? = some (xb X + i, x_entS X σ i sh) ∧ x_c X (.inr i) = .ref (xb X + i) := by
  have h' : g.1[i]? = some sh := h
  have hl := (List.getElem?_eq_some_iff.mp h').1
  have := Hh.1.2.2
  exact ⟨x_ws_get h', by simp [x_c, x_addr, show i < 100000 by omega]⟩
theorem Hp_up {X : XT} {g : GS} {σ σ' : Sto} {s : State} {H H1 : Heap} {locs locs1 : List Loc} (Hh : Hp X g σ s H locs) (hP : va_P (xD X) vwCl (x_ws X g.1 σ') H1) (hs : sok σ') (hS : va_S (x_A X) s.heap H1 locs1) : Hp X g σ' s H1 locs1 := ⟨⟨hP, hs, Hh.1.2.2⟩, hS, Hh.2.2⟩
section SND2
variable {X : XT} {M : MT} {pc nx : Nat}
theorem snd_gi {ci f idx N : Nat} {z : Int} {C ref nm ds : String} {T : u_T} {fi : Bool} (hd : decode (m_c M) pc = .ok (.getfield idx, 3)) (hc : vwCl[ci]? = some (C, T, N)) (hk : f < N) (hT : T f = (ref, nm, ds, fi)) (hlink : Cond.fieldLink (m_y M).cls idx ref nm ds ∈ W0) (hin : ∀ w ∈ u_ws C T N, w ∈ W0) (hz : z = (f : Int)) (hn : nx = pc + 3) : Snd X M pc (a_gi ci f z nx) := by
  subst hn hz
  intro Q k L S g σ hk' ha p l e s m args below meth c H locs ls Cc Hh hl hS
  unfold a_gi at ha
  split at ha
  · rename_i i S
    split at ha
    · rename_i c' fs hsh
      obtain ⟨rfl, hfs, ha⟩ := ha
      obtain ⟨hx, hb, hr, hml, hown, hts, hlk, hK, hSt, hbz, hnm⟩ := id Cc
      obtain ⟨⟨hP, hok, -⟩, hVS, hsz⟩ := id Hh
      obtain ⟨hg, hadr⟩ := shp_at Hh hsh
      rw [fget_eq] at hfs
      show W _ _ _ _ _ _ _ _ _ _ _ _ _ _ _ (F0 m pc ls (x_c X (.inr i) :: S.map (x_c X)))
      rw [hadr]
      refine va_get (D := xD X) (cl := vwCl) (ci := c') (v := .int (Int32.ofInt (σ i f))) (C := C) (T := T) (N := N) (fs := x_fv X σ i 0 fs) hx hb hts hin hown hK.1 hP i hg hc f hk (ref := ref) ?_ ?_ ?_ hd ?_
      · rw [hT]; exact hts _ hlink
      · rw [hT]; exact fun _ h => h
      · rw [x_fv_get, hfs]; simp [x_f1]
      · exact hk' _ _ _ _ _ ha p l e s m args below meth c H locs ls Cc Hh hl (okc (hok _ _) (okt hS))
    · exact ha.elim
  · exact ha.elim
theorem snd_gr {ci f idx N : Nat} {C ref nm ds : String} {T : u_T} {fi : Bool} (hd : decode (m_c M) pc = .ok (.getfield idx, 3)) (hc : vwCl[ci]? = some (C, T, N)) (hk : f < N) (hT : T f = (ref, nm, ds, fi)) (hlink : Cond.fieldLink (m_y M).cls idx ref nm ds ∈ W0) (hin : ∀ w ∈ u_ws C T N, w ∈ W0) (hn : nx = pc + 3) : Snd X M pc (a_gr ci f nx) := by
  subst hn
  intro Q k L S g σ hk' ha p l e s m args below meth c H locs ls Cc Hh hl hS
  unfold a_gr at ha
  split at ha
  · rename_i i S
    split at ha
    · rename_i c' fs hsh
      obtain ⟨rfl, ha⟩ := ha
      split at ha
      · rename_i j hfs
        obtain ⟨hj, ha⟩ := ha
        obtain ⟨hx, hb, hr, hml, hown, hts, hlk, hK, hSt, hbz, hnm⟩ := id Cc
        obtain ⟨⟨hP, hok, -⟩, hVS, hsz⟩ := id Hh
        obtain ⟨hg, hadr⟩ := shp_at Hh hsh
        rw [fget_eq] at hfs
        show W _ _ _ _ _ _ _ _ _ _ _ _ _ _ _ (F0 m pc ls (x_c X (.inr i) :: S.map (x_c X)))
        rw [hadr]
        refine va_get (D := xD X) (cl := vwCl) (ci := c') (v := x_c X (.inr j)) (C := C) (T := T) (N := N) (fs := x_fv X σ i 0 fs) hx hb hts hin hown hK.1 hP i hg hc f hk (ref := ref) ?_ ?_ ?_ hd ?_
        · rw [hT]; exact hts _ hlink
        · rw [hT]; exact fun _ h => h
        · rw [x_fv_get, hfs]; simp [x_f1, va_rf, x_c, x_addr, hj]
        · exact hk' _ _ _ _ _ ha p l e s m args below meth c H locs ls Cc Hh hl (okc trivial (okt hS))
      · exact ha.elim
    · exact ha.elim
  · exact ha.elim
theorem nar_bool {v : Int} (h : v = 0 ∨ v = 1) : narrow .boolean (.int (Int32.ofInt v)) = .int (Int32.ofInt v) ∧ fits .boolean (.int (Int32.ofInt v)) = true := by
  rcases h with rfl | rfl <;> exact ⟨by decide, by decide⟩
theorem snd_pi {ci f idx N : Nat} {z : Int} {bo : Bool} {C ref nm ds : String} {T : u_T} {ty0 : Nat → FieldType} (hd : decode (m_c M) pc = .ok (.putfield idx, 3)) (hc : vwCl[ci]? = some (C, T, N)) (hk : f < N) (hT : T f = (ref, nm, ds, false)) (hlink : Cond.fieldLink (m_y M).cls idx ref nm ds ∈ W0) (hin : ∀ w ∈ u_ws C T N, w ∈ W0)
    (hty : ∀ k, k < N → parseFieldDescriptor (T k).2.2.1 = some (ty0 k)) (hnm' : ∀ a, a < N → ∀ b, b < N → a ≠ b → (T a).2.1 ≠ (T b).2.1) (hds : parseFieldDescriptor ds = some (if bo then .boolean else .int)) (hz : z = (f : Int)) (hn : nx = pc + 3) : Snd X M pc (a_pi ci f z bo nx) := by
  subst hn hz
  intro Q k L S g σ hk' ha p l e s m args below meth c H locs ls Cc Hh hl hS
  unfold a_pi at ha
  split at ha
  · rename_i v i S
    split at ha
    · rename_i c' fs hsh
      obtain ⟨rfl, hfs, hbo, ha⟩ := ha
      obtain ⟨hx, hb, hr, hml, hown, hts, hlk, hK, hSt, hbz, hnm⟩ := id Cc
      obtain ⟨⟨hP, hok, hG⟩, hVS, hsz⟩ := id Hh
      obtain ⟨hg, hadr⟩ := shp_at Hh hsh
      rw [fget_eq] at hfs
      have hv : InR v := okh hS
      have hnf : narrow (if bo then .boolean else .int) (.int (Int32.ofInt v)) = .int (Int32.ofInt v) ∧ fits (if bo then .boolean else .int) (.int (Int32.ofInt v)) = true := by
        cases bo with
        | true => exact nar_bool (hbo rfl)
        | false => exact ⟨rfl, rfl⟩
      show W _ _ _ _ _ _ _ _ _ _ _ _ _ _ _ (F0 m pc ls (x_c X (.inl v) :: x_c X (.inr i) :: S.map (x_c X)))
      rw [hadr]
      refine va_put (D := xD X) (cl := vwCl) (ci := c') (v := .int (Int32.ofInt v)) (ty := if bo then .boolean else .int) (C := C) (T := T) (N := N) (fs := x_fv X σ i 0 fs) hx hb hts hin ty0 hty hnm' hown hK.1 hP (x_D X g.1 σ) hVS i hg hc f hk (ref := ref) ?_ ?_ (by rw [hT]) (by rw [hT]; exact hds) hnf.1 hnf.2 ?_ hd (fun H1 locs1 hP1 hD1 hS1 => ?_)
      · rw [hT]; exact hts _ hlink
      · rw [hT]; exact fun _ h => h
      · rw [x_fv_len]; exact (List.getElem?_eq_some_iff.mp hfs).1
      · rw [x_fv_put hfs] at hP1
        have hP1 := x_ws_putP (σ' := up σ i f v) hsh (fun b hb => up_other hb) rfl hP1
        exact hk' _ _ _ _ _ ha p l e s m args below meth c H1 locs1 ls Cc (Hp_up Hh hP1 (sok_up hok hv) hS1) hl (okt (okt hS))
    · exact ha.elim
  · exact ha.elim
theorem upd_eq {σ : Sto} {a : Nat} {j v : Int} (h0 : 0 ≤ j) : (fun q : Nat => Int32.ofInt (up σ a j v a q)) = upd (fun q : Nat => Int32.ofInt (σ a q)) j.toNat (Int32.ofInt v) := by
  funext q
  unfold up upd
  by_cases e : (q : Int) = j
  · rw [if_pos ⟨rfl, e⟩, if_pos (by omega)]
  · rw [if_neg (fun h => e h.2), if_neg (by omega)]
theorem tys0 (X : XT) : (x_tys X)[0]? = some (xc X 0, .int) := rfl
theorem tys1 (X : XT) : (x_tys X)[1]? = some (xc X 1, .int) := rfl
theorem snd_iald (hd : decode (m_c M) pc = .ok (.iaload, 1)) (hn : nx = pc + 1) : Snd X M pc (a_ald false nx) := by
  subst hn
  intro Q k L S g σ hk' ha p l e s m args below meth c H locs ls Cc Hh hl hS
  unfold a_ald at ha
  split at ha
  · rename_i j a S
    split at ha
    · rename_i b n hsh
      obtain ⟨rfl, h0, h1, ha⟩ := ha
      obtain ⟨hg, hadr⟩ := shp_at Hh hsh
      have hj : InR j := okh hS
      show W _ _ _ _ _ _ _ _ _ _ _ _ _ _ _ (F0 m pc ls (x_c X (.inl j) :: x_c X (.inr a) :: S.map (x_c X)))
      rw [hadr]
      refine va_iald Cc.1 Cc.2.1 Cc.2.2.2.2.2.2.2.1.1 Hh.1.1 a 0 hg (tys0 X) (i_in hj h0 h1) hd ?_
      rw [i_nat hj, show ((j.toNat : Nat) : Int) = j by omega]
      exact hk' _ _ _ _ _ ha p l e s m args below meth c H locs ls Cc Hh hl (okc (Hh.1.2.1 _ _) (okt (okt hS)))
    · exact ha.elim
  · exact ha.elim
theorem snd_sld (hd : decode (m_c M) pc = .ok (.iaload, 1)) (hn : nx = pc + 1) : Snd X M pc (a_sld nx) := by
  subst hn
  intro Q k L S g σ hk' ha p l e s m args below meth c H locs ls Cc Hh hl hS
  unfold a_sld at ha
  split at ha
  · rename_i j a S
    obtain ⟨ha1, ha2, h0, h1, ha⟩ := ha
    have hj : InR j := okh hS
    have hadr : x_c X (.inr a) = .ref (xs X (a - 100000)) := by simp [x_c, x_addr, show ¬ a < 100000 by omega]
    show W _ _ _ _ _ _ _ _ _ _ _ _ _ _ _ (F0 m pc ls (x_c X (.inl j) :: x_c X (.inr a) :: S.map (x_c X)))
    rw [hadr]
    have hT := (Cc.2.2.2.2.2.2.2.2.1.1 _ ha2).2
    refine va_ti Cc.1 Cc.2.1 hT Hh.2.1 (i_in hj h0 h1) (v := .int (Int32.ofInt (st_v (a - 100000) j))) ?_ hd ?_
    · rw [i_nat hj, show ((j.toNat : Nat) : Int) = j by omega]
    · exact hk' _ _ _ _ _ ha p l e s m args below meth c H locs ls Cc Hh hl (okc (st_in _ _) (okt (okt hS)))
  · exact ha.elim
theorem snd_iast (hd : decode (m_c M) pc = .ok (.iastore, 1)) (hn : nx = pc + 1) : Snd X M pc (a_ast false nx) := by
  subst hn
  intro Q k L S g σ hk' ha p l e s m args below meth c H locs ls Cc Hh hl hS
  unfold a_ast at ha
  split at ha
  · rename_i v j a S
    split at ha
    · rename_i b n hsh
      obtain ⟨rfl, h0, h1, -, ha⟩ := ha
      obtain ⟨hg, hadr⟩ := shp_at Hh hsh
      have hv : InR v := okh hS
      have hj : InR j := okh (okt hS)
      show W _ _ _ _ _ _ _ _ _ _ _ _ _ _ _ (F0 m pc ls (x_c X (.inl v) :: x_c X (.inl j) :: x_c X (.inr a) :: S.map (x_c X)))
      rw [hadr]
      refine va_iast Cc.1 Cc.2.1 Cc.2.2.2.2.2.2.2.1.1 Hh.1.1 (x_D X g.1 σ) Hh.2.1 a 0 hg (tys0 X) (i_in hj h0 h1) hd (fun H1 locs1 hP1 hD1 hS1 => ?_)
      rw [i_nat hj, ← upd_eq h0] at hP1
      have hP1 := x_ws_putP (σ' := up σ a j v) hsh (fun b hb => up_other hb) rfl hP1
      exact hk' _ _ _ _ _ ha p l e s m args below meth c H1 locs1 ls Cc (Hp_up Hh hP1 (sok_up Hh.1.2.1 hv) hS1) hl (okt (okt (okt hS)))
    · exact ha.elim
  · exact ha.elim
/-- what the kit says of an array of rows -/
theorem rowsA {X : XT} {s : State} (hK : va_K (xD X) vwCl (x_tys X) s) (z : Bool) : ∃ ty : FieldType, ty.isReference = true ∧ ArrOfT s (xc X (if z then 2 else 3)) ty := by
  cases z with
  | true => exact ⟨.object RX1, rfl, (hK.2 2 _ rfl).1⟩
  | false => exact ⟨.array .int, rfl, (hK.2 3 _ rfl).1⟩
theorem snd_aald (hd : decode (m_c M) pc = .ok (.aaload, 1)) (hn : nx = pc + 1) : Snd X M pc (a_aald nx) := by
  subst hn
  intro Q k L S g σ hk' ha p l e s m args below meth c H locs ls Cc Hh hl hS
  unfold a_aald at ha
  split at ha
  · rename_i j a S
    split at ha
    · rename_i z rl hsh
      obtain ⟨h0, h1, ha⟩ := ha
      split at ha
      · rename_i r hr
        obtain ⟨hrl, ha⟩ := ha
        obtain ⟨hg, hadr⟩ := shp_at Hh hsh
        have hj : InR j := okh hS
        obtain ⟨ty, hty, hA⟩ := rowsA Cc.2.2.2.2.2.2.2.1.1 z
        rw [rget_eq] at hr
        show W _ _ _ _ _ _ _ _ _ _ _ _ _ _ _ (F0 m pc ls (x_c X (.inl j) :: x_c X (.inr a) :: S.map (x_c X)))
        rw [hadr]
        have hcell : H[xb X + a]? = some (vp_cell (xc X (if z then 2 else 3)) (rl.length, .inr (.inr (.inr (.inr (fun j => ((rl[j]?).join).map (fun k => xb X + k))))))) := Hh.1.1 a _ hg
        rw [vp_cell_q] at hcell
        have hjl : j.toNat < rl.length := by omega
        refine W.aald (v := x_c X (.inr r)) Cc.1 Cc.2.1 hcell (hA _ _) hty (fun q => by cases q) (by rw [arrV_size, i_nat hj, i_lt0 hj]; omega) (by rw [i_nat hj, arrV_read _ _ hjl, hr]; simp [va_rf, x_c, x_addr, hrl]) rfl rfl hd ?_
        exact hk' _ _ _ _ _ ha p l e s m args below meth c H locs ls Cc Hh hl (okc trivial (okt (okt hS)))
      · exact ha.elim
    · exact ha.elim
  · exact ha.elim
theorem snd_len (hd : decode (m_c M) pc = .ok (.arraylength, 1)) (hn : nx = pc + 1) : Snd X M pc (a_len nx) := by
  subst hn
  intro Q k L S g σ hk' ha p l e s m args below meth c H locs ls Cc Hh hl hS
  unfold a_len at ha
  split at ha
  · rename_i a S
    split at ha
    · rename_i z n hsh
      obtain ⟨h1, ha⟩ := ha
      obtain ⟨hg, hadr⟩ := shp_at Hh hsh
      show W _ _ _ _ _ _ _ _ _ _ _ _ _ _ _ (F0 m pc ls (x_c X (.inr a) :: S.map (x_c X)))
      rw [hadr]
      have hty : ∃ (t0 : Nat) (ty : FieldType), (x_tys X)[t0]? = some (xc X (if z then 1 else 0), ty) := by
        cases z with
        | true => exact ⟨1, _, rfl⟩
        | false => exact ⟨0, _, rfl⟩
      obtain ⟨t0, ty, ht0⟩ := hty
      refine va_alen Cc.1 Cc.2.1 Cc.2.2.2.2.2.2.2.1.1 Hh.1.1 a t0 hg ht0 (v := Int32.ofInt n) Int32.ofInt_eq_ofNat.symm hd ?_
      exact hk' _ _ _ _ _ ha p l e s m args below meth c H locs ls Cc Hh hl (okc (show InR n from ⟨by omega, by omega⟩) (okt hS))
    · rename_i z rl hsh
      obtain ⟨h1, ha⟩ := ha
      obtain ⟨hg, hadr⟩ := shp_at Hh hsh
      show W _ _ _ _ _ _ _ _ _ _ _ _ _ _ _ (F0 m pc ls (x_c X (.inr a) :: S.map (x_c X)))
      rw [hadr]
      have hty : ∃ (t0 : Nat) (ty : FieldType), (x_tys X)[t0]? = some (xc X (if z then 2 else 3), ty) := by
        cases z with
        | true => exact ⟨2, _, rfl⟩
        | false => exact ⟨3, _, rfl⟩
      obtain ⟨t0, ty, ht0⟩ := hty
      refine va_alen Cc.1 Cc.2.1 Cc.2.2.2.2.2.2.2.1.1 Hh.1.1 a t0 hg ht0 (v := Int32.ofInt rl.length) Int32.ofInt_eq_ofNat.symm hd ?_
      exact hk' _ _ _ _ _ ha p l e s m args below meth c H locs ls Cc Hh hl (okc (show InR rl.length from ⟨by omega, by omega⟩) (okt hS))
    · exact ha.elim
  · exact ha.elim
theorem snd_gst {q idx : Nat} {nm : String} (hd : decode (m_c M) pc = .ok (.getstatic idx, 3)) (hq : q < 6) (hnm : st_nm q = nm) (hlink : Cond.fieldLink (m_y M).cls idx "BilingualSetter" nm "[I" ∈ W0) (hn : nx = pc + 3) : Snd X M pc (a_gst q nx) := by
  subst hn hnm
  intro Q k L S g σ hk' ha p l e s m args below meth c H locs ls Cc Hh hl hS
  have hadr : x_c X (.inr (100000 + q)) = .ref (xs X q) := by simp [x_c, x_addr, show ¬ (100000 + q < 100000) by omega]
  refine va_gets Cc.1 Cc.2.1 (Cc.2.2.2.2.2.2.2.2.1.1 q hq).1 Hh.2.1 Cc.2.2.2.2.1 (Cc.2.2.2.2.2.1 _ hlink) (fun _ h => h) hd ?_
  rw [← hadr]
  exact hk' _ _ _ _ _ ha p l e s m args below meth c H locs ls Cc Hh hl (okc trivial hS)
theorem snd_gstN {q idx : Nat} {nm : String} (hd : decode (m_c M) pc = .ok (.getstatic idx, 3)) (hq : q < 6) (hnm : st_nm q = nm) (hlink : ((m_y M).cls, idx, "BilingualSetter", nm, "[I", "BilingualSetter") ∈ NF) (hn : nx = pc + 3) : Snd X M pc (a_gst q nx) := by
  subst hn hnm
  intro Q k L S g σ hk' ha p l e s m args below meth c H locs ls Cc Hh hl hS
  have hadr : x_c X (.inr (100000 + q)) = .ref (xs X q) := by simp [x_c, x_addr, show ¬ (100000 + q < 100000) by omega]
  have hNF := Cc.2.2.2.2.2.2.2.1.2.2.1 _ hlink
  refine va_getsN Cc.1 Cc.2.1 (Cc.2.2.2.2.2.2.2.2.1.1 q hq).1 Hh.2.1 Cc.2.2.2.2.1 (va_Nw.use rfl hNF) (fun _ h => h) hd ?_
  rw [← hadr]
  exact hk' _ _ _ _ _ ha p l e s m args below meth c H locs ls Cc Hh hl (okc trivial hS)
theorem cpy_eq {σ : Sto} {a b : Nat} {sp dp n : Int} (h1 : 0 ≤ sp) (h2 : 0 ≤ dp) (h3 : 0 ≤ n) : (fun q : Nat => Int32.ofInt (cpy σ a b sp dp n b q)) = va_cpy (fun q : Nat => Int32.ofInt (σ a q)) (fun q : Nat => Int32.ofInt (σ b q)) sp.toNat dp.toNat n.toNat := by
  funext q
  unfold cpy va_cpy
  by_cases e : dp ≤ (q : Int) ∧ (q : Int) < dp + n
  · rw [if_pos ⟨rfl, e⟩, if_pos (by omega)]
    have : ((sp.toNat + (q - dp.toNat) : Nat) : Int) = sp + ((q : Int) - dp) := by omega
    show _ = Int32.ofInt (σ a ((sp.toNat + (q - dp.toNat) : Nat) : Int))
    rw [this]
  · rw [if_neg (fun h => e h.2), if_neg (by omega)]
theorem snd_copy {idx : Nat} (hd : decode (m_c M) pc = .ok (.invokestatic idx, 3)) (hl1 : Cond.methodLink (m_y M).cls idx arraycopyName ∈ W0) (hl2 : Cond.native arraycopyName ∈ W0) (hl3 : Cond.static arraycopyName ∈ W0) (hl4 : Cond.initialized "java/lang/System" ∈ W0) (hrk : 1 ≤ m_k M) (hn : nx = pc + 3) : Snd X M pc (a_copy nx) := by
  subst hn
  intro Q k L S g σ hk' ha p l e s m args below meth c H locs ls Cc Hh hl hS
  unfold a_copy at ha
  split at ha
  · rename_i n dp b sp a S
    obtain ⟨h8, ha⟩ := ha
    split at ha
    · rename_i ba na bb nb hsa hsb
      obtain ⟨rfl, rfl, h1, h2, h3, h4, h5, ha⟩ := ha
      obtain ⟨hga, hadra⟩ := shp_at Hh hsa
      obtain ⟨hgb, hadrb⟩ := shp_at Hh hsb
      have hn : InR n := okh hS
      have hdp : InR dp := okh (okt hS)
      have hsp : InR sp := okh (okt (okt (okt hS)))
      show W _ _ _ _ _ _ _ _ _ _ _ _ _ _ _ (F0 m pc ls (x_c X (.inl n) :: x_c X (.inl dp) :: x_c X (.inr b) :: x_c X (.inl sp) :: x_c X (.inr a) :: S.map (x_c X)))
      rw [hadra, hadrb]
      have hts := Cc.2.2.2.2.2.1
      refine va_copyi Cc.1 Cc.2.1 (Cc.2.2.2.1.trans hl.1.symm) Cc.2.2.2.2.1 (hts _ hl1) (hts _ hl2) (hts _ hl3) (hts _ hl4) Cc.2.2.2.2.2.2.2.1.1 Hh.1.1 (x_D X g.1 σ) Hh.2.1 a b 0 0 hga hgb (tys0 X) (tys0 X) rfl (by rw [i_lt0 hsp]; omega) (by rw [i_lt0 hdp]; omega) (by rw [i_lt0 hn]; omega) (by rw [i_nat hsp, i_nat hn]; omega) (by rw [i_nat hdp, i_nat hn]; omega) (fun _ _ => rfl) hrk ?_ hd (fun H1 locs1 hP1 hD1 hS1 => ?_)
      · rw [mapc_cat]
        have : nativeFrameWords "java/lang/System" "arraycopy" 5 = 7 := by decide +kernel
        show _ ≤ (41 * m_k M + 4)
        omega
      · rw [i_nat hsp, i_nat hdp, i_nat hn, ← cpy_eq h1 h2 h3] at hP1
        have hP1 := x_ws_putP (σ' := cpy σ a b sp dp n) hsb (fun c hc => by funext i; simp [cpy, hc]) rfl hP1
        exact hk' _ _ _ _ _ ha p l e s m args below meth c H1 locs1 ls Cc (Hp_up Hh hP1 (sok_cpy Hh.1.2.1) hS1) hl (okt (okt (okt (okt (okt hS)))))
    · exact ha.elim
  · exact ha.elim
theorem i_max {x y : Int} (hx : InR x) (hy : InR y) : (if Int32.ofInt x < Int32.ofInt y then Int32.ofInt y else Int32.ofInt x) = Int32.ofInt (max x y) := by
  by_cases h : x < y
  · rw [if_pos ((i_lt hx hy).mpr h), show max x y = y by omega]
  · rw [if_neg (fun q => h ((i_lt hx hy).mp q)), show max x y = x by omega]
theorem i_min {x y : Int} (hx : InR x) (hy : InR y) : (if Int32.ofInt y < Int32.ofInt x then Int32.ofInt y else Int32.ofInt x) = Int32.ofInt (min x y) := by
  by_cases h : y < x
  · rw [if_pos ((i_lt hy hx).mpr h), show min x y = y by omega]
  · rw [if_neg (fun q => h ((i_lt hy hx).mp q)), show min x y = x by omega]
end SND2
