/-! ===== the law's own instructions ===== -/
def scv (X : XT) (j : Int) : Int := (xs X (8 + j.toNat) : Int) - 2147483648
def a_scr (X : XT) (nx : Nat) : Act := fun L S g σ k _ => match S with
  | .inl j :: .inr q :: S => q = 100006 ∧ (0 ≤ j ∧ j < xs X 7) ∧ k nx L (.inl (scv X j) :: S) g σ
  | _ => False
def a_scl (X : XT) (nx : Nat) : Act := fun L S g σ k _ => match S with
  | .inr q :: S => q = 100006 ∧ k nx L (.inl (xs X 7) :: S) g σ
  | _ => False
def andI (x y : Int) : Int := (Int32.ofInt x &&& Int32.ofInt y).toInt
def a_and (nx : Nat) : Act := fun L S g σ k _ => match S with
  | .inl y :: .inl x :: S => k nx L (.inl (andI x y) :: S) g σ
  | _ => False
section SNDL
variable {X : XT} {M : MT} {pc nx : Nat}
theorem scv_in {U : State} {H : Heap} (h : StOK X U H) (j : Int) : InR (scv X j) := by
  have := h.2.2.2.2.2.2 j.toNat
  unfold scv
  exact ⟨by omega, by omega⟩
theorem snd_scr (hd : decode (m_c M) pc = .ok (.iaload, 1)) (hn : nx = pc + 1) : Snd X M pc (a_scr X nx) := by
  subst hn
  intro Q k L S g σ hk ha p l e s m args below meth c H locs ls Cc Hh hl hS
  unfold a_scr at ha
  split at ha
  · rename_i j q S
    obtain ⟨rfl, hj, ha⟩ := ha
    obtain ⟨hx, hb, hr, hml, hown, hts, hlk, hKU, hSt, hbz, hnm⟩ := id Cc
    have hjr : InR j := okh hS
    have h7 := hSt.2.2.2.2.2.1
    have hadr : x_c X (.inr 100006) = .ref (xs X 6) := by simp [x_c, x_addr]
    show W _ _ _ _ _ _ _ _ _ _ _ _ _ _ _ (F0 m pc ls (.int (Int32.ofInt j) :: x_c X (.inr 100006) :: S.map (x_c X)))
    rw [hadr]
    refine va_sld (L := xs X 7) hx hb hSt.2.2.2.1 (Array.getElem?_eq_some_iff.mp hSt.2.2.2.1.choose_spec.1).1 hSt.2.2.2.2.1 Hh.2.1 (i_in hjr hj.1 hj.2) hd ?_
    rw [i_nat hjr]
    exact hk _ _ _ _ _ ha p l e s m args below meth c H locs ls Cc Hh hl (okc (scv_in hSt j) (okt (okt hS)))
  · exact ha.elim
theorem snd_scl (hd : decode (m_c M) pc = .ok (.arraylength, 1)) (hn : nx = pc + 1) : Snd X M pc (a_scl X nx) := by
  subst hn
  intro Q k L S g σ hk ha p l e s m args below meth c H locs ls Cc Hh hl hS
  unfold a_scl at ha
  split at ha
  · rename_i q S
    obtain ⟨rfl, ha⟩ := ha
    obtain ⟨hx, hb, hr, hml, hown, hts, hlk, hKU, hSt, hbz, hnm⟩ := id Cc
    have h7 := hSt.2.2.2.2.2.1
    have hadr : x_c X (.inr 100006) = .ref (xs X 6) := by simp [x_c, x_addr]
    show W _ _ _ _ _ _ _ _ _ _ _ _ _ _ _ (F0 m pc ls (x_c X (.inr 100006) :: S.map (x_c X)))
    rw [hadr]
    refine va_slen (L := xs X 7) hx hb hSt.2.2.2.1 (Array.getElem?_eq_some_iff.mp hSt.2.2.2.1.choose_spec.1).1 hSt.2.2.2.2.1 Hh.2.1 hd ?_
    have eq1 : Int32.ofNat (xs X 7) = Int32.ofInt ((xs X 7 : Nat) : Int) := by
      apply Int32.toInt_inj.mp
      rw [i_to ⟨by omega, by omega⟩, Int32.toInt_ofNat_of_lt (by omega)]
    rw [eq1]
    exact hk _ _ _ _ _ ha p l e s m args below meth c H locs ls Cc Hh hl (okc (show InR _ from ⟨by omega, by omega⟩) (okt hS))
  · exact ha.elim
theorem snd_and (hd : decode (m_c M) pc = .ok (.iand, 1)) (hn : nx = pc + 1) : Snd X M pc (a_and nx) := by
  subst hn
  intro Q k L S g σ hk ha p l e s m args below meth c H locs ls Cc Hh hl hS
  unfold a_and at ha
  split at ha
  · rename_i y x S
    have eq1 : Int32.ofInt x &&& Int32.ofInt y = Int32.ofInt (andI x y) := by
      unfold andI
      rw [Int32.ofInt_toInt]
    have hr : InR (andI x y) := ⟨by
      have := Int32.le_toInt (Int32.ofInt x &&& Int32.ofInt y)
      unfold andI
      omega, by
      have := Int32.toInt_lt (Int32.ofInt x &&& Int32.ofInt y)
      unfold andI
      omega⟩
    refine lv_iand Cc.1 Cc.2.1 hd ?_
    rw [eq1]
    exact hk _ _ _ _ _ ha p l e s m args below meth c H locs ls Cc Hh hl (okc hr (okt (okt hS)))
  · exact ha.elim
end SNDL
