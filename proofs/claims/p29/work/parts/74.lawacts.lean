/-! ===== the law's own instructions ===== -/
def scv (X : XT) (j : Int) : Int := (xs X (8 + j.toNat) : Int) - 2147483648
def a_scr (X : XT) (nx : Nat) : Act := fun L S g σ k _ => match S with
  | .inl j :: .inr q :: S => q = 100006 ∧ (0 ≤ j ∧ j < xs X 7) ∧ k nx L (.inl (scv X j) :: S) g σ
  | _ => False
def a_scl (X : XT) (nx : Nat) : Act := fun L S g σ k _ => match S with
  | .inr q :: S => q = 100006 ∧ k nx L (.inl (xs X 7) :: S) g σ
  | _ => False
def andI (x y : Int) : Int := (Int32.ofInt x &&& Int32.ofInt y).toInt
def a_and (nx : Nat) : Act := fun L S g σ k _ => match S with
  | .inl y :: .inl x :: S => k nx L (.inl (andI x y) :: S) g σ
  | _ => False
section SNDL
variable {X : XT} {M : MT} {pc nx : Nat}
theorem scv_in {U : State} {H : Heap} (h : StOK X U H) (j : Int) : InR (scv X j) := by
  have := h.2.2.2.2.2.2 j.toNat
  unfold scv
  exact ⟨by omega, by omega⟩
theorem snd_scr (hd : decode (m_c M) pc = .ok (.iaload, 1)) (hn : nx = pc + 1) : Snd X M pc (a_scr X nx) := by
  subst hn
  intro Q k L S g σ hk ha p l e s m args below meth c H locs ls Cc Hh hl hS
  unfold a_scr at ha
  split at ha
  · rename_i j q S
    obtain ⟨rfl, hj, ha⟩ := ha
    obtain ⟨hx, hb, hr, hml, hown, hts, hlk, hKU, hSt, hbz, hnm⟩ := id Cc
    have hjr : InR j := okh hS
    have h7 := hSt.2.2.2.2.2.1
    have hadr : x_c X (.inr 100006) = .ref (xs X 6) := by simp [x_c, x_addr]
    show W _ _ _ _ _ _ _ _ _ _ _ _ _ _ _ (F0 m pc ls (.int (Int32.ofInt j) :: x_c X (.inr 100006) :: S.map (x_c X)))
    rw [hadr]
    refine va_sld (L := xs X 7) hx hb hSt.2.2.2.1 (Array.getElem?_eq_some_iff.mp hSt.2.2.2.1.choose_spec.1).1 hSt.2.2.2.2.1 Hh.2.1 (i_in hjr hj.1 hj.2) hd ?_
    rw [i_nat hjr]
    exact hk _ _ _ _ _ ha p l e s m args below meth c H locs ls Cc Hh hl (okc (scv_in hSt j) (okt (okt hS)))
  · exact ha.elim
theorem snd_scl (hd : decode (m_c M) pc = .ok (.arraylength, 1)) (hn : nx = pc + 1) : Snd X M pc (a_scl X nx) := by
  subst hn
  intro Q k L S g σ hk ha p l e s m args below meth c H locs ls Cc Hh hl hS
  unfold a_scl at ha
  split at ha
  · rename_i q S
    obtain ⟨rfl, ha⟩ := ha
    obtain ⟨hx, hb, hr, hml, hown, hts, hlk, hKU, hSt, hbz, hnm⟩ := id Cc
    have h7 := hSt.2.2.2.2.2.1
    have hadr : x_c X (.inr 100006) = .ref (xs X 6) := by simp [x_c, x_addr]
    show W _ _ _ _ _ _ _ _ _ _ _ _ _ _ _ (F0 m pc ls (x_c X (.inr 100006) :: S.map (x_c X)))
    rw [hadr]
    refine va_slen (L := xs X 7) hx hb hSt.2.2.2.1 (Array.getElem?_eq_some_iff.mp hSt.2.2.2.1.choose_spec.1).1 hSt.2.2.2.2.1 Hh.2.1 hd ?_
    have eq1 : Int32.ofNat (xs X 7) = Int32.ofInt ((xs X 7 : Nat) : Int) := by
      apply Int32.toInt_inj.mp
      rw [i_to ⟨by omega, by omega⟩, Int32.toInt_ofNat_of_lt (by omega)]
    rw [eq1]
    exact hk _ _ _ _ _ ha p l e s m args below meth c H locs ls Cc Hh hl (okc (show InR _ from ⟨by omega, by omega⟩) (okt hS))
  · exact ha.elim
theorem snd_and (hd : decode (m_c M) pc = .ok (.iand, 1)) (hn : nx = pc + 1) : Snd X M pc (a_and nx) := by
  subst hn
  intro Q k L S g σ hk ha p l e s m args below meth c H locs ls Cc Hh hl hS
  unfold a_and at ha
  split at ha
  · rename_i y x S
    have eq1 : Int32.ofInt x &&& Int32.ofInt y = Int32.ofInt (andI x y) := by
      unfold andI
      rw [Int32.ofInt_toInt]
    have hr : InR (andI x y) := ⟨by
      have := Int32.le_toInt (Int32.ofInt x &&& Int32.ofInt y)
      unfold andI
      omega, by
      have := Int32.toInt_lt (Int32.ofInt x &&& Int32.ofInt y)
      unfold andI
      omega⟩
    refine lv_iand Cc.1 Cc.2.1 hd ?_
    rw [eq1]
    exact hk _ _ _ _ _ ha p l e s m args below meth c H locs ls Cc Hh hl (okc hr (okt (okt hS)))
  · exact ha.elim
end SNDL
section SNDL2
variable {X : XT} {M : MT} {pc nx : Nat}
theorem snd_ldc {idx : Nat} {v : Int} {w : Int32} (hd : decode (m_c M) pc = .ok (.ldc idx, 2)) (hw : Cond.constant (m_y M).cls idx w ∈ W0) (hv : w = Int32.ofInt v) (hr : InR v) (hn : nx = pc + 2) : Snd X M pc (a_const v nx) := by
  subst hn hv
  intro Q k L S g σ hk ha p l e s m args below meth c H locs ls C Hh hl hS
  exact lv_ldc C.1 C.2.1 C.2.2.2.2.1 (C.2.2.2.2.2.1 _ hw) hd (hk _ _ _ _ _ ha p l e s m args below meth c H locs ls C Hh hl (okc hr hS))
def shI (x y : Int) : Int := (Int32.ofInt x >>> (Int32.ofInt y &&& 31)).toInt
def a_shr (nx : Nat) : Act := fun L S g σ k _ => match S with
  | .inl y :: .inl x :: S => k nx L (.inl (shI x y) :: S) g σ
  | _ => False
theorem snd_shr (hd : decode (m_c M) pc = .ok (.ishr, 1)) (hn : nx = pc + 1) : Snd X M pc (a_shr nx) := by
  subst hn
  intro Q k L S g σ hk ha p l e s m args below meth c H locs ls Cc Hh hl hS
  unfold a_shr at ha
  split at ha
  · rename_i y x S
    have eq1 : Int32.ofInt x >>> (Int32.ofInt y &&& 31) = Int32.ofInt (shI x y) := by
      unfold shI
      rw [Int32.ofInt_toInt]
    have hr : InR (shI x y) := ⟨by
      have := Int32.le_toInt (Int32.ofInt x >>> (Int32.ofInt y &&& 31))
      unfold shI
      omega, by
      have := Int32.toInt_lt (Int32.ofInt x >>> (Int32.ofInt y &&& 31))
      unfold shI
      omega⟩
    refine lv_ishr Cc.1 Cc.2.1 hd ?_
    rw [eq1]
    exact hk _ _ _ _ _ ha p l e s m args below meth c H locs ls Cc Hh hl (okc hr (okt (okt hS)))
  · exact ha.elim
end SNDL2
/-- what the mask leaves isn't negative -/
theorem and_b {x : Int} : 0 ≤ andI x 2147483647 ∧ andI x 2147483647 ≤ 2147483647 := by
  have e : (Int32.ofInt 2147483647).toInt = 2147483647 := by decide
  unfold andI
  constructor
  · have h : ((Int32.ofInt x &&& Int32.ofInt 2147483647).toBitVec.msb) = false := by
      rw [Int32.toBitVec_and, BitVec.msb_and]
      simp only [Bool.and_eq_false_imp]
      intro _
      decide
    rw [← Int32.toInt_toBitVec, BitVec.toInt_eq_msb_cond, h]
    simp
  · have := Int32.toInt_lt (Int32.ofInt x &&& Int32.ofInt 2147483647)
    omega
theorem shr_b {x y : Int} (k : Nat) (hk : ((Int32.ofInt y &&& 31).toBitVec.smod 32).toNat = k) (hx : 0 ≤ x ∧ x ≤ 2147483647) : 0 ≤ shI x y ∧ shI x y ≤ 2147483647 := by
  have hx' : (Int32.ofInt x).toInt = x := i_to ⟨by omega, by omega⟩
  unfold shI
  rw [pk_shr _ _ k hk, hx', Int.shiftRight_eq_div_pow]
  have h1 : x / ((2 ^ k : Nat) : Int) ≤ x := Int.ediv_le_self _ hx.1
  have h2 : 0 ≤ x / ((2 ^ k : Nat) : Int) := Int.ediv_nonneg hx.1 (Int.natCast_nonneg _)
  omega
theorem shr_k : ((Int32.ofInt 1 &&& 31).toBitVec.smod 32).toNat = 1 ∧ ((Int32.ofInt 3 &&& 31).toBitVec.smod 32).toNat = 3 ∧ ((Int32.ofInt 4 &&& 31).toBitVec.smod 32).toNat = 4 ∧ ((Int32.ofInt 5 &&& 31).toBitVec.smod 32).toNat = 5 ∧ ((Int32.ofInt 9 &&& 31).toBitVec.smod 32).toNat = 9 := by decide
