/-! ===== the acts: what an instruction does to locals, stack and store ===== -/
def a_const (v : Int) (nx : Nat) : Act := fun L S g σ k _ => k nx L (.inl v :: S) g σ
def a_iload (i nx : Nat) : Act := fun L S g σ k _ => match lget L i with
  | some (.inl x) => k nx L (.inl x :: S) g σ
  | _ => False
def a_aload (i nx : Nat) : Act := fun L S g σ k _ => match lget L i with
  | some (.inr x) => k nx L (.inr x :: S) g σ
  | _ => False
def a_istore (i nx : Nat) : Act := fun L S g σ k _ => match S with
  | .inl x :: S => k nx (lset L i (.inl x)) S g σ
  | _ => False
def a_astore (i nx : Nat) : Act := fun L S g σ k _ => match S with
  | .inr x :: S => k nx (lset L i (.inr x)) S g σ
  | _ => False
def a_iinc (i : Nat) (n : Int) (nx : Nat) : Act := fun L S g σ k _ => match lget L i with
  | some (.inl x) => InR (x + n) ∧ k nx (lset L i (.inl (x + n))) S g σ
  | _ => False
def a_add (nx : Nat) : Act := fun L S g σ k _ => match S with
  | .inl y :: .inl x :: S => InR (x + y) ∧ k nx L (.inl (x + y) :: S) g σ
  | _ => False
def a_sub (nx : Nat) : Act := fun L S g σ k _ => match S with
  | .inl y :: .inl x :: S => InR (x - y) ∧ k nx L (.inl (x - y) :: S) g σ
  | _ => False
def a_mul (nx : Nat) : Act := fun L S g σ k _ => match S with
  | .inl y :: .inl x :: S => InR (x * y) ∧ k nx L (.inl (x * y) :: S) g σ
  | _ => False
def a_div (nx : Nat) : Act := fun L S g σ k _ => match S with
  | .inl y :: .inl x :: S => 0 ≤ x ∧ 0 < y ∧ k nx L (.inl (x / y) :: S) g σ
  | _ => False
def a_rem (nx : Nat) : Act := fun L S g σ k _ => match S with
  | .inl y :: .inl x :: S => 0 ≤ x ∧ 0 < y ∧ k nx L (.inl (x % y) :: S) g σ
  | _ => False
def a_dup (nx : Nat) : Act := fun L S g σ k _ => match S with
  | x :: S => k nx L (x :: x :: S) g σ
  | _ => False
def a_dup2 (nx : Nat) : Act := fun L S g σ k _ => match S with
  | x :: y :: S => k nx L (x :: y :: x :: y :: S) g σ
  | _ => False
def a_goto (nx : Nat) : Act := fun L S g σ k _ => k nx L S g σ
/-- comparisons: 0 eq, 1 ne, 2 lt, 3 ge, 4 gt, 5 le -/
def cmp (c : Nat) (x y : Int) : Prop := match c with
  | 0 => x = y
  | 1 => x ≠ y
  | 2 => x < y
  | 3 => y ≤ x
  | 4 => y < x
  | _ => x ≤ y
def a_icmp (c tg nx : Nat) : Act := fun L S g σ k _ => match S with
  | .inl y :: .inl x :: S => (cmp c x y → k tg L S g σ) ∧ (¬ cmp c x y → k nx L S g σ)
  | _ => False
def a_if (c tg nx : Nat) : Act := fun L S g σ k _ => match S with
  | .inl x :: S => (cmp c x 0 → k tg L S g σ) ∧ (¬ cmp c x 0 → k nx L S g σ)
  | _ => False
def a_ifnull (nx : Nat) : Act := fun L S g σ k _ => match S with
  | .inr _ :: S => k nx L S g σ
  | _ => False
def swl (x : Int) : List Nat → Int → (Nat → Prop) → Prop
  | [], _, _ => True
  | t :: ts, j, k => (x = j → k t) ∧ swl x ts (j + 1) k
def a_tsw (lo hi : Int) (ts : List Nat) (df : Nat) : Act := fun L S g σ k _ => match S with
  | .inl x :: S => swl x ts lo (fun t => k t L S g σ) ∧ ((x < lo ∨ hi < x) → k df L S g σ)
  | _ => False
def a_gi (ci f : Nat) (z : Int) (nx : Nat) : Act := fun L S g σ k _ => match S with
  | .inr i :: S => (match shp g i with
    | some (.inl (c, fs)) => c = ci ∧ fget fs f = some none ∧ k nx L (.inl (σ i z) :: S) g σ
    | _ => False)
  | _ => False
def a_gr (ci f : Nat) (nx : Nat) : Act := fun L S g σ k _ => match S with
  | .inr i :: S => (match shp g i with
    | some (.inl (c, fs)) => c = ci ∧ (match fget fs f with
      | some (some (some j)) => j < 100000 ∧ k nx L (.inr j :: S) g σ
      | _ => False)
    | _ => False)
  | _ => False
def a_pi (ci f : Nat) (z : Int) (bo : Bool) (nx : Nat) : Act := fun L S g σ k _ => match S with
  | .inl v :: .inr i :: S => (match shp g i with
    | some (.inl (c, fs)) => c = ci ∧ fget fs f = some none ∧ (bo = true → v = 0 ∨ v = 1) ∧ k nx L S g (up σ i z v)
    | _ => False)
  | _ => False
def a_ald (bo : Bool) (nx : Nat) : Act := fun L S g σ k _ => match S with
  | .inl j :: .inr a :: S => (match shp g a with
    | some (.inr (.inl (b, n))) => b = bo ∧ 0 ≤ j ∧ j < n ∧ k nx L (.inl (σ a j) :: S) g σ
    | _ => False)
  | _ => False
def a_sld (nx : Nat) : Act := fun L S g σ k _ => match S with
  | .inl j :: .inr a :: S => 100000 ≤ a ∧ a - 100000 < 6 ∧ 0 ≤ j ∧ j < st_n (a - 100000) ∧ k nx L (.inl (st_v (a - 100000) j) :: S) g σ
  | _ => False
def a_ast (bo : Bool) (nx : Nat) : Act := fun L S g σ k _ => match S with
  | .inl v :: .inl j :: .inr a :: S => (match shp g a with
    | some (.inr (.inl (b, n))) => b = bo ∧ 0 ≤ j ∧ j < n ∧ (bo = true → v = 0 ∨ v = 1) ∧ k nx L S g (up σ a j v)
    | _ => False)
  | _ => False
def a_aald (nx : Nat) : Act := fun L S g σ k _ => match S with
  | .inl j :: .inr a :: S => (match shp g a with
    | some (.inr (.inr (_, l))) => 0 ≤ j ∧ j < l.length ∧ (match rget l j.toNat with
      | some r => r < 100000 ∧ k nx L (.inr r :: S) g σ
      | none => False)
    | _ => False)
  | _ => False
def a_len (nx : Nat) : Act := fun L S g σ k _ => match S with
  | .inr a :: S => (match shp g a with
    | some (.inr (.inl (_, n))) => n < 100000 ∧ k nx L (.inl n :: S) g σ
    | some (.inr (.inr (_, l))) => l.length < 100000 ∧ k nx L (.inl l.length :: S) g σ
    | _ => False)
  | _ => False
def a_gst (q nx : Nat) : Act := fun L S g σ k _ => k nx L (.inr (100000 + q) :: S) g σ
def a_copy (nx : Nat) : Act := fun L S g σ k _ => match S with
  | .inl n :: .inl dp :: .inr b :: .inl sp :: .inr a :: S => S.length ≤ 8 ∧ (match shp g a, shp g b with
    | some (.inr (.inl (ba, na))), some (.inr (.inl (bb, nb))) => ba = false ∧ bb = false ∧ 0 ≤ sp ∧ 0 ≤ dp ∧ 0 ≤ n ∧ sp + n ≤ na ∧ dp + n ≤ nb ∧ k nx L S g (cpy σ a b sp dp n)
    | _, _ => False)
  | _ => False
def fitb (M : MT) (g : GS) : Prop := g.2.1 ≤ m_mc M ∧ g.2.2 ≤ m_ms M
def a_max (M : MT) (nx : Nat) : Act := fun L S g σ k _ => match S with
  | .inl y :: .inl x :: S => S.length ≤ 8 ∧ fitb M g ∧ k nx L (.inl (max x y) :: S) g σ
  | _ => False
def a_min (M : MT) (nx : Nat) : Act := fun L S g σ k _ => match S with
  | .inl y :: .inl x :: S => S.length ≤ 8 ∧ fitb M g ∧ k nx L (.inl (min x y) :: S) g σ
  | _ => False
def a_iret (M : MT) : Act := fun _ S g σ _ Q => match S with
  | [.inl v] => fitb M g ∧ Q (some (.inl v)) g.1 σ
  | _ => False
def a_zret (M : MT) : Act := fun _ S g σ _ Q => match S with
  | [.inl v] => fitb M g ∧ (v = 0 ∨ v = 1) ∧ Q (some (.inl v)) g.1 σ
  | _ => False
def a_aret (M : MT) : Act := fun _ S g σ _ Q => match S with
  | [.inr v] => fitb M g ∧ Q (some (.inr v)) g.1 σ
  | _ => False
def a_ret (M : MT) : Act := fun _ S g σ _ Q => match S with
  | [] => fitb M g ∧ Q none g.1 σ
  | _ => False
def apop : Nat → List AV → List AV → Option (List AV × List AV)
  | 0, as, S => some (as, S)
  | n + 1, as, v :: S => apop n (v :: as) S
  | _ + 1, _, [] => none
def isO (g : GS) (ci : Nat) : List AV → Prop
  | .inr i :: _ => i < 100000 ∧ (match shp g i with
    | some (.inl (c, _)) => c = ci
    | _ => False)
  | _ => False
/-- behind a call: with an answer, without one; nothing was made -/
def Kv (k : KT) (nx : Nat) (L : LT) (S : List AV) (g : GS) (r : Option AV) (G : List Sh) (σ : Sto) : Prop := G = g.1 ∧ (match r with
  | some v => k nx L (v :: S) g σ
  | none => False)
def Kn (k : KT) (nx : Nat) (L : LT) (S : List AV) (g : GS) (r : Option AV) (G : List Sh) (σ : Sto) : Prop := G = g.1 ∧ (match r with
  | none => k nx L S g σ
  | some _ => False)
/-- a virtual call (n: the arguments with the receiver), a static one -/
def a_cv (X : XT) (M M' : MT) (ci n nx : Nat) : Act := fun L S g σ k _ => match apop n [] S with
  | some (as, S) => isO g ci as ∧ S.length ≤ 8 ∧ fitb M g ∧ MS X M' as g.1 σ (Kv k nx L S g)
  | none => False
def a_cn (X : XT) (M M' : MT) (ci n nx : Nat) : Act := fun L S g σ k _ => match apop n [] S with
  | some (as, S) => isO g ci as ∧ S.length ≤ 8 ∧ fitb M g ∧ MS X M' as g.1 σ (Kn k nx L S g)
  | none => False
def a_sv (X : XT) (M M' : MT) (n nx : Nat) : Act := fun L S g σ k _ => match apop n [] S with
  | some (as, S) => S.length ≤ 8 ∧ fitb M g ∧ MS X M' as g.1 σ (Kv k nx L S g)
  | none => False
def a_sn (X : XT) (M M' : MT) (n nx : Nat) : Act := fun L S g σ k _ => match apop n [] S with
  | some (as, S) => S.length ≤ 8 ∧ fitb M g ∧ MS X M' as g.1 σ (Kn k nx L S g)
  | none => False
/-! ===== they are so ===== -/
section SND
variable {X : XT} {M : MT} {pc nx : Nat}
theorem cat1 (X : XT) (v : AV) : (x_c X v).category = 1 := by cases v <;> rfl
theorem mapc_cat (X : XT) : ∀ (S : List AV), ((S.map (x_c X)).map fun v => v.category).sum = S.length
  | [] => rfl
  | v :: S => by
    rw [List.map_cons, List.map_cons, List.sum_cons, mapc_cat X S, cat1, List.length_cons]
    omega
theorem okc {v : AV} {S : List AV} (h : okv v) (hS : ∀ w ∈ S, okv w) : ∀ w ∈ v :: S, okv w := fun w hw => (List.mem_cons.mp hw).elim (fun e => e ▸ h) (hS w)
theorem okh {v : AV} {S : List AV} (h : ∀ w ∈ v :: S, okv w) : okv v := h v List.mem_cons_self
theorem okt {v : AV} {S : List AV} (h : ∀ w ∈ v :: S, okv w) : ∀ w ∈ S, okv w := fun w hw => h w (List.mem_cons_of_mem _ hw)
theorem snd_iconst {n v : Int} (hd : decode (m_c M) pc = .ok (.iconst n, 1)) (hv : n = v) (hr : InR v) (hn : nx = pc + 1) : Snd X M pc (a_const v nx) := by
  subst hn hv
  intro Q k L S g σ hk ha p l e s m args below meth c H locs ls C Hh hl hS
  exact lv_iconst C.1 C.2.1 hd rfl (hk _ _ _ _ _ ha p l e s m args below meth c H locs ls C Hh hl (okc hr hS))
theorem snd_bipush {n v : Int} (hd : decode (m_c M) pc = .ok (.bipush n, 2)) (hv : (Int8.ofInt n).toInt32 = Int32.ofInt v) (hr : InR v) (hn : nx = pc + 2) : Snd X M pc (a_const v nx) := by
  subst hn
  intro Q k L S g σ hk ha p l e s m args below meth c H locs ls C Hh hl hS
  exact lv_bipush C.1 C.2.1 hd hv (hk _ _ _ _ _ ha p l e s m args below meth c H locs ls C Hh hl (okc hr hS))
theorem snd_sipush {n v : Int} (hd : decode (m_c M) pc = .ok (.sipush n, 3)) (hv : (Int16.ofInt n).toInt32 = Int32.ofInt v) (hr : InR v) (hn : nx = pc + 3) : Snd X M pc (a_const v nx) := by
  subst hn
  intro Q k L S g σ hk ha p l e s m args below meth c H locs ls C Hh hl hS
  exact lv_sipush C.1 C.2.1 hd hv (hk _ _ _ _ _ ha p l e s m args below meth c H locs ls C Hh hl (okc hr hS))
theorem snd_iload_n {f : Fin 4} {i : Nat} (hd : decode (m_c M) pc = .ok (.iload_n f, 1)) (hi : (f : Nat) = i) (hn : nx = pc + 1) : Snd X M pc (a_iload i nx) := by
  subst hn
  intro Q k L S g σ hk ha p l e s m args below meth c H locs ls C Hh hl hS
  unfold a_iload at ha
  split at ha
  · rename_i x hx
    have h := hl.2.2 _ _ hx
    exact lv_iload_n C.1 C.2.1 hd hi h.1 (hk _ _ _ _ _ ha p l e s m args below meth c H locs ls C Hh hl (okc h.2 hS))
  · exact ha.elim
theorem snd_iload {i : Nat} (hd : decode (m_c M) pc = .ok (.iload i, 2)) (hn : nx = pc + 2) : Snd X M pc (a_iload i nx) := by
  subst hn
  intro Q k L S g σ hk ha p l e s m args below meth c H locs ls C Hh hl hS
  unfold a_iload at ha
  split at ha
  · rename_i x hx
    have h := hl.2.2 _ _ hx
    exact lv_iload C.1 C.2.1 hd h.1 (hk _ _ _ _ _ ha p l e s m args below meth c H locs ls C Hh hl (okc h.2 hS))
  · exact ha.elim
theorem snd_aload_n {f : Fin 4} {i : Nat} (hd : decode (m_c M) pc = .ok (.aload_n f, 1)) (hi : (f : Nat) = i) (hn : nx = pc + 1) : Snd X M pc (a_aload i nx) := by
  subst hn
  intro Q k L S g σ hk ha p l e s m args below meth c H locs ls C Hh hl hS
  unfold a_aload at ha
  split at ha
  · rename_i x hx
    have h := hl.2.2 _ _ hx
    exact lv_aload_n C.1 C.2.1 hd hi h.1 (hk _ _ _ _ _ ha p l e s m args below meth c H locs ls C Hh hl (okc h.2 hS))
  · exact ha.elim
theorem snd_aload {i : Nat} (hd : decode (m_c M) pc = .ok (.aload i, 2)) (hn : nx = pc + 2) : Snd X M pc (a_aload i nx) := by
  subst hn
  intro Q k L S g σ hk ha p l e s m args below meth c H locs ls C Hh hl hS
  unfold a_aload at ha
  split at ha
  · rename_i x hx
    have h := hl.2.2 _ _ hx
    exact lv_aload C.1 C.2.1 hd h.1 (hk _ _ _ _ _ ha p l e s m args below meth c H locs ls C Hh hl (okc h.2 hS))
  · exact ha.elim
/-- the listed locals -/
def lvl (X : XT) : Nat → LT → List (Nat × Value)
  | _, [] => []
  | i, none :: l => lvl X (i + 1) l
  | i, some v :: l => (i, x_c X v) :: lvl X (i + 1) l
theorem lvl_in (X : XT) : ∀ (L : LT) (i : Nat) (q : Nat × Value), q ∈ lvl X i L → ∃ j v, q = (i + j, x_c X v) ∧ lget L j = some v
  | [], _, _, h => by simp [lvl] at h
  | none :: L, i, q, h => by
    obtain ⟨j, v, h1, h2⟩ := lvl_in X L (i + 1) q h
    exact ⟨j + 1, v, by rw [h1, show i + 1 + j = i + (j + 1) by omega], h2⟩
  | some w :: L, i, q, h => by
    rcases List.mem_cons.mp h with rfl | h
    · exact ⟨0, w, rfl, rfl⟩
    · obtain ⟨j, v, h1, h2⟩ := lvl_in X L (i + 1) q h
      exact ⟨j + 1, v, by rw [h1, show i + 1 + j = i + (j + 1) by omega], h2⟩
theorem lvl_of (X : XT) : ∀ (L : LT) (i j : Nat) (v : AV), lget L j = some v → (i + j, x_c X v) ∈ lvl X i L
  | [], _, _, _, h => by simp [lget] at h
  | none :: _, _, 0, _, h => by simp [lget] at h
  | some w :: L, i, 0, v, h => by
    have : w = v := by simpa [lget] using h
    subst this
    exact List.mem_cons_self
  | none :: L, i, j + 1, v, h => by
    have := lvl_of X L (i + 1) j v h
    rw [show i + (j + 1) = i + 1 + j by omega]
    exact this
  | some w :: L, i, j + 1, v, h => by
    have := lvl_of X L (i + 1) j v h
    rw [show i + (j + 1) = i + 1 + j by omega]
    exact List.mem_cons_of_mem _ this
theorem lget_lset : ∀ (L : LT) (i : Nat) (v : AV) (k : Nat) (w : AV), lget (lset L i v) k = some w → (k = i ∧ w = v) ∨ (k ≠ i ∧ lget L k = some w)
  | [], _, _, _, _, h => by simp [lset, lget] at h
  | _ :: _, 0, v, 0, w, h => by
    have : v = w := by simpa [lset, lget] using h
    exact Or.inl ⟨rfl, this.symm⟩
  | _ :: _, 0, _, k + 1, _, h => Or.inr ⟨by omega, h⟩
  | _ :: _, i + 1, _, 0, _, h => Or.inr ⟨by omega, h⟩
  | _ :: L, i + 1, v, k + 1, w, h => by
    rcases lget_lset L i v k w h with ⟨h1, h2⟩ | ⟨h1, h2⟩
    · exact Or.inl ⟨by omega, h2⟩
    · exact Or.inr ⟨by omega, h2⟩
theorem LH_has {X : XT} {ls : Array Slot} {n : Nat} {L : LT} (h : LH X ls n L) : lv_has ls n (lvl X 0 L) := by
  refine ⟨h.1, h.2.1, fun q hq => ?_⟩
  obtain ⟨j, v, rfl, hv⟩ := lvl_in X L 0 q hq
  rw [Nat.zero_add]
  exact (h.2.2 j v hv).1
theorem LH_set {X : XT} {ls ls' : Array Slot} {n i : Nat} {L : LT} {v : AV} (h : LH X ls n L) (hv : okv v) (h' : lv_has ls' n ((i, x_c X v) :: (lvl X 0 L).filter (fun q => !(q.1 == i) && !(q.1 + 1 == i && q.2.category == 2)))) : LH X ls' n (lset L i v) := by
  refine ⟨h'.1, h'.2.1, fun k w hw => ?_⟩
  rcases lget_lset L i v k w hw with ⟨rfl, rfl⟩ | ⟨hk, hw⟩
  · exact ⟨h'.2.2 _ List.mem_cons_self, hv⟩
  · refine ⟨h'.2.2 (k, x_c X w) (List.mem_cons_of_mem _ (List.mem_filter.mpr ⟨?_, ?_⟩)), (h.2.2 k w hw).2⟩
    · have := lvl_of X L 0 k w hw
      rwa [Nat.zero_add] at this
    · simp [hk, cat1]
theorem snd_istore_n {f : Fin 4} {i : Nat} (hd : decode (m_c M) pc = .ok (.istore_n f, 1)) (hi : (f : Nat) = i) (hn : nx = pc + 1) (hb : i < m_n M) : Snd X M pc (a_istore i nx) := by
  subst hn
  intro Q k L S g σ hk ha p l e s m args below meth c H locs ls C Hh hl hS
  unfold a_istore at ha
  split at ha
  · exact lv_istore_n C.1 C.2.1 hd hi (LH_has hl) hb rfl (fun ls' h' => hk _ _ _ _ _ ha p l e s m args below meth c H locs ls' C Hh (LH_set (v := .inl _) hl (okh hS) h') (okt hS))
  · exact ha.elim
theorem snd_istore {i : Nat} (hd : decode (m_c M) pc = .ok (.istore i, 2)) (hn : nx = pc + 2) (hb : i < m_n M) : Snd X M pc (a_istore i nx) := by
  subst hn
  intro Q k L S g σ hk ha p l e s m args below meth c H locs ls C Hh hl hS
  unfold a_istore at ha
  split at ha
  · exact lv_istore C.1 C.2.1 hd (LH_has hl) hb rfl (fun ls' h' => hk _ _ _ _ _ ha p l e s m args below meth c H locs ls' C Hh (LH_set (v := .inl _) hl (okh hS) h') (okt hS))
  · exact ha.elim
theorem snd_astore_n {f : Fin 4} {i : Nat} (hd : decode (m_c M) pc = .ok (.astore_n f, 1)) (hi : (f : Nat) = i) (hn : nx = pc + 1) (hb : i < m_n M) : Snd X M pc (a_astore i nx) := by
  subst hn
  intro Q k L S g σ hk ha p l e s m args below meth c H locs ls C Hh hl hS
  unfold a_astore at ha
  split at ha
  · exact lv_astore_n C.1 C.2.1 hd hi (LH_has hl) hb rfl (fun ls' h' => hk _ _ _ _ _ ha p l e s m args below meth c H locs ls' C Hh (LH_set (v := .inr _) hl (okh hS) h') (okt hS))
  · exact ha.elim
theorem snd_astore {i : Nat} (hd : decode (m_c M) pc = .ok (.astore i, 2)) (hn : nx = pc + 2) (hb : i < m_n M) : Snd X M pc (a_astore i nx) := by
  subst hn
  intro Q k L S g σ hk ha p l e s m args below meth c H locs ls C Hh hl hS
  unfold a_astore at ha
  split at ha
  · exact lv_astore C.1 C.2.1 hd (LH_has hl) hb rfl (fun ls' h' => hk _ _ _ _ _ ha p l e s m args below meth c H locs ls' C Hh (LH_set (v := .inr _) hl (okh hS) h') (okt hS))
  · exact ha.elim
theorem snd_iinc {i : Nat} {n n' : Int} (hd : decode (m_c M) pc = .ok (.iinc i n', 3)) (he : n' = n) (hn : nx = pc + 3) (hb : i < m_n M) : Snd X M pc (a_iinc i n nx) := by
  subst hn he
  intro Q k L S g σ hk ha p l e s m args below meth c H locs ls C Hh hl hS
  unfold a_iinc at ha
  split at ha
  · rename_i x hx
    obtain ⟨hr, ha⟩ := ha
    have hm := lvl_of X L 0 i _ hx
    rw [Nat.zero_add] at hm
    obtain ⟨j, hj⟩ := List.getElem?_of_mem hm
    exact lv_iinc C.1 C.2.1 hd (LH_has hl) hj (Int32.ofInt_add _ _).symm hb rfl (fun ls' h' => hk _ _ _ _ _ ha p l e s m args below meth c H locs ls' C Hh (LH_set (v := .inl _) hl hr h') hS)
  · exact ha.elim
theorem snd_add (hd : decode (m_c M) pc = .ok (.iadd, 1)) (hn : nx = pc + 1) : Snd X M pc (a_add nx) := by
  subst hn
  intro Q k L S g σ hk ha p l e s m args below meth c H locs ls C Hh hl hS
  unfold a_add at ha
  split at ha
  · obtain ⟨hr, ha⟩ := ha
    refine lv_iadd C.1 C.2.1 hd ?_
    rw [← Int32.ofInt_add]
    exact hk _ _ _ _ _ ha p l e s m args below meth c H locs ls C Hh hl (okc hr (okt (okt hS)))
  · exact ha.elim
theorem snd_sub (hd : decode (m_c M) pc = .ok (.isub, 1)) (hn : nx = pc + 1) : Snd X M pc (a_sub nx) := by
  subst hn
  intro Q k L S g σ hk ha p l e s m args below meth c H locs ls C Hh hl hS
  unfold a_sub at ha
  split at ha
  · obtain ⟨hr, ha⟩ := ha
    refine lv_isub C.1 C.2.1 hd ?_
    rw [← Int32.ofInt_sub]
    exact hk _ _ _ _ _ ha p l e s m args below meth c H locs ls C Hh hl (okc hr (okt (okt hS)))
  · exact ha.elim
theorem snd_mul (hd : decode (m_c M) pc = .ok (.imul, 1)) (hn : nx = pc + 1) : Snd X M pc (a_mul nx) := by
  subst hn
  intro Q k L S g σ hk ha p l e s m args below meth c H locs ls C Hh hl hS
  unfold a_mul at ha
  split at ha
  · obtain ⟨hr, ha⟩ := ha
    refine lv_imul C.1 C.2.1 hd ?_
    rw [← Int32.ofInt_mul]
    exact hk _ _ _ _ _ ha p l e s m args below meth c H locs ls C Hh hl (okc hr (okt (okt hS)))
  · exact ha.elim
theorem i_div {x y : Int} (hx : InR x) (hy : InR y) (h0 : 0 ≤ x) (h1 : 0 < y) : Int32.ofInt x / Int32.ofInt y = Int32.ofInt (x / y) ∧ InR (x / y) := by
  have hq : x / y ≤ x := Int.ediv_le_self y h0
  have hq0 : 0 ≤ x / y := Int.ediv_nonneg h0 (by omega)
  have hr : InR (x / y) := ⟨by omega, by have := hx.2; omega⟩
  refine ⟨?_, hr⟩
  apply Int32.toInt_inj.mp
  rw [Int32.toInt_div_of_ne_right _ _ (fun h => by have h2 := congrArg Int32.toInt h; rw [i_to hy, show (-1 : Int32).toInt = -1 from rfl] at h2; omega), i_to hx, i_to hy, i_to hr, Int.tdiv_eq_ediv_of_nonneg h0]
theorem snd_div (hd : decode (m_c M) pc = .ok (.idiv, 1)) (hn : nx = pc + 1) : Snd X M pc (a_div nx) := by
  subst hn
  intro Q k L S g σ hk ha p l e s m args below meth c H locs ls C Hh hl hS
  unfold a_div at ha
  split at ha
  · rename_i y x S
    obtain ⟨h0, h1, ha⟩ := ha
    have hy : InR y := okh hS
    have hx : InR x := okh (okt hS)
    obtain ⟨he, hr⟩ := i_div hx hy h0 h1
    refine lv_idiv C.1 C.2.1 hd (by rw [i_eq0 hy]; omega) ?_
    rw [he]
    exact hk _ _ _ _ _ ha p l e s m args below meth c H locs ls C Hh hl (okc hr (okt (okt hS)))
  · exact ha.elim
theorem snd_rem (hd : decode (m_c M) pc = .ok (.irem, 1)) (hn : nx = pc + 1) : Snd X M pc (a_rem nx) := by
  subst hn
  intro Q k L S g σ hk ha p l e s m args below meth c H locs ls C Hh hl hS
  unfold a_rem at ha
  split at ha
  · rename_i y x S
    obtain ⟨h0, h1, ha⟩ := ha
    have hy : InR y := okh hS
    have hx : InR x := okh (okt hS)
    obtain ⟨he, hr⟩ := i_div hx hy h0 h1
    have hm0 : 0 ≤ x % y := Int.emod_nonneg x (by omega)
    have hm1 : x % y < y := Int.emod_lt_of_pos x h1
    have hrr : InR (x % y) := ⟨by omega, by have := hy.2; omega⟩
    refine lv_irem C.1 C.2.1 hd (by rw [i_eq0 hy]; omega) ?_
    rw [he, ← Int32.ofInt_mul, ← Int32.ofInt_sub, show x - x / y * y = x % y by have := Int.emod_add_mul_ediv x y; rw [Int.mul_comm] at this; omega]
    exact hk _ _ _ _ _ ha p l e s m args below meth c H locs ls C Hh hl (okc hrr (okt (okt hS)))
  · exact ha.elim
theorem snd_dup (hd : decode (m_c M) pc = .ok (.dup, 1)) (hn : nx = pc + 1) : Snd X M pc (a_dup nx) := by
  subst hn
  intro Q k L S g σ hk ha p l e s m args below meth c H locs ls C Hh hl hS
  unfold a_dup at ha
  split at ha
  · exact lv_dup C.1 C.2.1 hd (cat1 X _) (hk _ _ _ _ _ ha p l e s m args below meth c H locs ls C Hh hl (okc (okh hS) hS))
  · exact ha.elim
theorem snd_dup2 (hd : decode (m_c M) pc = .ok (.dup2, 1)) (hn : nx = pc + 1) : Snd X M pc (a_dup2 nx) := by
  subst hn
  intro Q k L S g σ hk ha p l e s m args below meth c H locs ls C Hh hl hS
  unfold a_dup2 at ha
  split at ha
  · exact lv_dup2_11 C.1 C.2.1 hd (cat1 X _) (cat1 X _) (hk _ _ _ _ _ ha p l e s m args below meth c H locs ls C Hh hl (okc (okh hS) (okc (okh (okt hS)) hS)))
  · exact ha.elim
theorem snd_goto {off : Int} (hd : decode (m_c M) pc = .ok (.goto off, 3)) (hn : (pc : Int) + off = (nx : Int)) : Snd X M pc (a_goto nx) := by
  intro Q k L S g σ hk ha p l e s m args below meth c H locs ls C Hh hl hS
  exact lv_goto C.1 C.2.1 hd hn (hk _ _ _ _ _ ha p l e s m args below meth c H locs ls C Hh hl hS)
theorem snd_icmp_eq {off : Int} {tg : Nat} (hd : decode (m_c M) pc = .ok (.if_icmp .eq off, 3)) (ht : (pc : Int) + off = (tg : Int)) (hn : nx = pc + 3) : Snd X M pc (a_icmp 0 tg nx) := by
  subst hn
  intro Q k L S g σ hk ha p l e s m args below meth c H locs ls C Hh hl hS
  unfold a_icmp at ha
  split at ha
  · rename_i y x S
    have hy : InR y := okh hS
    have hx : InR x := okh (okt hS)
    exact lv_icmp_eq C.1 C.2.1 hd ht (fun q => hk _ _ _ _ _ (ha.1 ((i_eq hx hy).mp q)) p l e s m args below meth c H locs ls C Hh hl (okt (okt hS))) (fun q => hk _ _ _ _ _ (ha.2 (fun z => q ((i_eq hx hy).mpr z))) p l e s m args below meth c H locs ls C Hh hl (okt (okt hS)))
  · exact ha.elim
theorem snd_if_eq {off : Int} {tg : Nat} (hd : decode (m_c M) pc = .ok (.ifCond .eq off, 3)) (ht : (pc : Int) + off = (tg : Int)) (hn : nx = pc + 3) : Snd X M pc (a_if 0 tg nx) := by
  subst hn
  intro Q k L S g σ hk ha p l e s m args below meth c H locs ls C Hh hl hS
  unfold a_if at ha
  split at ha
  · rename_i x S
    have hx : InR x := okh hS
    exact lv_if_eq C.1 C.2.1 hd ht (fun q => hk _ _ _ _ _ (ha.1 ((i_eq0 hx).mp q)) p l e s m args below meth c H locs ls C Hh hl (okt hS)) (fun q => hk _ _ _ _ _ (ha.2 (fun z => q ((i_eq0 hx).mpr z))) p l e s m args below meth c H locs ls C Hh hl (okt hS))
  · exact ha.elim
theorem snd_icmp_ne {off : Int} {tg : Nat} (hd : decode (m_c M) pc = .ok (.if_icmp .ne off, 3)) (ht : (pc : Int) + off = (tg : Int)) (hn : nx = pc + 3) : Snd X M pc (a_icmp 1 tg nx) := by
  subst hn
  intro Q k L S g σ hk ha p l e s m args below meth c H locs ls C Hh hl hS
  unfold a_icmp at ha
  split at ha
  · rename_i y x S
    have hy : InR y := okh hS
    have hx : InR x := okh (okt hS)
    exact lv_icmp_ne C.1 C.2.1 hd ht (fun q => hk _ _ _ _ _ (ha.1 (fun z => q ((i_eq hx hy).mpr z))) p l e s m args below meth c H locs ls C Hh hl (okt (okt hS))) (fun q => hk _ _ _ _ _ (ha.2 (fun z => z ((i_eq hx hy).mp q))) p l e s m args below meth c H locs ls C Hh hl (okt (okt hS)))
  · exact ha.elim
theorem snd_if_ne {off : Int} {tg : Nat} (hd : decode (m_c M) pc = .ok (.ifCond .ne off, 3)) (ht : (pc : Int) + off = (tg : Int)) (hn : nx = pc + 3) : Snd X M pc (a_if 1 tg nx) := by
  subst hn
  intro Q k L S g σ hk ha p l e s m args below meth c H locs ls C Hh hl hS
  unfold a_if at ha
  split at ha
  · rename_i x S
    have hx : InR x := okh hS
    exact lv_if_ne C.1 C.2.1 hd ht (fun q => hk _ _ _ _ _ (ha.1 (fun z => q ((i_eq0 hx).mpr z))) p l e s m args below meth c H locs ls C Hh hl (okt hS)) (fun q => hk _ _ _ _ _ (ha.2 (fun z => z ((i_eq0 hx).mp q))) p l e s m args below meth c H locs ls C Hh hl (okt hS))
  · exact ha.elim
theorem snd_icmp_lt {off : Int} {tg : Nat} (hd : decode (m_c M) pc = .ok (.if_icmp .lt off, 3)) (ht : (pc : Int) + off = (tg : Int)) (hn : nx = pc + 3) : Snd X M pc (a_icmp 2 tg nx) := by
  subst hn
  intro Q k L S g σ hk ha p l e s m args below meth c H locs ls C Hh hl hS
  unfold a_icmp at ha
  split at ha
  · rename_i y x S
    have hy : InR y := okh hS
    have hx : InR x := okh (okt hS)
    exact lv_icmp_lt C.1 C.2.1 hd ht (fun q => hk _ _ _ _ _ (ha.1 ((i_lt hx hy).mp q)) p l e s m args below meth c H locs ls C Hh hl (okt (okt hS))) (fun q => hk _ _ _ _ _ (ha.2 (fun z => q ((i_lt hx hy).mpr z))) p l e s m args below meth c H locs ls C Hh hl (okt (okt hS)))
  · exact ha.elim
theorem snd_if_lt {off : Int} {tg : Nat} (hd : decode (m_c M) pc = .ok (.ifCond .lt off, 3)) (ht : (pc : Int) + off = (tg : Int)) (hn : nx = pc + 3) : Snd X M pc (a_if 2 tg nx) := by
  subst hn
  intro Q k L S g σ hk ha p l e s m args below meth c H locs ls C Hh hl hS
  unfold a_if at ha
  split at ha
  · rename_i x S
    have hx : InR x := okh hS
    exact lv_if_lt C.1 C.2.1 hd ht (fun q => hk _ _ _ _ _ (ha.1 ((i_lt0 hx).mp q)) p l e s m args below meth c H locs ls C Hh hl (okt hS)) (fun q => hk _ _ _ _ _ (ha.2 (fun z => q ((i_lt0 hx).mpr z))) p l e s m args below meth c H locs ls C Hh hl (okt hS))
  · exact ha.elim
theorem snd_icmp_ge {off : Int} {tg : Nat} (hd : decode (m_c M) pc = .ok (.if_icmp .ge off, 3)) (ht : (pc : Int) + off = (tg : Int)) (hn : nx = pc + 3) : Snd X M pc (a_icmp 3 tg nx) := by
  subst hn
  intro Q k L S g σ hk ha p l e s m args below meth c H locs ls C Hh hl hS
  unfold a_icmp at ha
  split at ha
  · rename_i y x S
    have hy : InR y := okh hS
    have hx : InR x := okh (okt hS)
    exact lv_icmp_ge C.1 C.2.1 hd ht (fun q => hk _ _ _ _ _ (ha.1 ((i_le hy hx).mp q)) p l e s m args below meth c H locs ls C Hh hl (okt (okt hS))) (fun q => hk _ _ _ _ _ (ha.2 (fun z => q ((i_le hy hx).mpr z))) p l e s m args below meth c H locs ls C Hh hl (okt (okt hS)))
  · exact ha.elim
theorem snd_if_ge {off : Int} {tg : Nat} (hd : decode (m_c M) pc = .ok (.ifCond .ge off, 3)) (ht : (pc : Int) + off = (tg : Int)) (hn : nx = pc + 3) : Snd X M pc (a_if 3 tg nx) := by
  subst hn
  intro Q k L S g σ hk ha p l e s m args below meth c H locs ls C Hh hl hS
  unfold a_if at ha
  split at ha
  · rename_i x S
    have hx : InR x := okh hS
    exact lv_if_ge C.1 C.2.1 hd ht (fun q => hk _ _ _ _ _ (ha.1 ((i_0le hx).mp q)) p l e s m args below meth c H locs ls C Hh hl (okt hS)) (fun q => hk _ _ _ _ _ (ha.2 (fun z => q ((i_0le hx).mpr z))) p l e s m args below meth c H locs ls C Hh hl (okt hS))
  · exact ha.elim
theorem snd_icmp_gt {off : Int} {tg : Nat} (hd : decode (m_c M) pc = .ok (.if_icmp .gt off, 3)) (ht : (pc : Int) + off = (tg : Int)) (hn : nx = pc + 3) : Snd X M pc (a_icmp 4 tg nx) := by
  subst hn
  intro Q k L S g σ hk ha p l e s m args below meth c H locs ls C Hh hl hS
  unfold a_icmp at ha
  split at ha
  · rename_i y x S
    have hy : InR y := okh hS
    have hx : InR x := okh (okt hS)
    exact lv_icmp_gt C.1 C.2.1 hd ht (fun q => hk _ _ _ _ _ (ha.1 ((i_lt hy hx).mp q)) p l e s m args below meth c H locs ls C Hh hl (okt (okt hS))) (fun q => hk _ _ _ _ _ (ha.2 (fun z => q ((i_lt hy hx).mpr z))) p l e s m args below meth c H locs ls C Hh hl (okt (okt hS)))
  · exact ha.elim
theorem snd_if_gt {off : Int} {tg : Nat} (hd : decode (m_c M) pc = .ok (.ifCond .gt off, 3)) (ht : (pc : Int) + off = (tg : Int)) (hn : nx = pc + 3) : Snd X M pc (a_if 4 tg nx) := by
  subst hn
  intro Q k L S g σ hk ha p l e s m args below meth c H locs ls C Hh hl hS
  unfold a_if at ha
  split at ha
  · rename_i x S
    have hx : InR x := okh hS
    exact lv_if_gt C.1 C.2.1 hd ht (fun q => hk _ _ _ _ _ (ha.1 ((i_0lt hx).mp q)) p l e s m args below meth c H locs ls C Hh hl (okt hS)) (fun q => hk _ _ _ _ _ (ha.2 (fun z => q ((i_0lt hx).mpr z))) p l e s m args below meth c H locs ls C Hh hl (okt hS))
  · exact ha.elim
theorem snd_icmp_le {off : Int} {tg : Nat} (hd : decode (m_c M) pc = .ok (.if_icmp .le off, 3)) (ht : (pc : Int) + off = (tg : Int)) (hn : nx = pc + 3) : Snd X M pc (a_icmp 5 tg nx) := by
  subst hn
  intro Q k L S g σ hk ha p l e s m args below meth c H locs ls C Hh hl hS
  unfold a_icmp at ha
  split at ha
  · rename_i y x S
    have hy : InR y := okh hS
    have hx : InR x := okh (okt hS)
    exact lv_icmp_le C.1 C.2.1 hd ht (fun q => hk _ _ _ _ _ (ha.1 ((i_le hx hy).mp q)) p l e s m args below meth c H locs ls C Hh hl (okt (okt hS))) (fun q => hk _ _ _ _ _ (ha.2 (fun z => q ((i_le hx hy).mpr z))) p l e s m args below meth c H locs ls C Hh hl (okt (okt hS)))
  · exact ha.elim
theorem snd_if_le {off : Int} {tg : Nat} (hd : decode (m_c M) pc = .ok (.ifCond .le off, 3)) (ht : (pc : Int) + off = (tg : Int)) (hn : nx = pc + 3) : Snd X M pc (a_if 5 tg nx) := by
  subst hn
  intro Q k L S g σ hk ha p l e s m args below meth c H locs ls C Hh hl hS
  unfold a_if at ha
  split at ha
  · rename_i x S
    have hx : InR x := okh hS
    exact lv_if_le C.1 C.2.1 hd ht (fun q => hk _ _ _ _ _ (ha.1 ((i_le0 hx).mp q)) p l e s m args below meth c H locs ls C Hh hl (okt hS)) (fun q => hk _ _ _ _ _ (ha.2 (fun z => q ((i_le0 hx).mpr z))) p l e s m args below meth c H locs ls C Hh hl (okt hS))
  · exact ha.elim
theorem snd_ifnull {off : Int} (hd : decode (m_c M) pc = .ok (.ifnull off, 3)) (hn : nx = pc + 3) : Snd X M pc (a_ifnull nx) := by
  subst hn
  intro Q k L S g σ hk ha p l e s m args below meth c H locs ls C Hh hl hS
  unfold a_ifnull at ha
  split at ha
  · exact lv_ifnull C.1 C.2.1 hd (hk _ _ _ _ _ ha p l e s m args below meth c H locs ls C Hh hl (okt hS))
  · exact ha.elim
theorem swl_at {x : Int} : ∀ (ts : List Nat) (j : Int) (k : Nat → Prop), swl x ts j k → ∀ (n t : Nat), ts[n]? = some t → x = j + n → k t
  | [], _, _, _, _, _, h, _ => by simp at h
  | t :: ts, j, k, h, 0, u, hu, hx => by
    have : t = u := by simpa using hu
    subst this
    exact h.1 (by simpa using hx)
  | t :: ts, j, k, h, n + 1, u, hu, hx => swl_at ts (j + 1) k h.2 n u (by simpa using hu) (by omega)
theorem snd_tsw {dflt lo hi : Int} {offs : Array Int} {len : Nat} {ts : List Nat} {df : Nat} (hd : decode (m_c M) pc = .ok (.tableswitch dflt lo hi offs, len)) (hdf : (pc : Int) + dflt = (df : Int)) (ho : offs.toList.map (fun o => (pc : Int) + o) = ts.map (fun t : Nat => (t : Int))) (hlen : (ts.length : Int) = hi - lo + 1) : Snd X M pc (a_tsw lo hi ts df) := by
  intro Q k L S g σ hk ha p l e s m args below meth c H locs ls C Hh hl hS
  unfold a_tsw at ha
  split at ha
  · rename_i x S
    have hx : InR x := okh hS
    by_cases hout : x < lo ∨ hi < x
    · exact lv_tableOut C.1 C.2.1 hd (by rw [i_to hx]; exact hout) hdf (hk _ _ _ _ _ (ha.2 hout) p l e s m args below meth c H locs ls C Hh hl (okt hS))
    · have hn : (x - lo).toNat < ts.length := by omega
      have ht : ts[(x - lo).toNat]? = some ts[(x - lo).toNat] := List.getElem?_eq_getElem hn
      have hoff : ∃ off, offs[(x - lo).toNat]? = some off ∧ (pc : Int) + off = ((ts[(x - lo).toNat] : Nat) : Int) := by
        have h1 := congrArg (fun l : List Int => l[(x - lo).toNat]?) ho
        simp only [List.getElem?_map, ht, Option.map_some, Array.getElem?_toList] at h1
        cases ho2 : offs[(x - lo).toNat]? with
        | none => rw [ho2] at h1; cases h1
        | some off => rw [ho2] at h1; exact ⟨off, rfl, by simpa using h1⟩
      obtain ⟨off, ho1, ho2⟩ := hoff
      exact lv_tableIn C.1 C.2.1 hd (by rw [i_to hx]; omega) (by rw [i_to hx]; omega) (by rw [i_to hx]; exact ho1) ho2 (hk _ _ _ _ _ (swl_at ts lo _ ha.1 _ _ ht (by omega)) p l e s m args below meth c H locs ls C Hh hl (okt hS))
  · exact ha.elim
end SND
