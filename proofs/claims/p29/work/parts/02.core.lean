/-! ===== the abstract layer: values, shapes, stores ===== -/
abbrev AV : Type := Sum Int Nat
abbrev LT : Type := List (Option AV)
abbrev Sto : Type := Nat → Int → Int
abbrev XF : Type := Option (Option Nat)
/-- a cell's shape: an object (its class, its fields: none a number, some a reference), a row of numbers (of booleans), a row of references (of editions, else of rows) -/
abbrev Sh : Type := Sum (Nat × List XF) (Sum (Bool × Nat) (Bool × List (Option Nat)))
/-- the run's constants: the kit's table of classes, the first own address, the classes of arrays, the addresses of the static rows -/
abbrev XT : Type := va_G × Nat × (Nat → ClassId) × (Nat → Nat)
/-- shapes, and what was made -/
abbrev GS : Type := List Sh × Nat × Nat
/-- a method: name, bytes, locals, answer, rank, cells and slots that it may make -/
abbrev MT : Type := MethodName × ByteArray × Nat × Option FieldType × Nat × Nat × Nat
abbrev QT : Type := Option AV → List Sh → Sto → Prop
abbrev KT : Type := Nat → LT → List AV → GS → Sto → Prop
abbrev Act : Type := LT → List AV → GS → Sto → KT → QT → Prop
abbrev m_y (M : MT) : MethodName := M.1
abbrev m_c (M : MT) : ByteArray := M.2.1
abbrev m_n (M : MT) : Nat := M.2.2.1
abbrev m_r (M : MT) : Option FieldType := M.2.2.2.1
abbrev m_k (M : MT) : Nat := M.2.2.2.2.1
abbrev m_mc (M : MT) : Nat := M.2.2.2.2.2.1
abbrev m_ms (M : MT) : Nat := M.2.2.2.2.2.2
abbrev xD (X : XT) : va_G := X.1
abbrev xb (X : XT) : Nat := X.2.1
abbrev xc (X : XT) : Nat → ClassId := X.2.2.1
abbrev xs (X : XT) : Nat → Nat := X.2.2.2
def InR (x : Int) : Prop := -2147483648 ≤ x ∧ x ≤ 2147483647
def up (σ : Sto) (a : Nat) (j v : Int) (b : Nat) (i : Int) : Int := if b = a ∧ i = j then v else σ b i
def cpy (σ : Sto) (a b : Nat) (sp dp n : Int) (c : Nat) (i : Int) : Int := if c = b ∧ dp ≤ i ∧ i < dp + n then σ a (sp + (i - dp)) else σ c i
def x_addr (X : XT) (i : Nat) : Nat := if i < 100000 then xb X + i else xs X (i - 100000)
def x_c (X : XT) : AV → Value
  | .inl x => .int (Int32.ofInt x)
  | .inr i => .ref (x_addr X i)
def okv : AV → Prop
  | .inl x => InR x
  | .inr _ => True
def lget : LT → Nat → Option AV
  | [], _ => none
  | v :: _, 0 => v
  | _ :: l, k + 1 => lget l k
def lset : LT → Nat → AV → LT
  | [], _, _ => []
  | _ :: l, 0, v => some v :: l
  | w :: l, k + 1, v => w :: lset l k v
def fget : List XF → Nat → Option XF
  | [], _ => none
  | v :: _, 0 => some v
  | _ :: l, k + 1 => fget l k
def rget : List (Option Nat) → Nat → Option Nat
  | [], _ => none
  | v :: _, 0 => v
  | _ :: l, k + 1 => rget l k
theorem fget_eq : ∀ (l : List XF) (k : Nat), fget l k = l[k]?
  | [], _ => by simp [fget]
  | _ :: _, 0 => by simp [fget]
  | _ :: l, k + 1 => by simp [fget, fget_eq l k]
theorem rget_eq : ∀ (l : List (Option Nat)) (k : Nat), rget l k = (l[k]?).join
  | [], _ => by simp [rget]
  | _ :: _, 0 => by simp [rget]
  | _ :: l, k + 1 => by simp [rget, rget_eq l k]
def shp (g : GS) (i : Nat) : Option Sh := g.1[i]?
/-- the static rows: 0 INITIAL, 1 LOWEST, 2 HIGHEST, 3 SEGMENT_FIRST, 4 SEGMENT_LINES, 5 SEGMENT_BEGIN -/
def st_nm : Nat → String
  | 0 => "INITIAL"
  | 1 => "LOWEST"
  | 2 => "HIGHEST"
  | 3 => "SEGMENT_FIRST"
  | 4 => "SEGMENT_LINES"
  | _ => "SEGMENT_BEGIN"
def st_n : Nat → Nat
  | 0 => 6
  | 1 => 6
  | 2 => 6
  | _ => 2
def st_v : Nat → Int → Int
  | 0, j => if j = 0 then 20 else if j = 1 then 1 else if j = 2 then 1 else if j = 3 then 2 else if j = 4 then 3 else 0
  | 1, j => if j = 0 then 8 else if j = 1 then 0 else if j = 2 then 0 else if j = 3 then 1 else if j = 4 then 0 else 0
  | 2, j => if j = 0 then 60 else if j = 1 then 3 else if j = 2 then 2 else if j = 3 then 4 else if j = 4 then 5 else 1
  | 3, j => if j = 0 then 1 else 3
  | 4, j => if j = 0 then 2 else 4
  | _, j => if j = 0 then 5 else 6
theorem st_in (k : Nat) (j : Int) : InR (st_v k j) := by
  unfold st_v InR
  split <;> (repeat' split) <;> omega
/-! ===== the heap of a store ===== -/
def x_fv (X : XT) (σ : Sto) (i : Nat) : Nat → List XF → List Value
  | _, [] => []
  | k, none :: fs => .int (Int32.ofInt (σ i k)) :: x_fv X σ i (k + 1) fs
  | k, some r :: fs => va_rf (r.map (fun j => xb X + j)) :: x_fv X σ i (k + 1) fs
def x_f1 (X : XT) (σ : Sto) (i k : Nat) : XF → Value
  | none => .int (Int32.ofInt (σ i k))
  | some r => va_rf (r.map (fun j => xb X + j))
theorem x_fv_get (X : XT) (σ : Sto) (i : Nat) : ∀ (fs : List XF) (k0 j : Nat), (x_fv X σ i k0 fs)[j]? = (fs[j]?).map (x_f1 X σ i (k0 + j))
  | [], k0, j => by simp [x_fv]
  | none :: fs, k0, 0 => by simp [x_fv, x_f1]
  | some r :: fs, k0, 0 => by simp [x_fv, x_f1]
  | none :: fs, k0, j + 1 => by
    simp only [x_fv, List.getElem?_cons_succ]
    rw [x_fv_get X σ i fs (k0 + 1) j, show k0 + 1 + j = k0 + (j + 1) by omega]
  | some r :: fs, k0, j + 1 => by
    simp only [x_fv, List.getElem?_cons_succ]
    rw [x_fv_get X σ i fs (k0 + 1) j, show k0 + 1 + j = k0 + (j + 1) by omega]
theorem x_fv_len (X : XT) (σ : Sto) (i : Nat) : ∀ (fs : List XF) (k0 : Nat), (x_fv X σ i k0 fs).length = fs.length
  | [], _ => rfl
  | none :: fs, k0 => by simp [x_fv, x_fv_len X σ i fs (k0 + 1)]
  | some _ :: fs, k0 => by simp [x_fv, x_fv_len X σ i fs (k0 + 1)]
theorem x_fv_put {X : XT} {σ : Sto} {i : Nat} {fs : List XF} {k : Nat} {v : Int} (h : fs[k]? = some none) : (x_fv X σ i 0 fs).set k (.int (Int32.ofInt v)) = x_fv X (up σ i k v) i 0 fs := by
  apply List.ext_getElem?
  intro j
  rw [List.getElem?_set, x_fv_get, x_fv_get, x_fv_len]
  simp only [Nat.zero_add]
  have hl := (List.getElem?_eq_some_iff.mp h).1
  by_cases e : k = j
  · subst e
    rw [if_pos rfl, if_pos hl, h]
    simp [x_f1, up]
  · rw [if_neg e]
    cases hj : fs[j]? with
    | none => rfl
    | some f =>
      cases f with
      | none => simp [x_f1, up, show ¬ ((j : Int) = (k : Int)) by omega]
      | some r => rfl
theorem x_fv_putr {X : XT} {σ : Sto} {i : Nat} {fs : List XF} {k r : Nat} (h : ∃ r0, fs[k]? = some (some r0)) : (x_fv X σ i 0 fs).set k (.ref (xb X + r)) = x_fv X σ i 0 (fs.set k (some (some r))) := by
  obtain ⟨r0, h⟩ := h
  apply List.ext_getElem?
  intro j
  rw [List.getElem?_set, x_fv_get, x_fv_get, x_fv_len, List.getElem?_set]
  simp only [Nat.zero_add]
  have hl := (List.getElem?_eq_some_iff.mp h).1
  by_cases e : k = j
  · subst e
    rw [if_pos rfl, if_pos hl, if_pos rfl, if_pos hl]
    simp [x_f1, va_rf]
  · rw [if_neg e, if_neg e]
def x_entS (X : XT) (σ : Sto) (i : Nat) : Sh → va_E
  | .inl (ci, fs) => .inr (ci, x_fv X σ i 0 fs)
  | .inr (.inl (z, n)) => .inl (xc X (if z then 1 else 0), n, .inl (fun j => Int32.ofInt (σ i j)))
  | .inr (.inr (z, l)) => .inl (xc X (if z then 2 else 3), l.length, .inr (.inr (.inr (.inr (fun j => ((l[j]?).join).map (fun k => xb X + k))))))
def x_ent (X : XT) (G : List Sh) (σ : Sto) (i : Nat) : va_E := match G[i]? with
  | some sh => x_entS X σ i sh
  | none => .inr (0, [])
def x_ws (X : XT) (G : List Sh) (σ : Sto) : va_W := (List.range G.length).map (fun i => (xb X + i, x_ent X G σ i))
theorem x_ws_len (X : XT) (G : List Sh) (σ : Sto) : (x_ws X G σ).length = G.length := by simp [x_ws]
theorem x_ws_get {X : XT} {G : List Sh} {σ : Sto} {i : Nat} {sh : Sh} (h : G[i]? = some sh) : (x_ws X G σ)[i]? = some (xb X + i, x_entS X σ i sh) := by
  have hl := (List.getElem?_eq_some_iff.mp h).1
  unfold x_ws
  rw [List.getElem?_map, List.getElem?_range hl]
  simp [x_ent, h]
theorem x_ws_at {X : XT} {G : List Sh} {σ : Sto} {k : Nat} {q : Nat × va_E} (h : (x_ws X G σ)[k]? = some q) : k < G.length ∧ q = (xb X + k, x_ent X G σ k) := by
  have hl := (List.getElem?_eq_some_iff.mp h).1
  rw [x_ws_len] at hl
  refine ⟨hl, ?_⟩
  unfold x_ws at h
  rw [List.getElem?_map, List.getElem?_range hl] at h
  exact (Option.some.inj h).symm
def x_A (X : XT) : Nat → Prop := fun q => xb X ≤ q
theorem x_D (X : XT) (G : List Sh) (σ : Sto) : va_D (x_A X) (x_ws X G σ) := by
  refine ⟨fun i j p q hi hj hpq => ?_, fun k q hk => ?_⟩
  · obtain ⟨-, rfl⟩ := x_ws_at hi
    obtain ⟨-, rfl⟩ := x_ws_at hj
    have : xb X + i = xb X + j := hpq
    omega
  · obtain ⟨-, rfl⟩ := x_ws_at hk
    show xb X ≤ xb X + k
    omega
theorem x_ws_set {X : XT} {G G' : List Sh} {σ σ' : Sto} {i : Nat} {e : va_E} (hl : G'.length = G.length) (hi : i < G.length) (hk : ∀ k, k < G.length → k ≠ i → x_ent X G' σ' k = x_ent X G σ k) (he : x_ent X G' σ' i = e) : (x_ws X G σ).set i (xb X + i, e) = x_ws X G' σ' := by
  apply List.ext_getElem?
  intro j
  rw [List.getElem?_set, x_ws_len]
  by_cases e1 : i = j
  · subst e1
    rw [if_pos rfl, if_pos hi]
    unfold x_ws
    rw [List.getElem?_map, List.getElem?_range (by omega)]
    simp [he]
  · rw [if_neg e1]
    unfold x_ws
    rw [List.getElem?_map, List.getElem?_map, hl]
    by_cases hj : j < G.length
    · rw [List.getElem?_range hj]
      simp [hk j hj (fun q => e1 q.symm)]
    · rw [List.getElem?_eq_none (by simp; omega)]
      rfl
theorem x_entS_up {X : XT} {σ σ' : Sto} {k : Nat} (h : σ' k = σ k) (sh : Sh) : x_entS X σ' k sh = x_entS X σ k sh := by
  have hf : ∀ (fs : List XF) (k0 : Nat), x_fv X σ' k k0 fs = x_fv X σ k k0 fs := by
    intro fs
    induction fs with
    | nil => intro _; rfl
    | cons f fs ih =>
      intro k0
      cases f with
      | none => simp [x_fv, ih, h]
      | some r => simp [x_fv, ih]
  match sh with
  | .inl (ci, fs) => simp [x_entS, hf]
  | .inr (.inl (z, n)) => simp [x_entS, h]
  | .inr (.inr (z, l)) => simp [x_entS]
theorem x_ent_up {X : XT} {G : List Sh} {σ σ' : Sto} {k : Nat} (h : σ' k = σ k) : x_ent X G σ' k = x_ent X G σ k := by
  unfold x_ent
  cases G[k]? with
  | none => rfl
  | some sh => exact x_entS_up h sh
theorem x_ent_some {X : XT} {G : List Sh} {σ : Sto} {i : Nat} {sh : Sh} (h : G[i]? = some sh) : x_ent X G σ i = x_entS X σ i sh := by simp [x_ent, h]
theorem up_other {σ : Sto} {a b : Nat} {j v : Int} (h : b ≠ a) : up σ a j v b = σ b := by
  funext i
  simp [up, h]
/-- a store changed at one object -/
theorem x_ws_put {X : XT} {G : List Sh} {σ σ' : Sto} {i : Nat} {sh : Sh} {e : va_E} (h : G[i]? = some sh) (ho : ∀ b, b ≠ i → σ' b = σ b) (he : x_entS X σ' i sh = e) : (x_ws X G σ).set i (xb X + i, e) = x_ws X G σ' :=
  x_ws_set rfl (List.getElem?_eq_some_iff.mp h).1 (fun k _ hk => x_ent_up (ho k hk)) (by rw [x_ent_some h]; exact he)
theorem x_ws_putP {X : XT} {G : List Sh} {σ σ' : Sto} {i : Nat} {sh : Sh} {e : va_E} {D : va_G} {cl : List vw_C} {H : Heap} (h : G[i]? = some sh) (ho : ∀ b, b ≠ i → σ' b = σ b) (he : x_entS X σ' i sh = e) (hP : va_P D cl ((x_ws X G σ).set i (xb X + i, e)) H) : va_P D cl (x_ws X G σ') H := by
  rw [x_ws_put h ho he] at hP
  exact hP
def sok (σ : Sto) : Prop := ∀ (a : Nat) (j : Int), InR (σ a j)
theorem sok_up {σ : Sto} {a : Nat} {j v : Int} (h : sok σ) (hv : InR v) : sok (up σ a j v) := by
  intro b i
  unfold up
  split
  · exact hv
  · exact h b i
theorem sok_cpy {σ : Sto} {a b : Nat} {sp dp n : Int} (h : sok σ) : sok (cpy σ a b sp dp n) := by
  intro c i
  unfold cpy
  split
  · exact h _ _
  · exact h c i
/-! ===== Int and Int32 ===== -/
theorem i_to {x : Int} (h : InR x) : (Int32.ofInt x).toInt = x := Int32.toInt_ofInt_of_le (by have := h.1; omega) (by have := h.2; omega)
theorem i_lt {x y : Int} (hx : InR x) (hy : InR y) : Int32.ofInt x < Int32.ofInt y ↔ x < y := by rw [Int32.lt_iff_toInt_lt, i_to hx, i_to hy]
theorem i_le {x y : Int} (hx : InR x) (hy : InR y) : Int32.ofInt x ≤ Int32.ofInt y ↔ x ≤ y := by rw [Int32.le_iff_toInt_le, i_to hx, i_to hy]
theorem i_eq {x y : Int} (hx : InR x) (hy : InR y) : Int32.ofInt x = Int32.ofInt y ↔ x = y := by rw [← Int32.toInt_inj, i_to hx, i_to hy]
theorem i_lt0 {x : Int} (hx : InR x) : Int32.ofInt x < 0 ↔ x < 0 := by
  have h := i_lt hx (y := 0) ⟨by decide, by decide⟩
  exact h
theorem i_le0 {x : Int} (hx : InR x) : Int32.ofInt x ≤ 0 ↔ x ≤ 0 := by
  have h := i_le hx (y := 0) ⟨by decide, by decide⟩
  exact h
theorem i_0le {x : Int} (hx : InR x) : 0 ≤ Int32.ofInt x ↔ 0 ≤ x := by
  have h := i_le (x := 0) (y := x) ⟨by decide, by decide⟩ hx
  exact h
theorem i_0lt {x : Int} (hx : InR x) : 0 < Int32.ofInt x ↔ 0 < x := by
  have h := i_lt (x := 0) (y := x) ⟨by decide, by decide⟩ hx
  exact h
theorem i_eq0 {x : Int} (hx : InR x) : Int32.ofInt x = 0 ↔ x = 0 := by
  have h := i_eq hx (y := 0) ⟨by decide, by decide⟩
  exact h
theorem i_nat {x : Int} (hx : InR x) : (Int32.ofInt x).toNatClampNeg = x.toNat := by rw [← Int32.toNat_toInt, i_to hx]
theorem i_in {x : Int} {n : Nat} (hx : InR x) (h0 : 0 ≤ x) (h1 : x < n) : vp_in (Int32.ofInt x) n := vp_in_iff.mpr (by rw [i_to hx]; exact ⟨h0, h1⟩)
/-! ===== the context ===== -/
def va_AOA (ty : FieldType) (U : State) : Prop := (Cond.arrayOver (.array ty)).before #[] U = true
theorem va_AOA.use {ty : FieldType} {A : Array Value} {U : State} (h : va_AOA ty U) : (Cond.arrayOver (.array ty)).before A U = true := h
theorem va_AOA.moved {ty : FieldType} {u U : State} (hvm : u.vm.Alike U.vm) (h : va_AOA ty u) : va_AOA ty U := arrayOver_alikeB hvm h
def x_tys (X : XT) : List (ClassId × FieldType) := [(xc X 0, .int), (xc X 1, .int), (xc X 2, .object RX1), (xc X 3, .array .int)]
abbrev W0 : List Cond := lw_tbl.filter goodWord
def x_rm (M : MT) : Room := { frames := m_k M, cells := m_mc M, slots := m_ms M, locals := (41 * m_k M + 4) }
def x_w (M : MT) : List Cond := .code (m_y M) (m_c M) (m_n M) (m_r M) :: W0
def NM : List (String × Nat × MethodName × String) := [("BilingualSetter", 9, ⟨"BilingualSetter$Edition", "<init>", "()V"⟩, "BilingualSetter"), ("BilingualSetter$Edition", 18, ⟨"BilingualSetter$Notes", "<init>", "()V"⟩, "BilingualSetter"), ("BilingualSetter$History", 17, ⟨"BilingualSetter$Edition", "<init>", "()V"⟩, "BilingualSetter"), ("BilingualSetter", 25, ⟨"BilingualSetter$Spreads", "<init>", "()V"⟩, "BilingualSetter"), ("BilingualSetter$Spreads", 32, ⟨"BilingualSetter$Facing", "<init>", "()V"⟩, "BilingualSetter"), ("BilingualSetter$Spreads", 42, ⟨"BilingualSetter$Part", "<init>", "()V"⟩, "BilingualSetter"), ("BilingualSetter", 32, ⟨"BilingualSetter$Division", "<init>", "()V"⟩, "BilingualSetter"), ("BilingualSetter$Division", 23, ⟨"BilingualSetter$Facing", "<init>", "()V"⟩, "BilingualSetter"), ("BilingualSetter$Division", 30, ⟨"BilingualSetter$Part", "<init>", "()V"⟩, "BilingualSetter"), ("BilingualSetter$Edition", 68, ⟨"BilingualSetter", "copyTable", "([[I[[I)V"⟩, "BilingualSetter"), ("BilingualSetter$Notes", 43, ⟨"BilingualSetter", "copyTable", "([[I[[I)V"⟩, "BilingualSetter"), ("BilingualSetter$Edition", 42, ⟨"BilingualSetter", "isIn", "(III)Z"⟩, "BilingualSetter"), ("BilingualSetter$Edition", 53, ⟨"BilingualSetter", "openPlace", "([III)V"⟩, "BilingualSetter"), ("BilingualSetter$Edition", 50, ⟨"BilingualSetter", "isSide", "(I)Z"⟩, "BilingualSetter"), ("BilingualSetter$Notes", 28, ⟨"BilingualSetter", "openPlace", "([III)V"⟩, "BilingualSetter"), ("BilingualSetter$Notes", 32, ⟨"BilingualSetter", "closePlace", "([III)V"⟩, "BilingualSetter"), ("BilingualSetter$Spreads", 174, ⟨"BilingualSetter", "isIn", "(III)Z"⟩, "BilingualSetter")]
def NF : List (String × Nat × String × String × String × String) := [("BilingualSetter$Edition", 26, "BilingualSetter", "INITIAL", "[I", "BilingualSetter"), ("BilingualSetter$Spreads", 142, "BilingualSetter", "SEGMENT_FIRST", "[I", "BilingualSetter"), ("BilingualSetter$Spreads", 148, "BilingualSetter", "SEGMENT_LINES", "[I", "BilingualSetter"), ("BilingualSetter$Spreads", 151, "BilingualSetter", "SEGMENT_BEGIN", "[I", "BilingualSetter")]
/-- what the tables say beside the words -/
def KU (X : XT) (U : State) : Prop := va_K (xD X) vwCl (x_tys X) U ∧ (∀ q ∈ NM, va_Nw (.methodLinkNest q.1 q.2.1 q.2.2.1 q.2.2.2) U) ∧ (∀ q ∈ NF, va_Nw (.fieldLinkNest q.1 q.2.1 q.2.2.1 q.2.2.2.1 q.2.2.2.2.1 q.2.2.2.2.2) U) ∧ va_Nw (.castable "[I" "java/lang/Cloneable") U ∧ va_AO RX1 U ∧ va_AOA .int U
theorem KU.warm {X : XT} {s U : State} (hW : s.WarmedH U.vm) (h : KU X s) : KU X U := by
  obtain ⟨h1, h2, h3, h4, h5, h6⟩ := h
  exact ⟨va_K.moved hW.alike h1, fun q hq => va_Nw.warmM hW (h2 q hq), fun q hq => va_Nw.warmF hW (h3 q hq), va_Nw.warmC hW h4, va_AO.moved hW.alike h5, va_AOA.moved hW.alike h6⟩
theorem KU.same {X : XT} {s U : State} (hv : s.vm = U.vm) (h : KU X s) : KU X U := by
  obtain ⟨h1, h2, h3, h4, h5, h6⟩ := h
  have ha : s.vm.Alike U.vm := by rw [hv]; exact Vm.Alike.refl _
  exact ⟨va_K.moved ha h1, fun q hq => va_Nw.same rfl hv (h2 q hq), fun q hq => va_Nw.same rfl hv (h3 q hq), va_Nw.same rfl hv h4, va_AO.moved ha h5, va_AOA.moved ha h6⟩
/-- the static rows -/
def StOK (X : XT) (U : State) (H : Heap) : Prop := (∀ k, k < 6 → va_Z "BilingualSetter" (st_nm k) "[I" (.ref (xs X k)) (x_A X) U H ∧ va_T .int (xs X k) (st_n k) (fun j => .int (Int32.ofInt (st_v k j))) (x_A X) U H) ∧ (∃ cell : Cell, H[xs X 0]? = some cell ∧ cell.cls = xc X 0 ∧ cell.slots = (arrV (xc X 0) 6 (fun j => .int (Int32.ofInt (st_v 0 j)))).slots ∧ cell.vm ≠ .unknown ∧ ∀ k, cell.vm ≠ .statics k) ∧ ¬ x_A X (xs X 0) ∧ (va_X (xs X 6) (xs X 7) (fun j => Int32.ofInt ((xs X (8 + j) : Int) - 2147483648)) U H ∧ ¬ x_A X (xs X 6) ∧ xs X 7 ≤ 2560 ∧ ∀ j, xs X (8 + j) < 4294967296)
theorem StOK.moved {X : XT} {s U : State} {H : Heap} (ha : s.vm.Alike U.vm) (h : StOK X s H) : StOK X U H := ⟨fun k hk => ⟨va_Z.moved ha (h.1 k hk).1, va_T.moved ha (h.1 k hk).2⟩, h.2.1, h.2.2.1, va_X.moved ha h.2.2.2.1, h.2.2.2.2⟩
theorem StOK.kept {X : XT} {s : State} {H H1 : Heap} (h : StOK X s H) (hq : ∀ a : Nat, a < H.size → ¬ x_A X a → H1[a]? = H[a]?) : StOK X s H1 := ⟨fun k hk => ⟨va_Z.kept (h.1 k hk).1 hq, va_T.kept (h.1 k hk).2 hq⟩, h.2.1.imp (fun cell c => ⟨(hq _ (Array.getElem?_eq_some_iff.mp c.1).1 h.2.2.1).trans c.1, c.2⟩), h.2.2.1, h.2.2.2.1.kept (hq _ (Array.getElem?_eq_some_iff.mp h.2.2.2.1.choose_spec.1).1 h.2.2.2.2.1), h.2.2.2.2⟩
def Rh (X : XT) (G : List Sh) (σ : Sto) (H : Heap) : Prop := va_P (xD X) vwCl (x_ws X G σ) H ∧ sok σ ∧ G.length < 100000
def Rp (X : XT) (G : List Sh) (σ : Sto) (U : State) : Prop := KU X U ∧ StOK X U U.heap ∧ Rh X G σ U.heap ∧ U.heap.size = xb X + G.length
def Cx (X : XT) (M : MT) (p : Program) (s : State) (m : MethodId) (args : Array Value) (meth : Method) (c : Code) : Prop :=
  p.tables.exec = Jvm.exec ∧ c.code = m_c M ∧ meth.sig.returnType = m_r M ∧ c.maxLocals = m_n M ∧ s.vm.findClass (m_y M).cls = some m.cls ∧ (∀ w ∈ W0, w.before args s = true) ∧ meth.locks = false ∧ KU X s ∧ StOK X s s.heap ∧ xb X ≤ s.heap.size ∧ meth.name = (m_y M).name
def Hp (X : XT) (g : GS) (σ : Sto) (s : State) (H : Heap) (locs : List Loc) : Prop := Rh X g.1 σ H ∧ va_S (x_A X) s.heap H locs ∧ s.heap.size + g.2.1 = xb X + g.1.length
def LH (X : XT) (ls : Array Slot) (n : Nat) (L : LT) : Prop := ls.size = n ∧ lv_wf ls ∧ ∀ k v, lget L k = some v → ls[k]? = some (.val (x_c X v)) ∧ okv v
def x_Qc (X : XT) (Q : QT) : Array Value → State → Outcome → State → Prop := fun _ st oc t => (∃ (r : Option AV) (G : List Sh) (σ : Sto), oc = .returned (r.map (x_c X)) ∧ Q r G σ ∧ (∀ v, r = some v → okv v) ∧ Rh X G σ t.heap) ∧ va_F (x_A X) st t
def WPc (X : XT) (M : MT) (Q : QT) (pc : Nat) (L : LT) (S : List AV) (g : GS) (σ : Sto) : Prop :=
  ∀ (p : Program) (l : Launch) (e : Env) (s : State) (m : MethodId) (args : Array Value) (below : List Frame) (meth : Method) (c : Code) (H : Heap) (locs : List Loc) (ls : Array Slot),
    Cx X M p s m args meth c → Hp X g σ s H locs → LH X ls (m_n M) L → (∀ v ∈ S, okv v) →
    W p l e (x_rm M) s m args below meth c H locs g.2.1 g.2.2 (MQ below (x_Qc X Q) args s (m_mc M) (m_ms M) (x_A X)) (F0 m pc ls (S.map (x_c X)))
def MS (X : XT) (M : MT) (args : List AV) (G : List Sh) (σ : Sto) (Q : QT) : Prop := ∃ Q0 : QT, (∀ r G σ, Q0 r G σ → Q r G σ) ∧
  ∀ l : Launch, Met l (m_y M) (x_w M) (x_rm M) (va_Pc (args.map (x_c X)) (fun U => Rp X G σ U ∧ ∀ v ∈ args, okv v)) (x_Qc X Q0) (m_mc M) (m_ms M) (x_A X)
theorem MS_mono {X : XT} {M : MT} {args : List AV} {G : List Sh} {σ : Sto} {Q Q' : QT} (h : MS X M args G σ Q) (hq : ∀ r G σ, Q r G σ → Q' r G σ) : MS X M args G σ Q' := by
  obtain ⟨Q0, h1, h2⟩ := h
  exact ⟨Q0, fun r G σ h => hq r G σ (h1 r G σ h), h2⟩
def Snd (X : XT) (M : MT) (pc : Nat) (a : Act) : Prop := ∀ (Q : QT) (k : KT) (L : LT) (S : List AV) (g : GS) (σ : Sto), (∀ pc' L' S' g' σ', k pc' L' S' g' σ' → WPc X M Q pc' L' S' g' σ') → a L S g σ k Q → WPc X M Q pc L S g σ
theorem WPc_L {X : XT} {M : MT} {Q : QT} {pc : Nat} {L L' : LT} {S : List AV} {g : GS} {σ : Sto} (h : ∀ k v, lget L' k = some v → lget L k = some v) (hw : WPc X M Q pc L' S g σ) : WPc X M Q pc L S g σ :=
  fun p l e s m args below meth c H locs ls C Hh hl hS => hw p l e s m args below meth c H locs ls C Hh ⟨hl.1, hl.2.1, fun k v q => hl.2.2 k v (h k v q)⟩ hS
/-! ===== running a table of acts ===== -/
abbrev Tab : Type := List (Nat × Bool × Act)
def tget : Tab → Nat → Option (Bool × Act)
  | [], _ => none
  | (k, a) :: l, pc => match Nat.beq pc k with
    | true => some a
    | false => tget l pc
def TabOK (X : XT) (M : MT) (t : Tab) : Prop := ∀ q ∈ t, Snd X M q.1 q.2.2
theorem tget_mem : ∀ (t : Tab) (pc : Nat) (a : Bool × Act), tget t pc = some a → (pc, a) ∈ t
  | [], _, _, h => by simp [tget] at h
  | (k, b) :: l, pc, a, h => by
    unfold tget at h
    split at h
    · rename_i e
      have e := Nat.eq_of_beq_eq_true e
      subst e
      cases h
      exact List.mem_cons_self
    · exact List.mem_cons_of_mem _ (tget_mem l pc a h)
def blk (X : XT) (M : MT) (t : Tab) (Q : QT) : Nat → KT
  | 0, pc, L, S, g, σ => WPc X M Q pc L S g σ
  | n + 1, pc, L, S, g, σ => match tget t pc with
    | some (false, a) => a L S g σ (blk X M t Q n) Q
    | _ => WPc X M Q pc L S g σ
theorem blk_wp {X : XT} {M : MT} {t : Tab} (ht : TabOK X M t) {Q : QT} : ∀ (n : Nat) (pc : Nat) (L : LT) (S : List AV) (g : GS) (σ : Sto), blk X M t Q n pc L S g σ → WPc X M Q pc L S g σ
  | 0, pc, L, S, g, σ, h => h
  | n + 1, pc, L, S, g, σ, h => by
    unfold blk at h
    split at h
    · rename_i a ha
      exact ht _ (tget_mem t pc _ ha) Q _ L S g σ (blk_wp ht n) h
    · exact h
/-- from a head on -/
theorem blk_at {X : XT} {M : MT} {t : Tab} (ht : TabOK X M t) {Q : QT} (n : Nat) {pc : Nat} {L : LT} {S : List AV} {g : GS} {σ : Sto} {b : Bool} {a : Act} (ha : tget t pc = some (b, a)) (h : a L S g σ (blk X M t Q n) Q) : WPc X M Q pc L S g σ := ht _ (tget_mem t pc _ ha) Q _ L S g σ (blk_wp ht n) h
