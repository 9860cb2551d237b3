/-! ===== branches that are known, ones that are not ===== -/
theorem icmp_t {c tg nx : Nat} {L : LT} {x y : Int} {S : List AV} {g : GS} {σ : Sto} {k : KT} {Q : QT} (h : cmp c x y) : a_icmp c tg nx L (.inl y :: .inl x :: S) g σ k Q = k tg L S g σ := by
  unfold a_icmp
  rw [eq_iff_iff]
  exact ⟨fun q => q.1 h, fun q => ⟨fun _ => q, fun n => absurd h n⟩⟩
theorem icmp_f {c tg nx : Nat} {L : LT} {x y : Int} {S : List AV} {g : GS} {σ : Sto} {k : KT} {Q : QT} (h : ¬ cmp c x y) : a_icmp c tg nx L (.inl y :: .inl x :: S) g σ k Q = k nx L S g σ := by
  unfold a_icmp
  rw [eq_iff_iff]
  exact ⟨fun q => q.2 h, fun q => ⟨fun n => absurd n h, fun _ => q⟩⟩
theorem icmp_b {c tg nx : Nat} {L : LT} {x y : Int} {S : List AV} {g : GS} {σ : Sto} {k : KT} {Q : QT} : a_icmp c tg nx L (.inl y :: .inl x :: S) g σ k Q = ((cmp c x y → k tg L S g σ) ∧ (¬ cmp c x y → k nx L S g σ)) := rfl
theorem aif_t {c tg nx : Nat} {L : LT} {x : Int} {S : List AV} {g : GS} {σ : Sto} {k : KT} {Q : QT} (h : cmp c x 0) : a_if c tg nx L (.inl x :: S) g σ k Q = k tg L S g σ := by
  unfold a_if
  rw [eq_iff_iff]
  exact ⟨fun q => q.1 h, fun q => ⟨fun _ => q, fun n => absurd h n⟩⟩
theorem aif_f {c tg nx : Nat} {L : LT} {x : Int} {S : List AV} {g : GS} {σ : Sto} {k : KT} {Q : QT} (h : ¬ cmp c x 0) : a_if c tg nx L (.inl x :: S) g σ k Q = k nx L S g σ := by
  unfold a_if
  rw [eq_iff_iff]
  exact ⟨fun q => q.2 h, fun q => ⟨fun n => absurd n h, fun _ => q⟩⟩
theorem aif_b {c tg nx : Nat} {L : LT} {x : Int} {S : List AV} {g : GS} {σ : Sto} {k : KT} {Q : QT} : a_if c tg nx L (.inl x :: S) g σ k Q = ((cmp c x 0 → k tg L S g σ) ∧ (¬ cmp c x 0 → k nx L S g σ)) := rfl
theorem blk_z {X : XT} {M : MT} {t : Tab} {Q : QT} {pc : Nat} {L : LT} {S : List AV} {g : GS} {σ : Sto} : blk X M t Q 0 pc L S g σ = WPc X M Q pc L S g σ := rfl
