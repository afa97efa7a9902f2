/-! the operations on numbers that are what they must be -/
theorem bo_s {α β : Type} (x : α) (k : α → Option β) : bo (some x) k = k x := rfl
theorem lt_s_ {α β : Type} (x : α) (k : α → β) : lt_ x k = k x := rfl
theorem bx_s {ρ β S T : Type} (v : β) (z : T) (put : T → S) (k : β → S → Option ρ) : bx (some (v, z)) put k = k v (put z) := rfl
theorem by_s {ρ S T : Type} (z : T) (put : T → S) (k : S → Option ρ) : by_ (some z) put k = k (put z) := rfl
theorem zr0 : zr 0 = some 0 := rfl
theorem zr1 : zr 1 = some 1 := rfl
theorem rdI_n {σ : St} {c n t : Nat} (h : t < n) (hn : n < 2 ^ 31) : rdI σ c n (nI t) = some (σ c t) := by
  unfold rdI
  rw [if_neg (nI_in h hn), nI_clamp (by omega)]
theorem wrI_n {σ : St} {c n t : Nat} {x : Int32} (h : t < n) (hn : n < 2 ^ 31) : wrI σ c n (nI t) x = some (up2 σ c t x) := by
  unfold wrI
  rw [if_neg (nI_in h hn), nI_clamp (by omega)]
theorem rdL_n {σ : LSt} {c n t : Nat} (h : t < n) (hn : n < 2 ^ 31) : rdL σ c n (nI t) = some (σ c t) := by
  unfold rdL
  rw [if_neg (nI_in h hn), nI_clamp (by omega)]
theorem wrL_n {σ : LSt} {c n t : Nat} {x : Int64} (h : t < n) (hn : n < 2 ^ 31) : wrL σ c n (nI t) x = some (up2L σ c t x) := by
  unfold wrL
  rw [if_neg (nI_in h hn), nI_clamp (by omega)]
theorem up2_a (σ : St) (c i d j : Nat) (v : Int32) : up2 σ c i v d j = if d = c ∧ j = i then v else σ d j := by
  unfold up2 upd
  by_cases h : d = c
  · subst h
    simp only [Nat.beq_refl, cond_true, true_and]
  · have : Nat.beq d c = false := by
      cases q : Nat.beq d c with
      | false => rfl
      | true => exact absurd (Nat.eq_of_beq_eq_true q) h
    simp only [this, cond_false, h, false_and, if_false]
