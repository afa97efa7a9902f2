/-! lifts -/
def S_lifts (A : St) (p1 : Int32) : Int32 × St := if 0 ≤ p1 ∧ p1 ≤ 20 then (A 0 2, wR A (fun i => if i = 2 then p1 else A 0 i)) else (-1, rf A 1)
theorem c_lifts {N : Nat} {σ A : St} (h : CS σ A) (p1 : Int32) : CO (fX2_lifts N σ p1) (S_lifts A p1) := by
  unfold fX2_lifts S_lifts
  rw [i_floor, bo_s]
  refine CO_t (fun c1 => ?_) (fun _ => c_b1 N h)
  unfold fX0_lift
  rw [i_floor, bo_s, if_pos c1, if_neg (by decide), lt_s_, zr1, bo_s, bx_s]
  have := h.1.1
  rw [show σ 1 0 = A 0 2 from this]
  exact CO_s (wR_CS h (x0_liftR h.1 p1))
theorem m_lifts {N : Nat} {ρ A : St} (h : MS ρ A) (p1 : Int32) : MO (fX3_lifts N ρ p1) (S_lifts A p1) := by
  unfold fX3_lifts S_lifts
  rw [j_floor, bo_s]
  refine MO_t (fun c1 => ?_) (fun _ => m_b1 N h)
  unfold fX3_sets
  rw [h.1.rd2, bo_s, wr2, bo_s, bx_s]
  exact MO_s (wR_MS1 h (fun _ _ => rfl))
theorem a_lifts {A : St} (hI : AI A) (p1 : Int32) : AI (S_lifts A p1).2 := by
  unfold S_lifts
  by_cases c1 : 0 ≤ p1 ∧ p1 ≤ 20
  · rw [if_pos c1]
    exact wR_AI hI (Inv_set hI.1 (by omega) (by omega) (fun _ => c1) (fun q => by omega) (fun q => by omega))
  · rw [if_neg c1]; exact rf_AI hI 1
/-! doors -/
def bitAt (w p : Int32) : Int32 := (w >>> (p &&& 31)) &&& 1
theorem shl1 : ∀ p, p < 21 → (1 : Int32) <<< (nI p &&& 31) = nI (2 ^ p) := by decide
theorem shr_n {w p : Nat} (hw : w < 2 ^ 31) (hp : p < 31) : nI w >>> (nI p &&& 31) = nI (w / 2 ^ p) := by
  have hs : ((nI p &&& 31).toBitVec.smod 32).toNat = p := by
    have : ∀ q, q < 31 → ((nI q &&& 31).toBitVec.smod 32).toNat = q := by decide
    exact this p hp
  exact pk_shrN hw _ p hs
theorem bit_n {w p : Nat} (hw : w < 2 ^ 31) (hp : p < 31) : bitAt (nI w) (nI p) = nI (w / 2 ^ p % 2) := by
  unfold bitAt
  rw [shr_n hw hp, pk_andN (m := 1) (Nat.lt_of_le_of_lt (Nat.div_le_self _ _) (by omega)) 1 (by decide)]
theorem nxor (a b : Nat) : nI a ^^^ nI b = nI (a ^^^ b) := by
  unfold nI
  apply Int32.toBitVec_inj.mp
  rw [Int32.toBitVec_xor]
  show BitVec.ofNat 32 a ^^^ BitVec.ofNat 32 b = BitVec.ofNat 32 (a ^^^ b)
  rw [BitVec.ofNat_xor]
theorem door_x {w : Nat} (hw : w < 2 ^ 21) {p : Nat} (hp : p ≤ 20) : ∃ u, u < 2 ^ 21 ∧ nI w ^^^ ((1 : Int32) <<< (nI p &&& 31)) = nI u := by
  refine ⟨w ^^^ 2 ^ p, Nat.xor_lt_two_pow hw (Nat.pow_lt_pow_right (by omega) (by omega)), ?_⟩
  rw [shl1 p (by omega), nxor]
def S_doors (A : St) (p1 : Int32) : Int32 × St := if 0 ≤ p1 ∧ p1 ≤ 20 then (bitAt (A 0 3 ^^^ ((1 : Int32) <<< (p1 &&& 31))) p1, wR A (fun i => if i = 3 then A 0 3 ^^^ ((1 : Int32) <<< (p1 &&& 31)) else A 0 i)) else (-1, rf A 1)
theorem floor_of {p : Int32} (h : 0 ≤ p ∧ p ≤ 20) : ∃ s, s ≤ 20 ∧ p = nI s := nI_of2 (x := p) (M := 20) (n := 20) (by decide) (by grind) h.2
theorem x0_isDoor (N : Nat) {τ : St} {r : Nat → Int32} (h : HR τ r) {p : Int32} (c : 0 ≤ p ∧ p ≤ 20) : fX0_isDoor N τ p = some (if bitAt (r 3) p = 1 then 1 else 0) := by
  unfold fX0_isDoor
  rw [i_floor, bo_s, if_pos c, if_neg (by decide), h.2.1, zr0, zr1]
  show (if bitAt (r 3) p = 1 then some 1 else some 0) = _
  rw [apply_ite some]
theorem m_has (N : Nat) (w p : Int32) : fX3_has N w p = some (if bitAt w p = 1 then 1 else 0) := by
  unfold fX3_has
  rw [zr0, zr1]
  show (if bitAt w p = 1 then some 1 else some 0) = _
  rw [apply_ite some]
theorem bit_01 {w p : Nat} (hw : w < 2 ^ 31) (hp : p < 31) : bitAt (nI w) (nI p) = 0 ∨ bitAt (nI w) (nI p) = 1 := by
  rw [bit_n hw hp]
  rcases Nat.mod_two_eq_zero_or_one (w / 2 ^ p) with q | q <;> rw [q]
  · exact Or.inl rfl
  · exact Or.inr rfl
theorem c_doors {N : Nat} {σ A : St} (h : CS σ A) (hI : AI A) (p1 : Int32) : CO (fX2_doors N σ p1) (S_doors A p1) := by
  unfold fX2_doors S_doors
  rw [i_floor, bo_s]
  refine CO_t (fun c1 => ?_) (fun _ => c_b1 N h)
  unfold fX0_switchDoor
  rw [i_floor, bo_s, if_pos c1, if_neg (by decide), lt_s_, lt_s_, zr1, bo_s, bx_s]
  have e : sb [1, 2, 3, 4, 5, 6] σ 0 1 = A 0 3 := h.1.2.1
  rw [e]
  have h3 := x0_doorR h.1 (A 0 3 ^^^ ((1 : Int32) <<< (p1 &&& 31)))
  have h4 := wR_CS h h3
  have h5 := x0_isDoor N h4.1 c1
  rw [h5, bo_s]
  obtain ⟨p, hp, rfl⟩ := floor_of c1
  obtain ⟨w, hw, hw2⟩ := hI.1.2.2.2.1
  obtain ⟨u, hu, hu2⟩ := door_x hw hp
  have e3 : wR A (fun i => if i = 3 then A 0 3 ^^^ ((1 : Int32) <<< (nI p &&& 31)) else A 0 i) 0 3 = nI u := by show A 0 3 ^^^ _ = _; rw [hw2, hu2]
  rw [e3]
  rw [show A 0 3 ^^^ ((1 : Int32) <<< (nI p &&& 31)) = nI u by rw [hw2, hu2]] at h4 ⊢
  rcases bit_01 (w := u) (p := p) (by omega) (by omega) with q | q
  · rw [q, if_pos (show (if (0 : Int32) = 1 then (1 : Int32) else 0) = 0 from rfl)]; exact CO_s h4
  · rw [q, if_neg (show ¬ (if (1 : Int32) = 1 then (1 : Int32) else 0) = 0 by decide)]; exact CO_s h4
theorem m_doors {N : Nat} {ρ A : St} (h : MS ρ A) (p1 : Int32) : MO (fX3_doors N ρ p1) (S_doors A p1) := by
  unfold fX3_doors S_doors
  rw [j_floor, bo_s]
  refine MO_t (fun c1 => ?_) (fun _ => m_b1 N h)
  rw [h.1.rd3, bo_s, lt_s_, wr3, bo_s]
  have h2 := wR_MS1 h (k := 3) (v := A 0 3 ^^^ ((1 : Int32) <<< (p1 &&& 31))) (r := fun i => if i = 3 then A 0 3 ^^^ ((1 : Int32) <<< (p1 &&& 31)) else A 0 i) (fun _ _ => rfl)
  rw [h2.1.rd3, bo_s]
  exact MO_s h2
theorem a_doors {A : St} (hI : AI A) (p1 : Int32) : AI (S_doors A p1).2 := by
  unfold S_doors
  by_cases c1 : 0 ≤ p1 ∧ p1 ≤ 20
  · rw [if_pos c1]
    refine wR_AI hI (Inv_set hI.1 (by omega) (by omega) (fun q => by omega) (fun _ => ?_) (fun q => by omega))
    obtain ⟨p, hp, rfl⟩ := floor_of c1
    obtain ⟨w, hw, hw2⟩ := hI.1.2.2.2.1
    obtain ⟨u, hu, hu2⟩ := door_x hw hp
    exact ⟨u, hu, by rw [hw2, hu2]⟩
  · rw [if_neg c1]; exact rf_AI hI 1
/-! turn -/
def S_turn (A : St) (p1 p2 p3 : Int32) : Int32 × St := if 0 ≤ p1 ∧ p1 < A 0 0 then (if 0 ≤ p2 ∧ p2 ≤ 5 then (if p3 < 0 then (-4, rf A 4) else if 9 < p3 then (-6, rf A 6) else (10 * A 0 (4 * p1.toNatClampNeg + 6) + A 0 (4 * p1.toNatClampNeg + 7), wR A (becR (A 0) p1.toNatClampNeg p2 p3))) else (-2, rf A 2)) else (-1, rf A 1)
theorem c_turn {N : Nat} {σ A : St} (h : CS σ A) (hI : AI A) (p1 p2 p3 : Int32) : CO (fX2_turn N σ p1 p2 p3) (S_turn A p1 p2 p3) := by
  unfold fX2_turn S_turn
  rw [x0_has N h.1 hI.1, bo_s]
  refine CO_t (fun c1 => ?_) (fun _ => c_b1 N h)
  rw [i_kind, bo_s]
  refine CO_t (fun c2 => ?_) (fun _ => c_b2 N h)
  rw [i_fault, bo_s]
  refine CO_f (badC N σ) (c_b4 N h) (c_b6 N h) (fun c3 c4 => ?_)
  obtain ⟨t, ht, ht8, rfl⟩ := thing_of hI.1 c1.1 c1.2
  obtain ⟨z, e1, e2⟩ := x0_become N h.1 hI.1 ht p2 p3
  rw [nI_clamp (by omega), x0_kindOf N h.1 hI.1 ht, bo_s, x0_figureOf N h.1 hI.1 ht, bo_s, lt_s_, e1, by_s]
  exact CO_s (wR_CS h e2)
theorem m_turn {N : Nat} {ρ A : St} (h : MS ρ A) (hI : AI A) (p1 p2 p3 : Int32) : MO (fX3_turn N ρ p1 p2 p3) (S_turn A p1 p2 p3) := by
  unfold fX3_turn S_turn
  rw [j_thing N h.1 hI.1, bo_s]
  refine MO_t (fun c1 => ?_) (fun _ => m_b1 N h)
  rw [j_in, bo_s]
  refine MO_t (fun c2 => ?_) (fun _ => m_b2 N h)
  rw [j_wrong, bo_s]
  refine MO_f (fX3_turn_L33 N ρ p1 p2 p3) (m_b4 N h) (m_b6 N h) (fun c3 c4 => ?_)
  obtain ⟨t, ht, ht8, rfl⟩ := thing_of hI.1 c1.1 c1.2
  unfold fX3_turn_L33
  rw [if_pos rfl, nI_clamp (by omega), m_of0, bo_s, h.1.rd (by omega), bo_s, m_of1, bo_s, h.1.rd (by omega), bo_s, lt_s_, bo_s, wrI_n (by omega) (by omega), bo_s, bo_s, wrI_n (by omega) (by omega), bo_s]
  refine MO_s ?_
  have h2 := wR_MS1 h (k := 4 * t + 6) (v := p2) (r := fun i => if i = 4 * t + 6 then p2 else A 0 i) (fun _ _ => rfl)
  exact wR_MS1 (A := wR A (fun i => if i = 4 * t + 6 then p2 else A 0 i)) h2 (k := 4 * t + 7) (v := p3) (r := becR (A 0) t p2 p3) (fun _ _ => rfl)
theorem a_turn {A : St} (hI : AI A) (p1 p2 p3 : Int32) : AI (S_turn A p1 p2 p3).2 := by
  unfold S_turn
  by_cases c1 : 0 ≤ p1 ∧ p1 < A 0 0
  · rw [if_pos c1]
    by_cases c2 : 0 ≤ p2 ∧ p2 ≤ 5
    · rw [if_pos c2]
      by_cases c3 : p3 < 0
      · rw [if_pos c3]; exact rf_AI hI 4
      · rw [if_neg c3]
        by_cases c4 : 9 < p3
        · rw [if_pos c4]; exact rf_AI hI 6
        · rw [if_neg c4]
          obtain ⟨t, ht, ht8, rfl⟩ := thing_of hI.1 c1.1 c1.2
          rw [nI_clamp (by omega)]
          exact wR_AI hI (Inv_bec hI.1 ht8 c2.1 c2.2 (by grind) (by grind))
    · rw [if_neg c2]; exact rf_AI hI 2
  · rw [if_neg c1]; exact rf_AI hI 1
