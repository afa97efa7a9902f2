/-! fractions -/
theorem lN_z {b : Nat} (hb : b < 2 ^ 63) : lN b = (0 : Int64) ↔ b = 0 := pk_lEQ (b := 0) hb (by omega)
theorem rmL_n {a b : Nat} (ha : a < 2 ^ 63) (h0 : 0 < b) (hb : b < 2 ^ 63) : rmL (lN a) (lN b) = some (lN (a % b)) := by
  unfold rmL
  rw [if_neg (fun q => by have := (lN_z hb).mp q; omega), pk_lRem ha h0 hb]
theorem two_half {y r : Nat} (h0 : 0 < r) (hr : r < y) : 2 * (y % r) < y := by
  have h1 := Nat.mod_lt y h0
  have h2 : y % r + r ≤ y := by
    have h3 := Nat.div_add_mod y r
    have h4 : 1 ≤ y / r := (Nat.le_div_iff_mul_le h0).mpr (by omega)
    have h5 : r * 1 ≤ r * (y / r) := Nat.mul_le_mul_left r h4
    omega
  omega
theorem gcd_st {x y : Nat} : Nat.gcd y (x % y) = Nat.gcd x y := by
  rw [Nat.gcd_comm x y, Nat.gcd_comm y (x % y)]
  exact (Nat.gcd_rec y x).symm
theorem c_gcdL (N : Nat) : ∀ (k n i x y : Nat), y < 2 ^ k → 2 * k + 1 < n → i + 2 * k < 199 → x < 2 ^ 62 → y < 2 ^ 62 → fX2_greatestDivisor_L9 N n (lN x) (lN y) (nI i) = some (lN (Nat.gcd x y)) := by
  intro k
  induction k with
  | zero =>
    intro n i x y hy hn hi hx h62
    obtain ⟨n, rfl⟩ : ∃ m, n = m + 1 := ⟨n - 1, by omega⟩
    have : y = 0 := by simp at hy; omega
    subst this
    rw [fX2_greatestDivisor_L9, if_neg (show ¬ (200 : Int32) ≤ nI i from nI_ge (b := 200) (by omega) (by omega)), if_pos (show lN 0 = (0 : Int64) from rfl), Nat.gcd_zero_right]
  | succ k ih =>
    intro n i x y hy hn hi hx h62
    obtain ⟨n, rfl⟩ : ∃ m, n = m + 2 := ⟨n - 2, by omega⟩
    rw [fX2_greatestDivisor_L9, if_neg (show ¬ (200 : Int32) ≤ nI i from nI_ge (b := 200) (by omega) (by omega))]
    by_cases c : y = 0
    · subst c
      rw [if_pos (show lN 0 = (0 : Int64) from rfl), Nat.gcd_zero_right]
    · rw [if_neg (fun q => c ((lN_z (by omega)).mp q)), rmL_n (by omega) (by omega) (by omega), bo_s, lt_s_, nI_1]
      have h1 := Nat.mod_lt x (show 0 < y by omega)
      rw [fX2_greatestDivisor_L9, if_neg (show ¬ (200 : Int32) ≤ nI (i + 1) from nI_ge (b := 200) (by omega) (by omega)), ← gcd_st]
      by_cases c2 : x % y = 0
      · rw [c2, if_pos (show lN 0 = (0 : Int64) from rfl), Nat.gcd_zero_right]
      · rw [if_neg (fun q => c2 ((lN_z (by omega)).mp q)), rmL_n (by omega) (by omega) (by omega), bo_s, lt_s_, nI_1, ← gcd_st]
        have h2 := two_half (show 0 < x % y by omega) h1
        have h3 := Nat.mod_lt y (show 0 < x % y by omega)
        exact ih n (i + 1 + 1) (x % y) (y % (x % y)) (by rw [Nat.pow_succ] at hy; omega) (by omega) (by omega) (by omega) (by omega)
theorem m_gcdL (N : Nat) : ∀ (k n x y : Nat), y < 2 ^ k → 2 * k + 1 < n → x < 2 ^ 62 → y < 2 ^ 62 → fX3_gcd_L6 N n (lN x) (lN y) = some (lN (Nat.gcd x y)) := by
  intro k
  induction k with
  | zero =>
    intro n x y hy hn hx h62
    obtain ⟨n, rfl⟩ : ∃ m, n = m + 1 := ⟨n - 1, by omega⟩
    have : y = 0 := by simp at hy; omega
    subst this
    rw [fX3_gcd_L6, if_pos (show lN 0 = (0 : Int64) from rfl), Nat.gcd_zero_right]
  | succ k ih =>
    intro n x y hy hn hx h62
    obtain ⟨n, rfl⟩ : ∃ m, n = m + 2 := ⟨n - 2, by omega⟩
    rw [fX3_gcd_L6]
    by_cases c : y = 0
    · subst c
      rw [if_pos (show lN 0 = (0 : Int64) from rfl), Nat.gcd_zero_right]
    · rw [if_neg (fun q => c ((lN_z (by omega)).mp q)), rmL_n (by omega) (by omega) (by omega), bo_s]
      have h1 := Nat.mod_lt x (show 0 < y by omega)
      rw [fX3_gcd_L6, ← gcd_st]
      by_cases c2 : x % y = 0
      · rw [c2, if_pos (show lN 0 = (0 : Int64) from rfl), Nat.gcd_zero_right]
      · rw [if_neg (fun q => c2 ((lN_z (by omega)).mp q)), rmL_n (by omega) (by omega) (by omega), bo_s, ← gcd_st]
        have h2 := two_half (show 0 < x % y by omega) h1
        have h3 := Nat.mod_lt y (show 0 < x % y by omega)
        exact ih n (x % y) (y % (x % y)) (by rw [Nat.pow_succ] at hy; omega) (by omega) (by omega) (by omega)
def PV (a b : Nat) (p : Int32) : Int64 := if a = 0 then p.toInt64 else if p = 0 then lN a / lN (Nat.gcd a b) else lN b / lN (Nat.gcd a b)
theorem gcd_p {a b : Nat} (h : ¬ a = 0) : 0 < Nat.gcd a b := Nat.gcd_pos_of_pos_left b (by omega)
theorem c_part {N : Nat} (hN : 300 < N) {a b : Nat} (ha : a < 2 ^ 31) (hb : b < 2 ^ 31) (p : Int32) : fX2_partOf N (lN a) (lN b) p = some (PV a b p) := by
  unfold fX2_partOf fX2_greatestDivisor PV
  by_cases c : a = 0
  · rw [if_pos ((lN_z (by omega)).mpr c), if_pos c]
  · have h1 := gcd_p (b := b) c
    have h2 : Nat.gcd a b ≤ a := Nat.gcd_le_left b (by omega)
    have h3 : ¬ lN (Nat.gcd a b) = (0 : Int64) := fun q => by have := (lN_z (by omega)).mp q; omega
    have e : fX2_greatestDivisor_L9 N N (lN a) (lN b) 0 = some (lN (Nat.gcd a b)) := c_gcdL N 31 N 0 a b hb (by omega) (by omega) (by omega) (by omega)
    rw [if_neg (fun q => c ((lN_z (by omega)).mp q)), if_neg c, e, bo_s, if_neg h3]
    unfold dvL
    rw [if_neg h3, if_neg h3, bo_s, bo_s]
    by_cases c2 : p = 0
    · rw [if_pos c2, if_pos c2]
    · rw [if_neg c2, if_neg c2]
theorem m_part {N : Nat} (hN : 300 < N) {a b : Nat} (ha : a < 2 ^ 31) (hb : b < 2 ^ 31) (p : Int32) : fX3_partOf N (lN a) (lN b) p = some (PV a b p) := by
  unfold fX3_partOf fX3_partOf_L20 fX3_gcd PV
  by_cases c : a = 0
  · rw [if_pos ((lN_z (by omega)).mpr c), if_pos c]
  · have h1 := gcd_p (b := b) c
    have h2 : Nat.gcd a b ≤ a := Nat.gcd_le_left b (by omega)
    have h3 : ¬ lN (Nat.gcd a b) = (0 : Int64) := fun q => by have := (lN_z (by omega)).mp q; omega
    have e : fX3_gcd_L6 N N (lN a) (lN b) = some (lN (Nat.gcd a b)) := m_gcdL N 31 N a b hb (by omega) (by omega) (by omega)
    rw [if_neg (fun q => c ((lN_z (by omega)).mp q)), if_neg c, e, bo_s, bo_s]
    unfold dvL
    rw [if_neg h3, if_neg h3, bo_s, bo_s]
    by_cases c2 : p = 0
    · rw [if_pos c2, if_pos c2]
    · rw [if_neg c2, if_neg c2]
def CL (o : Option (Int64 × St)) (s : Int64 × St) : Prop := ∃ z, o = some (s.1, z) ∧ CS z s.2
def ML (o : Option (Int64 × St)) (s : Int64 × St) : Prop := ∃ z, o = some (s.1, z) ∧ MS z s.2
theorem sumA_n {M : Nat} {r : Nat → Int32} (hI : Inv M r) : ∀ k, k ≤ 8 → ∃ s, s ≤ 60 * k ∧ sumA r (r 1) k = nI s
  | 0, _ => ⟨0, by omega, rfl⟩
  | k + 1, hk => by
    obtain ⟨s, h1, h2⟩ := sumA_n hI k (by omega)
    obtain ⟨h3, h4⟩ := wgt_b hI (t := k) (by omega) (d := r 1) (by grind)
    obtain ⟨j, hj, e⟩ := nI_of2 (x := wgt r k (r 1)) (M := 60) (n := 60) (by decide) (by grind) h4
    refine ⟨s + j, by omega, ?_⟩
    show sumA r (r 1) k + wgt r k (r 1) = _
    rw [h2, e, nI_add]
def S_mean (A : St) (p : Int32) : Int64 × St := if 0 ≤ p ∧ p ≤ 1 then (PV (sumA (A 0) (A 0 1) (cnt (A 0))).toNatClampNeg (cnt (A 0)) p, A) else ((4000000000000000000 : Int64) - (-2 : Int32).toInt64, rf A 2)
theorem c_mean {N : Nat} (hN : 300 < N) {σ A : St} (h : CS σ A) (hI : AI A) (p : Int32) : CL (fX2_mean N σ p) (S_mean A p) := by
  obtain ⟨h8, h9⟩ := hI.1.n
  obtain ⟨s, h1, h2⟩ := sumA_n hI.1 (cnt (A 0)) h8
  have key : fX2_mean_L21 N σ p = some (PV s (cnt (A 0)) p, σ) := by
    unfold fX2_mean_L21
    rw [x0_weighsAll (by omega) h.1 hI.1, bo_s, h2, show σ 1 3 = A 0 0 from h.1.2.2.2.1, h9, nI_l (by omega), nI_l (by omega), c_part hN (by omega) (by omega), bo_s]
  unfold fX2_mean S_mean
  rw [key, h2, nI_clamp (by omega)]
  by_cases c : p = 0
  · rw [if_pos c, if_pos (by subst c; decide)]; exact ⟨_, rfl, h⟩
  · rw [if_neg c]
    by_cases c1 : p = 1
    · rw [if_pos c1, if_pos (by subst c1; decide)]; exact ⟨_, rfl, h⟩
    · rw [if_neg c1, if_neg (by grind)]
      obtain ⟨z, e1, e2⟩ := c_refuse N h (k := 2) (w := -2) (by omega) (by omega) (by decide)
      rw [e1, bx_s]
      exact ⟨z, rfl, e2⟩
theorem m_wide (N : Nat) {ρ A : St} (h : MS ρ A) {k : Nat} (hk : k < 7) {w : Int32} (hw : -w = nI k) : ∃ z, fX3_noWide N ρ w = some ((4000000000000000000 : Int64) - w.toInt64, z) ∧ MS z (rf A k) := by
  unfold fX3_noWide
  obtain ⟨z, e1, e2⟩ := m_no N h hk hw
  rw [e1, bx_s]
  exact ⟨z, rfl, e2⟩
theorem m_mean {N : Nat} (hN : 300 < N) {ρ A : St} (h : MS ρ A) (hI : AI A) (p : Int32) : ML (fX3_mean N ρ p) (S_mean A p) := by
  obtain ⟨h8, h9⟩ := hI.1.n
  obtain ⟨s, h1, h2⟩ := sumA_n hI.1 (cnt (A 0)) h8
  unfold fX3_mean S_mean
  rw [j_in, bo_s, m_all (by omega) h.1 hI.cn, bo_s, h.1.rd0, bo_s, h2, h9, nI_l (by omega), nI_l (by omega), m_part hN (by omega) (by omega), bo_s, nI_clamp (by omega)]
  by_cases c : 0 ≤ p ∧ p ≤ 1
  · rw [if_pos c, if_neg (by decide), if_pos c]
    exact ⟨_, rfl, h⟩
  · rw [if_neg c, if_pos rfl, if_neg c]
    obtain ⟨z, e1, e2⟩ := m_wide N h (k := 2) (w := -2) (by omega) (by decide)
    rw [e1, bx_s]
    exact ⟨z, rfl, e2⟩
