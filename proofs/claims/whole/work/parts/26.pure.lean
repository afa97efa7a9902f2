/-! side -/
def dst (h : Int32) (i : Nat) : Int32 := if 0 ≤ nI i - h then nI i - h else -(nI i - h)
theorem dst_a (h : Int32) (i : Nat) : absI (nI i - h) = dst h i := by unfold absI dst; grind
theorem dst_m (N : Nat) (h : Int32) (i : Nat) : fX3_sized N (nI i - h) = some (dst h i) := m_sized N _
theorem dst_bn : ∀ g, g ≤ 20 → ∀ i, i ≤ 20 → dst (nI g) i ≤ 20 := by decide +kernel
theorem dst_b {h : Int32} (hh : 0 ≤ h ∧ h ≤ 20) {i : Nat} (hi : i ≤ 20) : ¬ 21 ≤ dst h i := by
  obtain ⟨g, hg, rfl⟩ := floor_of hh
  have := dst_bn g hg i hi
  grind
def nst (w h : Int32) (i : Nat) (b : Option Nat) : Option Nat := if bitAt w (nI i) = 1 then (match b with
  | none => some i
  | some j => if dst h i < dst h j then some i else some j) else b
def ndr (w h : Int32) : Nat → Nat → Option Nat → Option Nat
  | 0, _, b => b
  | k + 1, i, b => ndr w h k (i + 1) (nst w h i b)
theorem ndr_s (w h : Int32) (k i : Nat) (b : Option Nat) : ndr w h (k + 1) i b = ndr w h k (i + 1) (nst w h i b) := rfl
def nsd (h : Int32) (b : Option Nat) : Int32 := match b with
  | none => 21
  | some j => dst h j
theorem x0_ndL {N : Nat} {τ : St} {r : Nat → Int32} (h : HR τ r) {g : Int32} (hg : 0 ≤ g ∧ g ≤ 20) : ∀ (k n i : Nat) (b : Option Nat), i + k = 21 → k < n → fX0_nearestDoor_L19 N τ n g (oI b) (nsd g b) (nI i) = some (oI (ndr (r 3) g k i b)) := by
  intro k
  induction k with
  | zero =>
    intro n i b hi hn
    obtain ⟨n, rfl⟩ : ∃ m, n = m + 1 := ⟨n - 1, by omega⟩
    rw [fX0_nearestDoor_L19, if_pos (show (20 : Int32) < nI i from nI_lt (a := 20) (by omega) (by omega))]
    rfl
  | succ k ih =>
    intro n i b hi hn
    obtain ⟨n, rfl⟩ : ∃ m, n = m + 1 := ⟨n - 1, by omega⟩
    rw [fX0_nearestDoor_L19, if_neg (show ¬ (20 : Int32) < nI i from nI_nlt (a := 20) (by omega) (by omega)), x0_isDoor N h (p := nI i) ⟨nI_pos' (by omega), nI_le (b := 20) (by omega) (by omega)⟩, bo_s, dst_a]
    simp only [lt_s_, fX0_nearestDoor_L59, nI_1, ndr_s]
    have := ih n (i + 1) (nst (r 3) g i b) (by omega) (by omega)
    by_cases c : bitAt (r 3) (nI i) = 1
    · rw [if_pos c, if_neg (by decide)]
      unfold nst at this ⊢
      rw [if_pos c] at this ⊢
      cases b with
      | none =>
        rw [if_neg (show ¬ nsd g none ≤ dst g i from dst_b hg (by omega))]
        exact this
      | some j =>
        by_cases c2 : dst g i < dst g j
        · rw [if_neg (show ¬ nsd g (some j) ≤ dst g i from fun q => by have q' : dst g j ≤ dst g i := q; grind)]
          simp only [if_pos c2] at this ⊢
          exact this
        · rw [if_pos (show nsd g (some j) ≤ dst g i from by show dst g j ≤ dst g i; grind)]
          simp only [if_neg c2] at this ⊢
          exact this
    · rw [if_neg c, if_pos rfl]
      unfold nst at this ⊢
      rw [if_neg c] at this ⊢
      exact this
theorem nI_nn {j : Nat} (h : j < 2 ^ 31) : ¬ nI j < 0 := by
  have := nI_pos' h
  grind
theorem m_ndL {N : Nat} {ρ : St} {r : Nat → Int32} (h : RR ρ 1 r) (g : Int32) : ∀ (k n i : Nat) (b : Option Nat), i + k = 21 → k < n → (∀ j, b = some j → j < i) → fX3_nearestDoor_L5 N ρ n g (oI b) (nI i) = some (oI (ndr (r 3) g k i b)) := by
  intro k
  induction k with
  | zero =>
    intro n i b hi hn hb
    obtain ⟨n, rfl⟩ : ∃ m, n = m + 1 := ⟨n - 1, by omega⟩
    rw [fX3_nearestDoor_L5, if_pos (show (20 : Int32) < nI i from nI_lt (a := 20) (by omega) (by omega))]
    rfl
  | succ k ih =>
    intro n i b hi hn hb
    obtain ⟨n, rfl⟩ : ∃ m, n = m + 1 := ⟨n - 1, by omega⟩
    have hb' : ∀ j, nst (r 3) g i b = some j → j < i + 1 := by
      intro j hj
      unfold nst at hj
      by_cases c : bitAt (r 3) (nI i) = 1
      · rw [if_pos c] at hj
        cases b with
        | none => cases hj; omega
        | some j0 =>
          have := hb j0 rfl
          by_cases c2 : dst g i < dst g j0
          · simp only [if_pos c2] at hj; cases hj; omega
          · simp only [if_neg c2] at hj; cases hj; omega
      · rw [if_neg c] at hj
        have := hb j hj
        omega
    rw [fX3_nearestDoor_L5, if_neg (show ¬ (20 : Int32) < nI i from nI_nlt (a := 20) (by omega) (by omega)), h.rd3, bo_s, m_has, bo_s, dst_m, bo_s]
    simp only [fX3_nearestDoor_L45, fX3_nearestDoor_L43, lt_s_, nI_1, ndr_s]
    have := ih n (i + 1) (nst (r 3) g i b) (by omega) (by omega) hb'
    by_cases c : bitAt (r 3) (nI i) = 1
    · rw [if_pos c, if_neg (by decide)]
      unfold nst at this ⊢
      rw [if_pos c] at this ⊢
      cases b with
      | none =>
        rw [if_pos (show oI none < 0 from by decide)]
        exact this
      | some j =>
        have hj := hb j rfl
        rw [if_neg (show ¬ oI (some j) < 0 from nI_nn (by omega)), show oI (some j) = nI j from rfl, dst_m, bo_s]
        by_cases c2 : dst g i < dst g j
        · rw [if_neg (show ¬ dst g j ≤ dst g i from by grind)]
          simp only [if_pos c2] at this ⊢
          exact this
        · rw [if_pos (show dst g j ≤ dst g i from by grind)]
          simp only [if_neg c2] at this ⊢
          exact this
    · rw [if_neg c, if_pos rfl]
      unfold nst at this ⊢
      rw [if_neg c] at this ⊢
      exact this
theorem x0_weightOfL (N : Nat) {M : Nat} {τ : St} {r : Nat → Int32} (h : HR τ r) (hI : Inv M r) (s : Int32) : ∀ (k n i : Nat) (acc b : Int32), i + k = cnt r → k < n → acc = b + sumS r (r 1) s i → fX0_weightOf_L8 N τ n s acc (nI i) = some (b + sumS r (r 1) s (cnt r)) := by
  obtain ⟨h2, h3⟩ := hI.n
  intro k
  induction k with
  | zero =>
    intro n i acc b hi hn hacc
    obtain ⟨n, rfl⟩ : ∃ m, n = m + 1 := ⟨n - 1, by omega⟩
    rw [fX0_weightOf_L8, h.2.2.2.1, h3, if_pos (nI_le (by omega) (by omega)), hacc, show i = cnt r by omega]
  | succ k ih =>
    intro n i acc b hi hn hacc
    obtain ⟨n, rfl⟩ : ∃ m, n = m + 1 := ⟨n - 1, by omega⟩
    rw [fX0_weightOf_L8, h.2.2.2.1, h3, if_neg (nI_ge (by omega) (by omega)), x0_placeOf N h hI (by omega), bo_s, x0_weighs0 N h hI (by omega), bo_s]
    simp only [fX0_weightOf_L34, lt_s_, nI_1]
    have e0 : sumS r (r 1) s (i + 1) = sumS r (r 1) s i + (if r (4 * i + 8) = s then wgt r i (r 1) else 0) := rfl
    by_cases c0 : r (4 * i + 8) = s
    · rw [if_pos c0]
      exact ih n (i + 1) _ b (by omega) (by omega) (by rw [e0, if_pos c0, hacc]; grind)
    · rw [if_neg c0]
      exact ih n (i + 1) _ b (by omega) (by omega) (by rw [e0, if_neg c0, hacc]; grind)
def ndA (A : St) (s : Int32) : Option Nat := ndr (A 0 3) (hgt s (A 0 2)) 21 0 none
def hwA (A : St) (s : Int32) : Int32 := match ndA A s with
  | none => -9
  | some j => dst (hgt s (A 0 2)) j
def S_side (A : St) (p1 p2 : Int32) : Int32 × St := if 0 ≤ p1 ∧ p1 ≤ 1 then (if p2 = 0 then (hgt p1 (A 0 2), A) else if p2 = 1 then (A 0 (4 + p1.toNatClampNeg), A) else if p2 = 2 then (A 0 (4 + p1.toNatClampNeg) + sumS (A 0) (A 0 1) p1 (cnt (A 0)), A) else if p2 = 3 then (bitsR (A 0) p1 (cnt (A 0)), A) else if p2 = 4 then (oI (ndA A p1), A) else if p2 = 5 then (hwA A p1, A) else (-2, rf A 2)) else (-1, rf A 1)
theorem ndr_lt {w g : Int32} : ∀ (k i : Nat) (b : Option Nat), (∀ j, b = some j → j < i) → ∀ j, ndr w g k i b = some j → j < i + k
  | 0, i, b, hb, j, hj => hb j hj
  | k + 1, i, b, hb, j, hj => by
    rw [ndr_s] at hj
    have := ndr_lt k (i + 1) (nst w g i b) (by
      intro j hj
      unfold nst at hj
      by_cases c : bitAt w (nI i) = 1
      · rw [if_pos c] at hj
        cases b with
        | none => cases hj; omega
        | some j0 =>
          have := hb j0 rfl
          by_cases c2 : dst g i < dst g j0
          · simp only [if_pos c2] at hj; cases hj; omega
          · simp only [if_neg c2] at hj; cases hj; omega
      · rw [if_neg c] at hj
        have := hb j hj
        omega) j hj
    omega
theorem x0_nd {N : Nat} (hN : 300 < N) {σ A : St} (h : CS σ A) (hI : AI A) {s : Int32} (hs : 0 ≤ s ∧ s ≤ 1) : fX0_nearestDoor N (sb [1, 2, 3, 4, 5, 6] σ) s = some (oI (ndA A s)) := by
  unfold fX0_nearestDoor
  rw [show sb [1, 2, 3, 4, 5, 6] σ 0 0 = A 0 2 from h.1.1, x0_height, bo_s]
  exact x0_ndL h.1 (hgt_b hs hI.1.2.2.1) 21 N 0 none (by omega) (by omega)
theorem c_howFar {N : Nat} (hN : 300 < N) {σ A : St} (h : CS σ A) (hI : AI A) {s : Int32} (hs : 0 ≤ s ∧ s ≤ 1) : fX2_howFar N σ s = some (hwA A s) := by
  unfold fX2_howFar hwA
  rw [x0_nd hN h hI hs, bo_s, x0_height, bo_s, lt_s_, show σ 1 0 = A 0 2 from h.1.1]
  have := ndr_lt (w := A 0 3) (g := hgt s (A 0 2)) 21 0 none (fun j hj => by cases hj)
  cases e : ndA A s with
  | none => rfl
  | some j =>
    have hj := this j e
    show (if nI j = -9 then _ else _) = _
    rw [if_neg (nI_n9 (by omega))]
    show some (absI (nI j - _)) = _
    rw [dst_a]
theorem c_side {N : Nat} (hN : 300 < N) {σ A : St} (h : CS σ A) (hI : AI A) (p1 p2 : Int32) : CO (fX2_side N σ p1 p2) (S_side A p1 p2) := by
  unfold fX2_side S_side
  have h8 := hI.1.n.1
  rw [i_side, bo_s]
  refine CO_t (fun c1 => ?_) (fun _ => c_b1 N h)
  rw [x0_nd hN h hI c1, c_howFar hN h hI c1, x0_height, show σ 1 0 = A 0 2 from h.1.1, x0_bits (by omega) h.1 hI.1]
  obtain ⟨s, hs, rfl⟩ := side_of c1
  rw [nI_clamp (by omega), x0_ballastOf N h.1 hs]
  have e2 : fX0_weightOf N (sb [1, 2, 3, 4, 5, 6] σ) (nI s) = some (A 0 (4 + s) + sumS (A 0) (A 0 1) (nI s) (cnt (A 0))) := by
    unfold fX0_weightOf
    rw [x0_ballastOf N h.1 hs, bo_s]
    exact x0_weightOfL N h.1 hI.1 (nI s) (cnt (A 0)) N 0 _ (A 0 (4 + s)) (by omega) (by omega) (by show _ = _ + (0 : Int32); grind)
  rw [e2]
  simp only [bo_s]
  exact CO_i (fun _ => CO_s h) (fun _ => CO_i (fun _ => CO_s h) (fun _ => CO_i (fun _ => CO_s h) (fun _ => CO_i (fun _ => CO_s h) (fun _ => CO_i (fun _ => CO_s h) (fun _ => CO_i (fun _ => CO_s h) (fun _ => c_b2 N h))))))
theorem m_side {N : Nat} (hN : 300 < N) {ρ A : St} (h : MS ρ A) (hI : AI A) (p1 p2 : Int32) : MO (fX3_side N ρ p1 p2) (S_side A p1 p2) := by
  unfold fX3_side S_side
  have h8 := hI.1.n.1
  rw [j_side, bo_s]
  refine MO_t (fun c1 => ?_) (fun _ => m_b1 N h)
  obtain ⟨s, hs, rfl⟩ := side_of c1
  have e1 : fX3_nearestDoor N ρ (hgt (nI s) (A 0 2)) = some (oI (ndA A (nI s))) := m_ndL h.1 _ 21 N 0 none (by omega) (by omega) (fun j hj => by cases hj)
  rw [m_floorOf N (ρ := sb [1] ρ) (r := A 0) h.1, bo_s, e1, bo_s, nI_clamp (by omega), show (4 : Int32) + nI s = nI (4 + s) from nI_add 4 s, h.1.rd (by omega), m_weight (by omega) (ρ := sb [1] ρ) (r := A 0) h.1 hI.cn hs, m_bits (by omega) h.1 hI.cn]
  simp only [bo_s]
  refine MO_i (fun _ => MO_s h) (fun _ => MO_i (fun _ => MO_s h) (fun _ => MO_i (fun _ => MO_s h) (fun _ => MO_i (fun _ => MO_s h) (fun _ => MO_i (fun _ => MO_s h) (fun _ => MO_i (fun _ => ?_) (fun _ => m_b2 N h))))))
  have := ndr_lt (w := A 0 3) (g := hgt (nI s) (A 0 2)) 21 0 none (fun j hj => by cases hj)
  unfold hwA
  cases e : ndA A (nI s) with
  | none => exact MO_s h
  | some j =>
    have hj := this j e
    show MO (if 0 ≤ nI j then _ else _) _
    rw [if_pos (nI_pos' (by omega)), m_sized, bo_s]
    exact MO_s h
