/-! judge -/
def jdg (A : St) : Nat → Nat → Int32
  | 0, _ => -9
  | k + 1, i => if i < cnt (A 0) ∧ wgt (A 0) i (A 0 1) = A 3 i then jdg A k (i + 1) else nI i
theorem nI_n9 {i : Nat} (h : i < 2 ^ 31) : ¬ nI i = -9 := fun q => by
  have := nI_pos' h
  rw [q] at this
  exact absurd this (by decide)
theorem thing_lt {A : St} (hI : AI A) {i : Nat} (hi : i < 100) : (0 ≤ nI i ∧ nI i < A 0 0) ↔ i < cnt (A 0) := by
  obtain ⟨h2, h3⟩ := hI.1.n
  rw [h3, nI_ltI (by omega) (by omega)]
  exact ⟨fun q => q.2, fun q => ⟨nI_pos' (by omega), q⟩⟩
theorem c_judgeE {N n : Nat} {z : St} (j i : Nat) (hj : j < 100) : fX2_judge_L5 N (n + 1) z (nI j) (nI i) = some (nI j, up2 z 0 12 0) := by
  rw [fX2_judge_L5, if_neg (nI_n9 (by omega))]
  unfold fX2_judge_L65
  rw [lt_s_]
  grind
theorem c_judgeL {N : Nat} {σ A : St} (h : CS σ A) (hI : AI A) : ∀ (k n i : Nat), i + k = nK A → k + 1 < n → fX2_judge_L5 N n σ (-9) (nI i) = some (jdg A k i, up2 σ 0 12 0) := by
  obtain ⟨g1, g2⟩ := hI.2.2.2.2.2.1
  intro k
  induction k with
  | zero =>
    intro n i hi hn
    obtain ⟨n, rfl⟩ : ∃ m, n = m + 1 := ⟨n - 1, by omega⟩
    rw [fX2_judge_L5, h.2.2.2.2.2.1, g2, if_pos (nI_le (by omega) (by omega))]
    rfl
  | succ k ih =>
    intro n i hi hn
    obtain ⟨n, rfl⟩ : ∃ m, n = m + 2 := ⟨n - 2, by omega⟩
    rw [fX2_judge_L5, h.2.2.2.2.2.1, g2, if_neg (nI_ge (by omega) (by omega)), if_neg (show ¬ (16 : Int32) ≤ nI i from nI_ge (b := 16) (by omega) (by omega)), if_pos rfl, x0_has N h.1 hI.1, bo_s]
    have hb := thing_lt hI (i := i) (by omega)
    unfold jdg
    by_cases c : i < cnt (A 0)
    · rw [if_pos (hb.mpr c), if_neg (by decide), x0_weighs0 N h.1 hI.1 c, bo_s, rdI_n (by omega) (by omega), bo_s, h.2.2.2.2.2.2.1 i (by omega)]
      by_cases c2 : wgt (A 0) i (A 0 1) = A 3 i
      · rw [if_pos c2, if_pos ⟨c, c2⟩]
        unfold fX2_judge_L59
        rw [lt_s_, nI_1]
        exact ih (n + 1) (i + 1) (by omega) (by omega)
      · rw [if_neg c2, if_neg (fun q => c2 q.2)]
        unfold fX2_judge_L57 fX2_judge_L59
        rw [lt_s_, nI_1]
        exact c_judgeE i (i + 1) (by omega)
    · rw [if_neg (fun q => c (hb.mp q)), if_pos rfl, if_neg (fun q => c q.1)]
      unfold fX2_judge_L57 fX2_judge_L59
      rw [lt_s_, nI_1]
      exact c_judgeE i (i + 1) (by omega)
theorem c_judge {N : Nat} (hN : 300 < N) {σ A : St} (h : CS σ A) (hI : AI A) : CO (fX2_judge N σ) (jdg A (nK A) 0, w0 A) := by
  unfold fX2_judge
  have := c_judgeL (N := N) h hI (nK A) N 0 (by omega) (by have := hI.2.2.2.2.2.1.1; omega)
  rw [show (0 : Int32) = nI 0 from rfl, this]
  exact CO_s (w0_CS h)
theorem m_judgeL {N : Nat} {ρ A : St} (h : MS ρ A) (hI : AI A) : ∀ (k n i : Nat), i + k = nK A → k < n → fX3_judge_L12 N n (up2 ρ 0 9 0) (A 5 2) (nI i) = some (jdg A k i, up2 ρ 0 9 0) := by
  obtain ⟨g1, g2⟩ := hI.2.2.2.2.2.1
  have h1 : RR (up2 ρ 0 9 0) 1 (A 0) := h.1
  have h6 : ∀ k, k < nK A → up2 ρ 0 9 0 6 k = A 3 k := h.2.2.2.2.2.2.1
  intro k
  induction k with
  | zero =>
    intro n i hi hn
    obtain ⟨n, rfl⟩ : ∃ m, n = m + 1 := ⟨n - 1, by omega⟩
    rw [fX3_judge_L12, g2, if_pos (nI_le (by omega) (by omega))]
    rfl
  | succ k ih =>
    intro n i hi hn
    obtain ⟨n, rfl⟩ : ∃ m, n = m + 1 := ⟨n - 1, by omega⟩
    have hb := thing_lt hI (i := i) (by omega)
    have hn8 := hI.1.n.1
    rw [fX3_judge_L12, if_neg (by rw [g2]; exact nI_ge (by omega) (by omega)), j_thing N h1 hI.1, bo_s]
    unfold jdg
    by_cases c : i < cnt (A 0)
    · rw [if_pos (hb.mpr c), if_neg (by decide), m_weighs N (ρ := sb [1] (up2 ρ 0 9 0)) (r := A 0) h1 (by omega), bo_s, rdI_n (by omega) (by omega), bo_s, h6 i (by omega)]
      by_cases c2 : wgt (A 0) i (A 0 1) = A 3 i
      · rw [if_pos c2, if_pos ⟨c, c2⟩, lt_s_, nI_1]
        exact ih n (i + 1) (by omega) (by omega)
      · rw [if_neg c2, if_neg (fun q => c2 q.2)]
    · rw [if_neg (fun q => c (hb.mp q)), if_pos rfl, if_neg (fun q => c q.1)]
theorem m_judge {N : Nat} (hN : 300 < N) {ρ A : St} (h : MS ρ A) (hI : AI A) : MO (fX3_judge N ρ) (jdg A (nK A) 0, w0 A) := by
  unfold fX3_judge
  rw [lt_s_, h.2.2.2.2.2.1]
  have := m_judgeL (N := N) h hI (nK A) N 0 (by omega) (by have := hI.2.2.2.2.2.1.1; omega)
  rw [show fX3_judge_L12 N N (up2 ρ 0 9 0) (A 5 2) 0 = _ from this]
  exact MO_s (w0_MS h)
/-! image, on -/
def wI (A : St) : St := fun c => if c = 1 then A 0 else if c = 5 then (fun j => if j = 0 then 1 else A 5 j) else A c
theorem c_image {N : Nat} (hN : 300 < N) {σ A : St} (h : CS σ A) : CO (fX2_image N σ) (A 0 1, wI A) := by
  unfold fX2_image
  obtain ⟨z, e1, e2, e3⟩ := x0_copy (N := N) (by omega) (σ := sb [13, 14, 15, 16, 17, 18, 1, 2, 3, 4, 5, 6] σ) (r := A 0) h.1
  rw [e1, by_s, lt_s_]
  obtain ⟨h1, h2, h3, h4, h5, h6, h7, h8⟩ := h
  have ev : up2 (pb [13, 14, 15, 16, 17, 18, 1, 2, 3, 4, 5, 6] z σ) 0 13 1 1 2 = A 0 1 := e3.2.2.1
  rw [ev]
  exact ⟨_, rfl, ⟨e3, fun _ => e2, rfl, h4, h5, h6, h7, h8⟩⟩
theorem m_image {N : Nat} (hN : 300 < N) {ρ A : St} (h : MS ρ A) : MO (fX3_image N ρ) (A 0 1, wI A) := by
  unfold fX3_image
  obtain ⟨z, e1, e2, e3⟩ := m_copies (N := N) (by omega) (ρ := sb [1, 3] ρ) (r := A 0) h.1
  rw [e1, by_s, lt_s_]
  obtain ⟨h1, h2, h3, h4, h5, h6, h7, h8⟩ := h
  have e4 : RR (up2 (pb [1, 3] z ρ) 0 4 1) 1 (A 0) := e2
  rw [e4.rd1, bo_s]
  exact ⟨_, rfl, ⟨e4, fun _ => e3, rfl, h4, h5, h6, h7, h8⟩⟩
theorem a_image {A : St} (h : AI A) : AI (wI A) := ⟨h.1, Or.inr rfl, fun _ => h.1, h.2.2.2⟩
def S_on (A : St) : Int32 × St := if A 5 0 = 0 then (-3, rf A 3) else (A 1 1, wR A (A 1))
theorem c_on {N : Nat} (hN : 300 < N) {σ A : St} (h : CS σ A) (hI : AI A) : CO (fX2_on N σ) (S_on A) := by
  unfold fX2_on S_on
  rw [h.2.2.1]
  refine CO_i (fun _ => c_b3 N h) (fun c => ?_)
  have c1 : A 5 0 = 1 := hI.2.1.resolve_left c
  obtain ⟨z, e1, e2, e3⟩ := x0_copy (N := N) (by omega) (σ := sb [1, 2, 3, 4, 5, 6, 13, 14, 15, 16, 17, 18] σ) (r := A 1) (h.2.1 c1)
  rw [e1, by_s]
  obtain ⟨h1, h2, h3, h4, h5, h6, h7, h8⟩ := h
  have ev : pb [1, 2, 3, 4, 5, 6, 13, 14, 15, 16, 17, 18] z σ 1 2 = A 1 1 := e2.2.2.1
  rw [ev]
  exact ⟨_, rfl, ⟨e2, fun _ => e3, h3, h4, h5, h6, h7, h8⟩⟩
theorem m_on {N : Nat} (hN : 300 < N) {ρ A : St} (h : MS ρ A) (hI : AI A) : MO (fX3_on N ρ) (S_on A) := by
  unfold fX3_on S_on
  rw [h.2.2.1]
  refine MO_i (fun _ => m_b3 N h) (fun c => ?_)
  have c1 : A 5 0 = 1 := hI.2.1.resolve_left c
  obtain ⟨z, e1, e2, e3⟩ := m_copies (N := N) (by omega) (ρ := sb [3, 1] ρ) (r := A 1) (h.2.1 c1)
  rw [e1, by_s]
  obtain ⟨h1, h2, h3, h4, h5, h6, h7, h8⟩ := h
  have e4 : RR (pb [3, 1] z ρ) 1 (A 1) := e3
  rw [e4.rd1, bo_s]
  exact ⟨_, rfl, ⟨e4, fun _ => e2, h3, h4, h5, h6, h7, h8⟩⟩
theorem a_on {A : St} (hI : AI A) : AI (S_on A).2 := by
  unfold S_on
  by_cases c : A 5 0 = 0
  · rw [if_pos c]; exact rf_AI hI 3
  · rw [if_neg c]
    exact wR_AI hI (hI.2.2.1 (hI.2.1.resolve_left c))
/-! sums and bits over the things -/
def sumA (r : Nat → Int32) (d : Int32) : Nat → Int32
  | 0 => 0
  | t + 1 => sumA r d t + wgt r t d
def bitsR (r : Nat → Int32) (s : Int32) : Nat → Int32
  | 0 => 0
  | t + 1 => if r (4 * t + 8) = s then bitsR r s t ||| ((1 : Int32) <<< (nI t &&& 31)) else bitsR r s t
theorem x0_weighsAllL (N : Nat) {M : Nat} {τ : St} {r : Nat → Int32} (h : HR τ r) (hI : Inv M r) : ∀ (k n i : Nat), i + k = cnt r → k < n → fX0_weighsAll_L4 N τ n (sumA r (r 1) i) (nI i) = some (sumA r (r 1) (cnt r)) := by
  obtain ⟨h2, h3⟩ := hI.n
  intro k
  induction k with
  | zero =>
    intro n i hi hn
    obtain ⟨n, rfl⟩ : ∃ m, n = m + 1 := ⟨n - 1, by omega⟩
    rw [fX0_weighsAll_L4, h.2.2.2.1, h3, if_pos (nI_le (by omega) (by omega)), show i = cnt r by omega]
  | succ k ih =>
    intro n i hi hn
    obtain ⟨n, rfl⟩ : ∃ m, n = m + 1 := ⟨n - 1, by omega⟩
    rw [fX0_weighsAll_L4, h.2.2.2.1, h3, if_neg (nI_ge (by omega) (by omega)), x0_weighs0 N h hI (by omega), bo_s, lt_s_, lt_s_, nI_1]
    exact ih n (i + 1) (by omega) (by omega)
theorem x0_weighsAll {N : Nat} (hN : 8 < N) {M : Nat} {τ : St} {r : Nat → Int32} (h : HR τ r) (hI : Inv M r) : fX0_weighsAll N τ = some (sumA r (r 1) (cnt r)) := x0_weighsAllL N h hI (cnt r) N 0 (by omega) (by have := hI.n.1; omega)
theorem m_allL (N : Nat) {ρ : St} {r : Nat → Int32} (h : RR ρ 1 r) (hc : Cn r) : ∀ (k n i : Nat), i + k = cnt r → k < n → fX3_allWeigh_L4 N ρ n (sumA r (r 1) i) (nI i) = some (sumA r (r 1) (cnt r)) := by
  obtain ⟨h2, h3⟩ := hc
  intro k
  induction k with
  | zero =>
    intro n i hi hn
    obtain ⟨n, rfl⟩ : ∃ m, n = m + 1 := ⟨n - 1, by omega⟩
    rw [fX3_allWeigh_L4, h.rd0, bo_s, h3, if_pos (nI_le (by omega) (by omega)), show i = cnt r by omega]
  | succ k ih =>
    intro n i hi hn
    obtain ⟨n, rfl⟩ : ∃ m, n = m + 1 := ⟨n - 1, by omega⟩
    rw [fX3_allWeigh_L4, h.rd0, bo_s, h3, if_neg (nI_ge (by omega) (by omega)), m_weighs N (ρ := sb [1] ρ) (r := r) h (by omega), bo_s, lt_s_, lt_s_, nI_1]
    exact ih n (i + 1) (by omega) (by omega)
theorem m_all {N : Nat} (hN : 8 < N) {ρ : St} {r : Nat → Int32} (h : RR ρ 1 r) (hc : Cn r) : fX3_allWeigh N ρ = some (sumA r (r 1) (cnt r)) := m_allL N h hc (cnt r) N 0 (by omega) (by have := hc.1; omega)
theorem x0_bitsL (N : Nat) {M : Nat} {τ : St} {r : Nat → Int32} (h : HR τ r) (hI : Inv M r) (s : Int32) : ∀ (k n i : Nat), i + k = cnt r → k < n → fX0_bitsAt_L4 N τ n s (bitsR r s i) (nI i) = some (bitsR r s (cnt r)) := by
  obtain ⟨h2, h3⟩ := hI.n
  intro k
  induction k with
  | zero =>
    intro n i hi hn
    obtain ⟨n, rfl⟩ : ∃ m, n = m + 1 := ⟨n - 1, by omega⟩
    rw [fX0_bitsAt_L4, h.2.2.2.1, h3, if_pos (nI_le (by omega) (by omega)), show i = cnt r by omega]
  | succ k ih =>
    intro n i hi hn
    obtain ⟨n, rfl⟩ : ∃ m, n = m + 1 := ⟨n - 1, by omega⟩
    rw [fX0_bitsAt_L4, h.2.2.2.1, h3, if_neg (nI_ge (by omega) (by omega)), x0_placeOf N h hI (by omega), bo_s]
    simp only [fX0_bitsAt_L27, lt_s_, nI_1]
    have e : bitsR r s (i + 1) = if r (4 * i + 8) = s then bitsR r s i ||| ((1 : Int32) <<< (nI i &&& 31)) else bitsR r s i := rfl
    have := ih n (i + 1) (by omega) (by omega)
    by_cases c : r (4 * i + 8) = s
    · rw [if_pos c]; rw [e, if_pos c] at this; exact this
    · rw [if_neg c]; rw [e, if_neg c] at this; exact this
theorem x0_bits {N : Nat} (hN : 8 < N) {M : Nat} {τ : St} {r : Nat → Int32} (h : HR τ r) (hI : Inv M r) (s : Int32) : fX0_bitsAt N τ s = some (bitsR r s (cnt r)) := x0_bitsL N h hI s (cnt r) N 0 (by omega) (by have := hI.n.1; omega)
theorem m_bitsL (N : Nat) {ρ : St} {r : Nat → Int32} (h : RR ρ 1 r) (hc : Cn r) (s : Int32) : ∀ (k n i : Nat), i + k = cnt r → k < n → fX3_onSide_L4 N ρ n s (bitsR r s i) (nI i) = some (bitsR r s (cnt r)) := by
  obtain ⟨h2, h3⟩ := hc
  intro k
  induction k with
  | zero =>
    intro n i hi hn
    obtain ⟨n, rfl⟩ : ∃ m, n = m + 1 := ⟨n - 1, by omega⟩
    rw [fX3_onSide_L4, h.rd0, bo_s, h3, if_pos (nI_le (by omega) (by omega)), show i = cnt r by omega]
  | succ k ih =>
    intro n i hi hn
    obtain ⟨n, rfl⟩ : ∃ m, n = m + 1 := ⟨n - 1, by omega⟩
    rw [fX3_onSide_L4, h.rd0, bo_s, h3, if_neg (nI_ge (by omega) (by omega)), m_of2, bo_s, h.rd (by omega), bo_s]
    simp only [fX3_onSide_L36, lt_s_, nI_1]
    have e : bitsR r s (i + 1) = if r (4 * i + 8) = s then bitsR r s i ||| ((1 : Int32) <<< (nI i &&& 31)) else bitsR r s i := rfl
    have := ih n (i + 1) (by omega) (by omega)
    by_cases c : r (4 * i + 8) = s
    · rw [if_pos c]; rw [e, if_pos c] at this; exact this
    · rw [if_neg c]; rw [e, if_neg c] at this; rw [Int32.or_zero]; exact this
theorem m_bits {N : Nat} (hN : 8 < N) {ρ : St} {r : Nat → Int32} (h : RR ρ 1 r) (hc : Cn r) (s : Int32) : fX3_onSide N ρ s = some (bitsR r s (cnt r)) := m_bitsL N h hc s (cnt r) N 0 (by omega) (by have := hc.1; omega)
/-! count -/
def S_count (A : St) (p : Int32) : Int32 := if p = 0 then A 0 0 else if p = 1 then A 0 1 else if p = 2 then A 0 2 else if p = 3 then A 0 3 else if p = 4 then bitsR (A 0) 2 (cnt (A 0)) else if p = 5 then sumA (A 0) (A 0 1) (cnt (A 0)) else if p = 6 then A 5 2 else if p = 7 then A 5 1 else if 11 ≤ p ∧ p ≤ 16 then A 4 (p - 10).toNatClampNeg else -9
theorem refu_of {p : Int32} (c : 11 ≤ p ∧ p ≤ 16) : ∃ j, 1 ≤ j ∧ j < 7 ∧ p - 10 = nI j := by
  obtain ⟨j, hj, e⟩ := nI_of2 (x := p) (M := 16) (n := 16) (by decide) (by grind) c.2
  have h1 : 11 ≤ j := by
    rcases Nat.lt_or_ge j 11 with q | q
    · exact absurd c.1 (by rw [e]; exact nI_ge (b := 11) q (by omega))
    · exact q
  exact ⟨j - 10, by omega, by omega, by rw [e, show (10 : Int32) = nI 10 from rfl, pk_sub (by omega)]⟩
theorem c_refu {N : Nat} {σ A : St} (h : CS σ A) (p : Int32) : fX2_refusalsOf N σ (p - 10) = some (if 11 ≤ p ∧ p ≤ 16 then A 4 (p - 10).toNatClampNeg else -9) := by
  unfold fX2_refusalsOf
  by_cases c : 11 ≤ p ∧ p ≤ 16
  · rw [if_pos c]
    obtain ⟨j, h1, h2, e⟩ := refu_of c
    rw [e, if_neg (show ¬ nI j < 1 from nI_nlt (b := 1) h1 (by omega)), if_neg (show ¬ (7 : Int32) ≤ nI j from nI_ge (b := 7) h2 (by omega)), rdI_n (by omega) (by omega), bo_s, nI_clamp (by omega), h.2.2.2.2.2.2.2 j h2]
  · rw [if_neg c]
    by_cases c1 : p - 10 < 1
    · rw [if_pos c1]
    · rw [if_neg c1]
      by_cases c2 : 7 ≤ p - 10
      · rw [if_pos c2]
      · exact absurd ⟨by grind, by grind⟩ c
theorem c_count {N : Nat} (hN : 300 < N) {σ A : St} (h : CS σ A) (hI : AI A) (p : Int32) : fX2_count N σ p = some (S_count A p) := by
  unfold fX2_count S_count
  rw [c_refu h]
  obtain ⟨h1, h2, h3, h4, h5, h6, h7, h8⟩ := h
  rw [show σ 1 3 = A 0 0 from h1.2.2.2.1, show σ 1 2 = A 0 1 from h1.2.2.1, show σ 1 0 = A 0 2 from h1.1, show σ 1 1 = A 0 3 from h1.2.1, x0_bits (by omega) h1 hI.1, x0_weighsAll (by omega) h1 hI.1, h6, h4]
  simp only [bo_s]
  simp only [apply_ite some]
theorem m_count {N : Nat} (hN : 300 < N) {ρ A : St} (h : MS ρ A) (hI : AI A) (p : Int32) : fX3_count N ρ p = some (S_count A p) := by
  unfold fX3_count S_count
  rw [j_in, bo_s]
  by_cases c : 11 ≤ p ∧ p ≤ 16
  · obtain ⟨j, h1, h2, e⟩ := refu_of c
    rw [if_pos c, if_neg (by decide), e, rdI_n (by omega) (by omega), bo_s, nI_clamp (by omega), h.2.2.2.2.2.2.2 j h2, if_neg (show ¬ p = 0 by grind), if_neg (show ¬ p = 1 by grind), if_neg (show ¬ p = 2 by grind), if_neg (show ¬ p = 3 by grind), if_neg (show ¬ p = 4 by grind), if_neg (show ¬ p = 5 by grind), if_neg (show ¬ p = 6 by grind), if_neg (show ¬ p = 7 by grind), if_pos c]
  · rw [if_neg c, if_pos rfl, if_neg c]
    obtain ⟨h1, h2, h3, h4, h5, h6, h7, h8⟩ := h
    rw [m_bits (by omega) h1 hI.cn, m_all (by omega) h1 hI.cn, h6, h4]
    by_cases c0 : p = 0
    · subst c0; rw [if_pos rfl, if_pos rfl, h1.rd0, bo_s]
    · rw [if_neg c0, if_neg c0]
      by_cases c1 : p = 1
      · subst c1; rw [if_pos rfl, if_pos rfl, h1.rd1, bo_s]
      · rw [if_neg c1, if_neg c1]
        by_cases c2 : p = 2
        · subst c2; rw [if_pos rfl, if_pos rfl, h1.rd2, bo_s]
        · rw [if_neg c2, if_neg c2]
          by_cases c3 : p = 3
          · subst c3; rw [if_pos rfl, if_pos rfl, h1.rd3, bo_s]
          · rw [if_neg c3, if_neg c3]
            simp only [bo_s, apply_ite some]
/-! letter -/
def wL (A : St) (v : Int32) : St := fun c => if c = 2 then (fun j => if j = nL A then v else A 2 j) else if c = 5 then (fun j => if j = 1 then A 5 1 + 1 else A 5 j) else A c
def S_letter (A : St) (p : Int32) : Int32 × St := if 0 ≤ p then (if 255 < p then (-6, rf A 6) else if A 5 1 = 96 then (-6, rf A 6) else (A 5 1 + 1, wL A p)) else (-4, rf A 4)
theorem let_lt {A : St} (hI : AI A) (c : ¬ A 5 1 = 96) : nL A < 96 := by
  obtain ⟨h1, h2⟩ := hI.2.2.2.1
  rcases Nat.lt_or_ge (nL A) 96 with q | q
  · exact q
  · exact absurd (by rw [h2, show nL A = 96 by omega]; rfl) c
theorem wL_nL {A : St} (hI : AI A) (h : nL A < 96) (v : Int32) : nL (wL A v) = nL A + 1 := by
  show (A 5 1 + 1).toNatClampNeg = _
  rw [hI.2.2.2.1.2, nI_1, nI_clamp (by omega)]
theorem c_letter {N : Nat} {σ A : St} (h : CS σ A) (hI : AI A) (p : Int32) : CO (fX2_letter N σ p) (S_letter A p) := by
  unfold fX2_letter S_letter
  refine CO_i (fun c1 => CO_i (fun _ => c_b6 N h) (fun c2 => ?_)) (fun _ => c_b4 N h)
  obtain ⟨h1, h2, h3, h4, h5, h6, h7, h8⟩ := id h
  have ef : fX1_isFull N (sb [19, 20] σ) = some (if A 5 1 = 96 then 1 else 0) := by
    unfold fX1_isFull
    rw [show sb [19, 20] σ 0 0 = A 5 1 from h4, zr0, zr1]
    by_cases c : A 5 1 = 96
    · rw [if_pos c, if_neg (by rw [c]; decide)]
    · rw [if_neg c, if_pos (by rw [hI.2.2.2.1.2]; exact nI_lt (b := 96) (let_lt hI c) (by omega))]
  rw [ef, bo_s]
  by_cases c : A 5 1 = 96
  · rw [if_pos c, if_pos c, if_neg (by decide)]; exact c_b6 N h
  · have hl := let_lt hI c
    have e : A 5 1 = nI (nL A) := hI.2.2.2.1.2
    rw [if_neg c, if_neg c, if_pos rfl]
    unfold fX1_add
    rw [ef, bo_s, if_neg c, if_pos rfl, show sb [19, 20] σ 0 0 = nI (nL A) from h4.trans e, wrI_n hl (by omega), bo_s, lt_s_, lt_s_, by_s]
    have ev : pb [19, 20] (up2 (up2 (sb [19, 20] σ) 1 (nL A) p) 0 0 (up2 (sb [19, 20] σ) 1 (nL A) p 0 0 + 1)) σ 19 0 = A 5 1 + 1 := by
      show σ 19 0 + 1 = _
      rw [h4]
    rw [ev]
    refine CO_s ⟨h1, h2, h3, ev, fun k hk => ?_, h6, h7, h8⟩
    rw [wL_nL hI hl] at hk
    show upd (σ 20) (nL A) p k = if k = nL A then p else A 2 k
    unfold upd
    by_cases q : k = nL A
    · rw [if_pos q, if_pos q]
    · rw [if_neg q, if_neg q]; exact h5 k (by omega)
theorem m_letter {N : Nat} {ρ A : St} (h : MS ρ A) (hI : AI A) (p : Int32) : MO (fX3_letter N ρ p) (S_letter A p) := by
  unfold fX3_letter S_letter
  obtain ⟨h1, h2, h3, h4, h5, h6, h7, h8⟩ := id h
  rw [h4]
  refine MO_i (fun c1 => MO_i (fun _ => m_b6 N h) (fun c2 => MO_i (fun _ => m_b6 N h) (fun c => ?_))) (fun _ => m_b4 N h)
  have hl := let_lt hI c
  have e : A 5 1 = nI (nL A) := hI.2.2.2.1.2
  rw [e, wrI_n hl (by omega), bo_s, lt_s_, lt_s_]
  have ev : up2 (up2 ρ 5 (nL A) p) 0 8 (up2 ρ 5 (nL A) p 0 8 + 1) 0 8 = A 5 1 + 1 := by
    show ρ 0 8 + 1 = _
    rw [h4]
  rw [ev, ← e]
  refine MO_s ⟨h1, h2, h3, ev, fun k hk => ?_, h6, h7, h8⟩
  rw [wL_nL hI hl] at hk
  show upd (ρ 5) (nL A) p k = if k = nL A then p else A 2 k
  unfold upd
  by_cases q : k = nL A
  · rw [if_pos q, if_pos q]
  · rw [if_neg q, if_neg q]; exact h5 k (by omega)
theorem a_letter {A : St} (hI : AI A) (p : Int32) : AI (S_letter A p).2 := by
  unfold S_letter
  by_cases c1 : 0 ≤ p
  · rw [if_pos c1]
    by_cases c2 : 255 < p
    · rw [if_pos c2]; exact rf_AI hI 6
    · rw [if_neg c2]
      by_cases c : A 5 1 = 96
      · rw [if_pos c]; exact rf_AI hI 6
      · rw [if_neg c]
        have hl := let_lt hI c
        have e3 := wL_nL hI hl p
        obtain ⟨g1, g2, g3, g4, g5, g6, g7⟩ := id hI
        refine ⟨g1, g2, g3, ?_, fun k hk => ?_, g6, g7⟩
        · rw [e3]
          refine ⟨by omega, ?_⟩
          show A 5 1 + 1 = _
          rw [g4.2, nI_1]
        · rw [e3] at hk
          show 0 ≤ (if k = nL A then p else A 2 k) ∧ (if k = nL A then p else A 2 k) ≤ 255
          by_cases q : k = nL A
          · rw [if_pos q]; exact ⟨c1, by grind⟩
          · rw [if_neg q]; exact g5 k (by omega)
  · rw [if_neg c1]; exact rf_AI hI 4
