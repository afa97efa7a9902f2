/-! heaviest -/
theorem fig_b : ∀ g, g ≤ 9 → (0 ≤ 2 * (nI g + 1) ∧ 2 * (nI g + 1) ≤ 60) ∧ (0 ≤ 3 * (nI g + 1) ∧ 3 * (nI g + 1) ≤ 60) ∧ (0 ≤ nI g + 1 ∧ nI g + 1 ≤ 60) ∧ (0 ≤ 2 * (nI g + 1) + 3 ∧ 2 * (nI g + 1) + 3 ≤ 60) := by decide +kernel
theorem wis_b {y : Int32} (h1 : 1 ≤ y) (h2 : y ≤ 30) : (0 ≤ y ∧ y ≤ 60) ∧ (0 ≤ 30 - y ∧ 30 - y ≤ 60) := by grind
theorem wgt_b {M : Nat} {r : Nat → Int32} (hI : Inv M r) {t : Nat} (ht : t < 8) {d : Int32} (hd : r 1 ≤ d) : 0 ≤ wgt r t d ∧ wgt r t d ≤ 60 := by
  obtain ⟨g1, g2, g3, g4⟩ := hI.2.2.2.2.2.2 t ht
  have hb := thW_b g2.1 g2.2 (g := d - r (4 * t + 9)) (by obtain ⟨q1, q2⟩ := g4; grind)
  have hw := wis_b hb.1 hb.2
  obtain ⟨g, hg, eg⟩ := nI_of2 (x := r (4 * t + 7)) (M := 9) (n := 9) (by decide) (by grind) g2.2
  obtain ⟨k1, k2, k3, k4⟩ := fig_b g hg
  rw [← eg] at k1 k2 k3 k4
  unfold wgt wBy
  by_cases c1 : r (4 * t + 6) = 1
  · rw [if_pos c1]; exact k1
  · rw [if_neg c1]
    by_cases c2 : r (4 * t + 6) = 2
    · rw [if_pos c2]; exact hw.1
    · rw [if_neg c2]
      by_cases c3 : r (4 * t + 6) = 3
      · rw [if_pos c3]
        by_cases c : 5 ≤ d - d / 10 * 10
        · rw [if_pos c]; exact k2
        · rw [if_neg c]; exact k3
      · rw [if_neg c3]
        by_cases c4 : r (4 * t + 6) = 4
        · rw [if_pos c4]; exact k4
        · rw [if_neg c4]
          by_cases c5 : r (4 * t + 6) = 5
          · rw [if_pos c5, if_pos hb.2]; exact hw.2
          · rw [if_neg c5]; exact k3
def oI (b : Option Nat) : Int32 := match b with
  | none => -9
  | some j => nI j
def hst (f : Nat → Int32) (b : Option Nat) (i : Nat) : Option Nat := match b with
  | none => some i
  | some j => if f j < f i then some i else some j
def owb (f : Nat → Int32) : Nat → Nat → Option Nat → Option Nat
  | 0, _, b => b
  | k + 1, i, b => owb f k (i + 1) (hst f b i)
theorem hst_lt {f : Nat → Int32} {b : Option Nat} {i : Nat} (h : ∀ j, b = some j → j < i) : ∀ j, hst f b i = some j → j < i + 1 := by
  intro j hj
  cases b with
  | none => cases hj; omega
  | some j0 =>
    have := h j0 rfl
    unfold hst at hj
    by_cases c : f j0 < f i
    · simp only [if_pos c] at hj; cases hj; omega
    · simp only [if_neg c] at hj; cases hj; omega
/-- what the class keeps beside the best one -/
def mst (s : Int32) (f : Nat → Int32) (b : Option Nat) : Int32 := match b with
  | none => 0
  | some j => s * f j
theorem c_outL {N : Nat} {σ A : St} (h : CS σ A) (hI : AI A) (s : Int32) : ∀ (k n i : Nat) (b : Option Nat), i + k = cnt (A 0) → k < n → (∀ j, b = some j → j < i) → fX2_outweighing_L8 N σ n s (oI b) (mst s (fun t => wgt (A 0) t (A 0 1)) b) (nI i) = some (oI (owb (fun t => s * wgt (A 0) t (A 0 1)) k i b)) := by
  obtain ⟨h8, h9⟩ := hI.1.n
  intro k
  induction k with
  | zero =>
    intro n i b hi hn hb
    obtain ⟨n, rfl⟩ : ∃ m, n = m + 1 := ⟨n - 1, by omega⟩
    rw [fX2_outweighing_L8, show σ 1 3 = A 0 0 from h.1.2.2.2.1, h9, if_pos (nI_le (by omega) (by omega))]
    rfl
  | succ k ih =>
    intro n i b hi hn hb
    obtain ⟨n, rfl⟩ : ∃ m, n = m + 1 := ⟨n - 1, by omega⟩
    rw [fX2_outweighing_L8, show σ 1 3 = A 0 0 from h.1.2.2.2.1, h9, if_neg (nI_ge (by omega) (by omega)), x0_weighs0 N h.1 hI.1 (by omega), bo_s, lt_s_]
    unfold fX2_outweighing_L46 fX2_outweighing_L52
    rw [lt_s_, lt_s_, nI_1]
    have e : ∀ b', owb (fun t => s * wgt (A 0) t (A 0 1)) (k + 1) i b' = owb (fun t => s * wgt (A 0) t (A 0 1)) k (i + 1) (hst (fun t => s * wgt (A 0) t (A 0 1)) b' i) := fun _ => rfl
    rw [e]
    cases b with
    | none =>
      rw [if_pos (show oI none = -9 from rfl)]
      exact ih n (i + 1) (some i) (by omega) (by omega) (fun j hj => by cases hj; omega)
    | some j =>
      have hj := hb j rfl
      rw [if_neg (show ¬ oI (some j) = -9 from nI_n9 (by omega))]
      show (if s * wgt (A 0) i (A 0 1) ≤ s * wgt (A 0) j (A 0 1) then _ else _) = _
      by_cases c : s * wgt (A 0) j (A 0 1) < s * wgt (A 0) i (A 0 1)
      · rw [if_neg (fun q => absurd c (by grind)), show hst (fun t => s * wgt (A 0) t (A 0 1)) (some j) i = some i from if_pos c]
        exact ih n (i + 1) (some i) (by omega) (by omega) (fun j hj => by cases hj; omega)
      · rw [if_pos (by grind), show hst (fun t => s * wgt (A 0) t (A 0 1)) (some j) i = some j from if_neg c]
        exact ih n (i + 1) (some j) (by omega) (by omega) (fun j' hj' => by cases hj'; omega)
theorem c_out {N : Nat} (hN : 300 < N) {σ A : St} (h : CS σ A) (hI : AI A) (s : Int32) : fX2_outweighing N σ s = some (oI (owb (fun t => s * wgt (A 0) t (A 0 1)) (cnt (A 0)) 0 none)) :=
  c_outL h hI s (cnt (A 0)) N 0 none (by omega) (by have := hI.1.n.1; omega) (fun j hj => by cases hj)
def gnb (q : Nat → Bool) : Nat → Int32
  | 0 => 0
  | t + 1 => if q t = true then gnb q t ||| ((1 : Int32) <<< (nI t &&& 31)) else gnb q t
theorem gnb_c {q q' : Nat → Bool} : ∀ n, (∀ i, i < n → q i = q' i) → gnb q n = gnb q' n
  | 0, _ => rfl
  | n + 1, h => by
    unfold gnb
    rw [h n (by omega), gnb_c n (fun i hi => h i (by omega))]
theorem c_gainL {N : Nat} {σ A : St} (h : CS σ A) (hI : AI A) (s : Int32) : ∀ (k n i : Nat), i + k = cnt (A 0) → k < n → fX2_gaining_L4 N σ n s (gnb (fun t => decide (¬ s * (wgt (A 0) t (A 0 1 + 1) - wgt (A 0) t (A 0 1)) ≤ 0)) i) (nI i) = some (gnb (fun t => decide (¬ s * (wgt (A 0) t (A 0 1 + 1) - wgt (A 0) t (A 0 1)) ≤ 0)) (cnt (A 0))) := by
  obtain ⟨h8, h9⟩ := hI.1.n
  intro k
  induction k with
  | zero =>
    intro n i hi hn
    obtain ⟨n, rfl⟩ : ∃ m, n = m + 1 := ⟨n - 1, by omega⟩
    rw [fX2_gaining_L4, show σ 1 3 = A 0 0 from h.1.2.2.2.1, h9, if_pos (nI_le (by omega) (by omega)), show i = cnt (A 0) by omega]
  | succ k ih =>
    intro n i hi hn
    obtain ⟨n, rfl⟩ : ∃ m, n = m + 1 := ⟨n - 1, by omega⟩
    have hw : fX0_weighs N (sb [1, 2, 3, 4, 5, 6] σ) (nI i) 1 = some (wgt (A 0) i (A 0 1 + 1)) := x0_weighs N h.1 hI.1 (by omega) (a := nI 1) (day_le hI.1 (by omega))
    have := ih n (i + 1) (by omega) (by omega)
    rw [fX2_gaining_L4, show σ 1 3 = A 0 0 from h.1.2.2.2.1, h9, if_neg (nI_ge (by omega) (by omega)), hw, bo_s, x0_weighs0 N h.1 hI.1 (by omega), bo_s]
    unfold fX2_gaining_L45
    rw [lt_s_, lt_s_, lt_s_, nI_1]
    by_cases c : s * (wgt (A 0) i (A 0 1 + 1) - wgt (A 0) i (A 0 1)) ≤ 0
    · rw [if_pos c]
      rw [show gnb (fun t => decide (¬ s * (wgt (A 0) t (A 0 1 + 1) - wgt (A 0) t (A 0 1)) ≤ 0)) (i + 1) = gnb (fun t => decide (¬ s * (wgt (A 0) t (A 0 1 + 1) - wgt (A 0) t (A 0 1)) ≤ 0)) i from if_neg (by simpa using c)] at this
      exact this
    · rw [if_neg c]
      rw [show gnb (fun t => decide (¬ s * (wgt (A 0) t (A 0 1 + 1) - wgt (A 0) t (A 0 1)) ≤ 0)) (i + 1) = gnb (fun t => decide (¬ s * (wgt (A 0) t (A 0 1 + 1) - wgt (A 0) t (A 0 1)) ≤ 0)) i ||| ((1 : Int32) <<< (nI i &&& 31)) from if_pos (by simpa using c)] at this
      exact this
theorem c_gain {N : Nat} (hN : 300 < N) {σ A : St} (h : CS σ A) (hI : AI A) (s : Int32) : fX2_gaining N σ s = some (gnb (fun t => decide (¬ s * (wgt (A 0) t (A 0 1 + 1) - wgt (A 0) t (A 0 1)) ≤ 0)) (cnt (A 0))) :=
  c_gainL h hI s (cnt (A 0)) N 0 (by omega) (by have := hI.1.n.1; omega)
def opn (w f : Int32) : Int32 := (if bitAt w f = 1 then 1 else 0) + (if bitAt w (20 - f) = 1 then 2 else 0)
theorem x0_open {N : Nat} (hN : 300 < N) {τ : St} {r : Nat → Int32} (h : HR τ r) {f : Int32} (hf : 0 ≤ f ∧ f ≤ 20) : fX0_openAt N τ f = some (opn (r 3) f) := by
  obtain ⟨N', rfl⟩ : ∃ m, N = m + 3 := ⟨N - 3, by omega⟩
  have d0 := x0_isDoor (N' + 3) h (p := hgt 0 f) (hgt_b (by decide) hf)
  have d1 := x0_isDoor (N' + 3) h (p := hgt 1 f) (hgt_b (by decide) hf)
  have e0 : hgt 0 f = f := rfl
  have e1 : hgt 1 f = 20 - f := rfl
  rw [e0] at d0
  rw [e1] at d1
  unfold fX0_openAt opn
  rw [fX0_openAt_L4, if_neg (by decide), x0_height, bo_s, e0, d0, bo_s]
  unfold fX0_openAt_L27
  simp only [lt_s_]
  have st : ∀ y, fX0_openAt_L4 (N' + 3) τ (N' + 2) f y (0 + 1) = some (if bitAt (r 3) (20 - f) = 1 then y ||| 2 else y) := by
    intro y
    rw [fX0_openAt_L4, if_neg (by decide), x0_height, bo_s, show hgt (0 + 1) f = 20 - f from rfl, d1, bo_s]
    unfold fX0_openAt_L27
    simp only [lt_s_]
    by_cases c : bitAt (r 3) (20 - f) = 1
    · rw [if_pos c, if_neg (by decide), if_pos c, fX0_openAt_L4, if_pos (by decide)]
      rfl
    · rw [if_neg c, if_pos rfl, if_neg c, fX0_openAt_L4, if_pos (by decide)]
  rw [st, st]
  by_cases c : bitAt (r 3) f = 1
  · rw [if_pos c, if_neg (by decide)]
    by_cases c2 : bitAt (r 3) (20 - f) = 1
    · rw [if_pos c2, if_pos c2]; rfl
    · rw [if_neg c2, if_neg c2]; rfl
  · rw [if_neg c, if_pos rfl]
    by_cases c2 : bitAt (r 3) (20 - f) = 1
    · rw [if_pos c2, if_pos c2]; rfl
    · rw [if_neg c2, if_neg c2]; rfl
def hvA (A : St) : Int32 := oI (owb (fun t => 1 * wgt (A 0) t (A 0 1)) (cnt (A 0)) 0 none)
def ltA (A : St) : Int32 := oI (owb (fun t => (-1) * wgt (A 0) t (A 0 1)) (cnt (A 0)) 0 none)
def gnA (A : St) (s : Int32) : Int32 := gnb (fun t => decide (¬ s * (wgt (A 0) t (A 0 1 + 1) - wgt (A 0) t (A 0 1)) ≤ 0)) (cnt (A 0))
def S_heaviest (A : St) (p : Int32) : Int32 × St := if p = 0 then (hvA A, A) else if p = 1 then (ltA A, A) else if p = 2 then (opn (A 0 3) (A 0 2), A) else if p = 3 then (gnA A 1, A) else if p = 4 then (gnA A (-1), A) else (-2, rf A 2)
theorem c_heaviest {N : Nat} (hN : 300 < N) {σ A : St} (h : CS σ A) (hI : AI A) (p : Int32) : CO (fX2_heaviest N σ p) (S_heaviest A p) := by
  unfold fX2_heaviest S_heaviest
  rw [c_out hN h hI, c_out hN h hI, c_gain hN h hI, c_gain hN h hI, show σ 1 0 = A 0 2 from h.1.1, x0_open hN h.1 hI.1.2.2.1]
  simp only [bo_s]
  exact CO_i (fun _ => CO_s h) (fun _ => CO_i (fun _ => CO_s h) (fun _ => CO_i (fun _ => CO_s h) (fun _ => CO_i (fun _ => CO_s h) (fun _ => CO_i (fun _ => CO_s h) (fun _ => c_b2 N h)))))
/-- the reference's set: more, or less, on the next day -/
def gq (A : St) (p : Int32) (t : Nat) : Bool := if p = 3 then decide (wgt (A 0) t (A 0 1) < wgt (A 0) t (A 0 1 + 1)) else decide (wgt (A 0) t (A 0 1 + 1) < wgt (A 0) t (A 0 1))
theorem neg_n {a1 a2 : Int32} (h1 : 0 ≤ a1 ∧ a1 ≤ 60) (h2 : 0 ≤ a2 ∧ a2 ≤ 60) (c : a2 ≤ a1) : ¬ (-1) * a2 < (-1) * a1 := by grind
theorem neg_p {a1 a2 : Int32} (h1 : 0 ≤ a1 ∧ a1 ≤ 60) (h2 : 0 ≤ a2 ∧ a2 ≤ 60) (c : ¬ a2 ≤ a1) : (-1) * a2 < (-1) * a1 := by grind
theorem one_n {a1 a2 : Int32} (c : a1 ≤ a2) : ¬ 1 * a2 < 1 * a1 := by grind
theorem one_p {a1 a2 : Int32} (c : ¬ a1 ≤ a2) : 1 * a2 < 1 * a1 := by grind
theorem gn_1 {a1 a2 : Int32} (h1 : 0 ≤ a1 ∧ a1 ≤ 60) (h2 : 0 ≤ a2 ∧ a2 ≤ 60) : a1 < a2 ↔ ¬ 1 * (a2 - a1) ≤ 0 := by grind
theorem gn_2 {a1 a2 : Int32} (h1 : 0 ≤ a1 ∧ a1 ≤ 60) (h2 : 0 ≤ a2 ∧ a2 ≤ 60) : a2 < a1 ↔ ¬ (-1) * (a2 - a1) ≤ 0 := by grind
theorem m_heavyS {N : Nat} {z A : St} (h : MS z A) (hI : AI A) (p : Int32) {n i : Nat} (hi : i < cnt (A 0)) {bh bl : Option Nat} (h1 : ∀ j, bh = some j → j < i) (h2 : ∀ j, bl = some j → j < i) (st : Int32) : fX3_heaviest_L28 N (n + 1) z p (oI bh) (oI bl) st (nI i) = fX3_heaviest_L28 N n z p (oI (hst (fun t => 1 * wgt (A 0) t (A 0 1)) bh i)) (oI (hst (fun t => (-1) * wgt (A 0) t (A 0 1)) bl i)) (if gq A p i = true then st ||| ((1 : Int32) <<< (nI i &&& 31)) else st) (nI (i + 1)) := by
  obtain ⟨h8, h9⟩ := hI.1.n
  have hm : ∀ t, t < 8 → fX3_weighs N (sb [1] z) (nI t) = some (wgt (A 0) t (A 0 1)) := fun t ht => m_weighs N (ρ := sb [1] z) (r := A 0) h.1 ht
  rw [fX3_heaviest_L28, h.1.rd0, bo_s, h9, if_neg (nI_ge (by omega) (by omega)), hm i (by omega), bo_s, h.1.rd1, bo_s, m_weighsOn N (ρ := sb [1] z) (r := A 0) h.1 (by omega), bo_s]
  have b : ∀ t, t < 8 → 0 ≤ wgt (A 0) t (A 0 1) ∧ wgt (A 0) t (A 0 1) ≤ 60 := fun t ht => wgt_b hI.1 ht (Int32.le_refl _)
  have s3 : ∀ x2 x3, fX3_heaviest_L109 N (fX3_heaviest_L28 N n) z p x2 x3 st (nI i) (wgt (A 0) i (A 0 1)) (wgt (A 0) i (A 0 1 + 1)) = fX3_heaviest_L28 N n z p x2 x3 (if gq A p i = true then st ||| ((1 : Int32) <<< (nI i &&& 31)) else st) (nI (i + 1)) := by
    intro x2 x3
    unfold fX3_heaviest_L109 fX3_heaviest_L140 fX3_heaviest_L133 fX3_heaviest_L141
    simp only [lt_s_, nI_1, Int32.or_zero]
    by_cases c : p = 3
    · rw [if_pos c, show gq A p i = decide (wgt (A 0) i (A 0 1) < wgt (A 0) i (A 0 1 + 1)) from if_pos c]
      by_cases c2 : wgt (A 0) i (A 0 1 + 1) ≤ wgt (A 0) i (A 0 1)
      · rw [if_pos c2, if_neg (fun q => absurd (of_decide_eq_true q) (by grind))]
      · rw [if_neg c2, if_pos (decide_eq_true (by grind))]
    · rw [if_neg c, show gq A p i = decide (wgt (A 0) i (A 0 1 + 1) < wgt (A 0) i (A 0 1)) from if_neg c]
      by_cases c2 : wgt (A 0) i (A 0 1) ≤ wgt (A 0) i (A 0 1 + 1)
      · rw [if_pos c2, if_neg (fun q => absurd (of_decide_eq_true q) (by grind))]
      · rw [if_neg c2, if_pos (decide_eq_true (by grind))]
  have s2 : ∀ x2, fX3_heaviest_L89 N (fX3_heaviest_L28 N n) z p x2 (oI bl) st (nI i) (wgt (A 0) i (A 0 1)) (wgt (A 0) i (A 0 1 + 1)) = fX3_heaviest_L28 N n z p x2 (oI (hst (fun t => (-1) * wgt (A 0) t (A 0 1)) bl i)) (if gq A p i = true then st ||| ((1 : Int32) <<< (nI i &&& 31)) else st) (nI (i + 1)) := by
    intro x2
    unfold fX3_heaviest_L89 fX3_heaviest_L106
    cases bl with
    | none =>
      rw [if_pos (show oI none < 0 by decide), s3]
      rfl
    | some j =>
      have hj := h2 j rfl
      rw [if_neg (show ¬ oI (some j) < 0 from nI_pos (by omega)), show oI (some j) = nI j from rfl, hm j (by omega), bo_s, s3, s3]
      have bj := b j (by omega)
      have bi := b i (by omega)
      by_cases c : wgt (A 0) j (A 0 1) ≤ wgt (A 0) i (A 0 1)
      · rw [if_pos c, show hst (fun t => (-1) * wgt (A 0) t (A 0 1)) (some j) i = some j from if_neg (neg_n bi bj c)]
        rfl
      · rw [if_neg c, show hst (fun t => (-1) * wgt (A 0) t (A 0 1)) (some j) i = some i from if_pos (neg_p bi bj c)]
        rfl
  unfold fX3_heaviest_L86
  cases bh with
  | none =>
    rw [if_pos (show oI none < 0 by decide), s2]
    rfl
  | some j =>
    have hj := h1 j rfl
    rw [if_neg (show ¬ oI (some j) < 0 from nI_pos (by omega)), show oI (some j) = nI j from rfl, hm j (by omega), bo_s, s2, s2]
    by_cases c : wgt (A 0) i (A 0 1) ≤ wgt (A 0) j (A 0 1)
    · rw [if_pos c, show hst (fun t => 1 * wgt (A 0) t (A 0 1)) (some j) i = some j from if_neg (one_n c)]
      rfl
    · rw [if_neg c, show hst (fun t => 1 * wgt (A 0) t (A 0 1)) (some j) i = some i from if_pos (one_p c)]
      rfl
theorem m_heavyL {N : Nat} {z A : St} (h : MS z A) (hI : AI A) (p : Int32) : ∀ (k n i : Nat) (bh bl : Option Nat), i + k = cnt (A 0) → k < n → (∀ j, bh = some j → j < i) → (∀ j, bl = some j → j < i) → fX3_heaviest_L28 N n z p (oI bh) (oI bl) (gnb (gq A p) i) (nI i) = some (if p = 0 then oI (owb (fun t => 1 * wgt (A 0) t (A 0 1)) k i bh) else if p = 1 then oI (owb (fun t => (-1) * wgt (A 0) t (A 0 1)) k i bl) else if p = 2 then opn (A 0 3) (A 0 2) else gnb (gq A p) (cnt (A 0)), z) := by
  obtain ⟨h8, h9⟩ := hI.1.n
  intro k
  induction k with
  | zero =>
    intro n i bh bl hi hn h1 h2
    obtain ⟨n, rfl⟩ : ∃ m, n = m + 1 := ⟨n - 1, by omega⟩
    rw [fX3_heaviest_L28, h.1.rd0, bo_s, h9, if_pos (nI_le (by omega) (by omega)), m_isAtDoor N (ρ := sb [1] z) (r := A 0) h.1, bo_s]
    unfold fX3_heaviest_L166
    rw [m_isAtDoor N (ρ := sb [1] z) (r := A 0) h.1, bo_s, bo_s]
    unfold fX3_heaviest_L182
    simp only [lt_s_]
    rw [show hgt 0 (A 0 2) = A 0 2 from rfl, show hgt 1 (A 0 2) = 20 - A 0 2 from rfl, show i = cnt (A 0) by omega]
    have ef : ∀ v5, (if p = 0 then some (oI bh, z) else if p = 1 then some (oI bl, z) else if p = 2 then some (v5, z) else some (gnb (gq A p) (cnt (A 0)), z)) = some ((if p = 0 then oI bh else if p = 1 then oI bl else if p = 2 then v5 else gnb (gq A p) (cnt (A 0))), z) := by
      intro v5
      by_cases c : p = 0
      · rw [if_pos c, if_pos c]
      · rw [if_neg c, if_neg c]
        by_cases c1 : p = 1
        · rw [if_pos c1, if_pos c1]
        · rw [if_neg c1, if_neg c1]
          by_cases c2 : p = 2
          · rw [if_pos c2, if_pos c2]
          · rw [if_neg c2, if_neg c2]
    rw [ef, ef, ef, ef]
    unfold opn
    show _ = some ((if p = 0 then oI bh else if p = 1 then oI bl else _), z)
    by_cases d0 : bitAt (A 0 3) (A 0 2) = 1
    · by_cases d1 : bitAt (A 0 3) (20 - A 0 2) = 1
      · rw [if_pos d0, if_neg (by decide), if_pos d1, if_neg (by decide), if_pos d1]
      · rw [if_pos d0, if_neg (by decide), if_neg d1, if_pos rfl, if_neg d1]
    · by_cases d1 : bitAt (A 0 3) (20 - A 0 2) = 1
      · rw [if_neg d0, if_pos rfl, if_pos d1, if_neg (by decide), if_pos d1]
      · rw [if_neg d0, if_pos rfl, if_neg d1, if_pos rfl, if_neg d1]
  | succ k ih =>
    intro n i bh bl hi hn h1 h2
    obtain ⟨n, rfl⟩ : ∃ m, n = m + 1 := ⟨n - 1, by omega⟩
    rw [m_heavyS h hI p (by omega) h1 h2]
    exact ih n (i + 1) _ _ (by omega) (by omega) (hst_lt h1) (hst_lt h2)
theorem m_heaviest {N : Nat} (hN : 300 < N) {ρ A : St} (h : MS ρ A) (hI : AI A) (p : Int32) : MO (fX3_heaviest N ρ p) (S_heaviest A p) := by
  unfold fX3_heaviest S_heaviest
  rw [j_in, bo_s]
  have hn := hI.1.n.1
  by_cases c : 0 ≤ p ∧ p ≤ 4
  · rw [if_pos c, if_neg (by decide)]
    have := m_heavyL (N := N) h hI p (cnt (A 0)) N 0 none none (by omega) (by omega) (fun j hj => by cases hj) (fun j hj => by cases hj)
    rw [show fX3_heaviest_L28 N N ρ p (-9) (-9) 0 0 = _ from this]
    have b : ∀ t d, t < 8 → A 0 1 ≤ d → 0 ≤ wgt (A 0) t d ∧ wgt (A 0) t d ≤ 60 := fun t d ht hd => wgt_b hI.1 ht hd
    have hd1 : A 0 1 ≤ A 0 1 + 1 := day_le (k := 1) hI.1 (by omega)
    by_cases c0 : p = 0
    · rw [if_pos c0, if_pos c0]; exact MO_s h
    · rw [if_neg c0, if_neg c0]
      by_cases c1 : p = 1
      · rw [if_pos c1, if_pos c1]; exact MO_s h
      · rw [if_neg c1, if_neg c1]
        by_cases c2 : p = 2
        · rw [if_pos c2, if_pos c2]; exact MO_s h
        · rw [if_neg c2, if_neg c2]
          by_cases c3 : p = 3
          · rw [if_pos c3]
            have e : gnb (gq A p) (cnt (A 0)) = gnA A 1 := gnb_c _ (fun i hi => by
              unfold gq
              rw [if_pos c3]
              exact decide_eq_decide.mpr (gn_1 (b i (A 0 1) (by omega) (Int32.le_refl _)) (b i (A 0 1 + 1) (by omega) hd1)))
            rw [e]; exact MO_s h
          · rw [if_neg c3, if_pos (show p = 4 by grind)]
            have e : gnb (gq A p) (cnt (A 0)) = gnA A (-1) := gnb_c _ (fun i hi => by
              unfold gq
              rw [if_neg c3]
              exact decide_eq_decide.mpr (gn_2 (b i (A 0 1) (by omega) (Int32.le_refl _)) (b i (A 0 1 + 1) (by omega) hd1)))
            rw [e]; exact MO_s h
  · rw [if_neg c, if_pos rfl, if_neg (show ¬ p = 0 by grind), if_neg (show ¬ p = 1 by grind), if_neg (show ¬ p = 2 by grind), if_neg (show ¬ p = 3 by grind), if_neg (show ¬ p = 4 by grind)]
    exact m_b2 N h
