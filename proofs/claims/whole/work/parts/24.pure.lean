/-! two -/
def hX (r : Nat → Int32) (t x : Nat) : Nat → Int32 := if x = 0 then hangR r t 2 else r
def oXY (r : Nat → Int32) (a b x y : Nat) : Nat → Int32 := hX (hX r a x) b y
theorem hX_Inv {M : Nat} {r : Nat → Int32} (h : Inv M r) {t : Nat} (ht : t < 8) (x : Nat) : Inv M (hX r t x) := by
  unfold hX
  by_cases c : x = 0
  · rw [if_pos c]; exact Inv_hang h ht (by decide) (by decide)
  · rw [if_neg c]; exact h
theorem hX_cnt (r : Nat → Int32) (t x : Nat) : cnt (hX r t x) = cnt r := by
  unfold hX
  by_cases c : x = 0
  · rw [if_pos c]; rfl
  · rw [if_neg c]
theorem hX_Cn {r : Nat → Int32} (h : Cn r) (t x : Nat) : Cn (hX r t x) := by
  unfold hX
  by_cases c : x = 0
  · rw [if_pos c]; exact h
  · rw [if_neg c]; exact h
def gAB (A : St) (w a b n : Nat) (x y : Nat) : Int32 := hgt (A 0 (4 * w + 8)) (fla (oXY (A 0) a b x y) n) + (if w = a then nI x else nI y)
/-- neither has more by another one alone -/
def stq (A : St) (a b n : Nat) (k : Nat) : Bool := decide (¬ gAB A a a b n (k / 2) (k % 2) < gAB A a a b n (1 - k / 2) (k % 2)) && decide (¬ gAB A b a b n (k / 2) (k % 2) < gAB A b a b n (k / 2) (1 - k % 2))
def tw (q : Nat → Bool) : Nat → Nat → Int32
  | 0, _ => -9
  | k + 1, i => if q i = true then 10 * nI (i / 2) + nI (i % 2) else tw q k (i + 1)
theorem tw_s (q : Nat → Bool) (k i : Nat) : tw q (k + 1) i = if q i = true then 10 * nI (i / 2) + nI (i % 2) else tw q k (i + 1) := rfl
theorem and2 : ∀ i, i < 4 → (nI i &&& 2 = 0 ↔ i / 2 = 0) := by decide
theorem and1 : ∀ i, i < 4 → (nI i &&& 1 = 0 ↔ i % 2 = 0) := by decide
theorem xor2 : ∀ i, i < 4 → nI i ^^^ 2 = nI (2 * (1 - i / 2) + i % 2) := by decide
theorem xor1 : ∀ i, i < 4 → nI i ^^^ 1 = nI (2 * (i / 2) + (1 - i % 2)) := by decide
theorem val4 : ∀ i, i < 4 → 10 * (nI i >>> ((1 : Int32) &&& 31)) + (nI i &&& 1) = 10 * nI (i / 2) + nI (i % 2) := by decide
theorem c_putX {N : Nat} {z A : St} (h : CS z A) {r : Nat → Int32} (hI : Inv 999 r) (hm : HR (sb [7, 8, 9, 10, 11, 12] z) r) {t : Nat} (ht : t < cnt r) : ∃ z', fX0_put N (sb [7, 8, 9, 10, 11, 12] z) (nI t) 2 = some (1, z') ∧ CS (pb [7, 8, 9, 10, 11, 12] z' z) A ∧ HR (sb [7, 8, 9, 10, 11, 12] (pb [7, 8, 9, 10, 11, 12] z' z)) (hangR r t 2) := by
  obtain ⟨z', e1, e2⟩ := x0_put N hm hI ht (w := 2) (by decide) (by decide)
  exact ⟨z', e1, h, e2⟩
theorem c_outcL {N : Nat} (hN : 300 < N) {A : St} (hI : AI A) {a b n : Nat} (ha : a < cnt (A 0)) (hb : b < cnt (A 0)) (hn : n ≤ 30) : ∀ (k m i : Nat) (z : St), i + k = 4 → k < m → CS z A → (∀ j, j < i → z 24 j = fla (oXY (A 0) a b (j / 2) (j % 2)) n) → ∃ z', fX2_reckonOutcomes_L3 N m z (nI a) (nI b) (nI n) (nI i) = some z' ∧ CS z' A ∧ ∀ j, j < 4 → z' 24 j = fla (oXY (A 0) a b (j / 2) (j % 2)) n := by
  have h8 := hI.1.n.1
  intro k
  induction k with
  | zero =>
    intro m i z hi hm h hz
    obtain ⟨m, rfl⟩ : ∃ q, m = q + 1 := ⟨m - 1, by omega⟩
    rw [fX2_reckonOutcomes_L3, if_pos (show (4 : Int32) ≤ nI i from nI_le (a := 4) (by omega) (by omega))]
    exact ⟨z, rfl, h, fun j hj => hz j (by omega)⟩
  | succ k ih =>
    intro m i z hi hm h hz
    obtain ⟨m, rfl⟩ : ∃ q, m = q + 1 := ⟨m - 1, by omega⟩
    obtain ⟨z1, e1, e2, e3⟩ := c_cop hN h
    have hz1 : ∀ j, j < i → pb [7, 8, 9, 10, 11, 12, 1, 2, 3, 4, 5, 6] z1 z 24 j = fla (oXY (A 0) a b (j / 2) (j % 2)) n := hz
    rw [fX2_reckonOutcomes_L3, if_neg (show ¬ (4 : Int32) ≤ nI i from nI_ge (b := 4) (by omega) (by omega)), e1, by_s]
    generalize pb [7, 8, 9, 10, 11, 12, 1, 2, 3, 4, 5, 6] z1 z = y at e2 e3 hz1 ⊢
    have last : ∀ y' r, CS y' A → HR (sb [7, 8, 9, 10, 11, 12] y') r → Inv 999 r → (∀ j, j < i → y' 24 j = fla (oXY (A 0) a b (j / 2) (j % 2)) n) → r = oXY (A 0) a b (i / 2) (i % 2) → ∃ z', fX2_reckonOutcomes_L58 N (fX2_reckonOutcomes_L3 N m) y' (nI a) (nI b) (nI n) (nI i) = some z' ∧ CS z' A ∧ ∀ j, j < 4 → z' 24 j = fla (oXY (A 0) a b (j / 2) (j % 2)) n := by
      intro y' r hy hr hIr hzz er
      unfold fX2_reckonOutcomes_L58
      rw [x0_floor (by omega : 100 < N) hr hIr (by omega) (m := n) (by omega), bo_s, wrI_n (by omega) (by omega), bo_s, lt_s_, nI_1]
      refine ih m (i + 1) _ (by omega) (by omega) hy (fun j hj => ?_)
      rw [up2_a]
      by_cases q : j = i
      · rw [if_pos ⟨rfl, q⟩, q, er]
      · rw [if_neg (fun w => q w.2)]; exact hzz j (by omega)
    have mid : ∀ y' r, CS y' A → HR (sb [7, 8, 9, 10, 11, 12] y') r → Inv 999 r → cnt r = cnt (A 0) → (∀ j, j < i → y' 24 j = fla (oXY (A 0) a b (j / 2) (j % 2)) n) → r = hX (A 0) a (i / 2) → ∃ z', fX2_reckonOutcomes_L41 N (fX2_reckonOutcomes_L3 N m) y' (nI a) (nI b) (nI n) (nI i) = some z' ∧ CS z' A ∧ ∀ j, j < 4 → z' 24 j = fla (oXY (A 0) a b (j / 2) (j % 2)) n := by
      intro y' r hy hr hIr hc hzz er
      unfold fX2_reckonOutcomes_L41
      by_cases c : i % 2 = 0
      · rw [if_pos ((and1 i (by omega)).mpr c)]
        obtain ⟨z', g1, g2, g3⟩ := c_putX (N := N) hy hIr hr (t := b) (by rw [hc]; exact hb)
        rw [g1, bx_s]
        exact last _ _ g2 g3 (Inv_hang hIr (by omega) (by decide) (by decide)) hzz (by rw [er]; unfold oXY; exact (if_pos c).symm)
      · rw [if_neg (fun q => c ((and1 i (by omega)).mp q))]
        exact last _ _ hy hr hIr hzz (by rw [er]; unfold oXY; exact (if_neg c).symm)
    by_cases c : i / 2 = 0
    · rw [if_pos ((and2 i (by omega)).mpr c)]
      obtain ⟨z', g1, g2, g3⟩ := c_putX (N := N) e2 hI.1 e3 (t := a) ha
      rw [g1, bx_s]
      exact mid _ _ g2 g3 (Inv_hang hI.1 (by omega) (by decide) (by decide)) rfl hz1 (if_pos c).symm
    · rw [if_neg (fun q => c ((and2 i (by omega)).mp q))]
      exact mid _ _ e2 e3 hI.1 rfl hz1 (if_neg c).symm
theorem c_gainT (N : Nat) {A z : St} {a b n : Nat} (hz : ∀ j, j < 4 → z 24 j = fla (oXY (A 0) a b (j / 2) (j % 2)) n) {x y : Nat} (hx : x < 2) (hy : y < 2) (w : Nat) {hold : Int32} {e : Int32} (he : (nI (2 * x + y) &&& hold = 0 ∧ e = 0) ∨ (¬ nI (2 * x + y) &&& hold = 0 ∧ e = 1)) : fX2_gain N z (nI (2 * x + y)) hold (A 0 (4 * w + 8)) = some (hgt (A 0 (4 * w + 8)) (fla (oXY (A 0) a b x y) n) + e) := by
  unfold fX2_gain
  rw [if_neg (nI_pos (by omega)), if_pos (show nI (2 * x + y) < 4 from nI_lt (b := 4) (by omega) (by omega)), rdI_n (by omega) (by omega), bo_s, hz _ (by omega), show (2 * x + y) / 2 = x by omega, show (2 * x + y) % 2 = y by omega, x0_height, bo_s]
  rcases he with ⟨h1, h2⟩ | ⟨h1, h2⟩
  · rw [if_pos h1, h2]
  · rw [if_neg h1, h2]
theorem h2 : ∀ x, x < 2 → ∀ y, y < 2 → (nI (2 * x + y) &&& 2 = 0 ∧ nI x = 0) ∨ (¬ nI (2 * x + y) &&& 2 = 0 ∧ nI x = 1) := by decide
theorem h1 : ∀ x, x < 2 → ∀ y, y < 2 → (nI (2 * x + y) &&& 1 = 0 ∧ nI y = 0) ∨ (¬ nI (2 * x + y) &&& 1 = 0 ∧ nI y = 1) := by decide
theorem c_set2 (N : Nat) {A z : St} {a b n : Nat} (hab : a ≠ b) (hz : ∀ j, j < 4 → z 24 j = fla (oXY (A 0) a b (j / 2) (j % 2)) n) {i : Nat} (hi : i < 4) : fX2_isSettled N z (nI i) 2 (A 0 (4 * a + 8)) = some (if ¬ gAB A a a b n (i / 2) (i % 2) < gAB A a a b n (1 - i / 2) (i % 2) then 1 else 0) := by
  unfold fX2_isSettled
  have e1 := c_gainT N hz (x := i / 2) (y := i % 2) (by omega) (by omega) a (hold := 2) (e := nI (i / 2)) (h2 _ (by omega) _ (by omega))
  have e2 := c_gainT N hz (x := 1 - i / 2) (y := i % 2) (by omega) (by omega) a (hold := 2) (e := nI (1 - i / 2)) (h2 _ (by omega) _ (by omega))
  rw [show 2 * (i / 2) + i % 2 = i by omega] at e1
  rw [e1, bo_s, xor2 i hi, e2, bo_s, zr0, zr1]
  unfold gAB
  rw [if_pos rfl, if_pos rfl]
  grind
theorem c_set1 (N : Nat) {A z : St} {a b n : Nat} (hab : a ≠ b) (hz : ∀ j, j < 4 → z 24 j = fla (oXY (A 0) a b (j / 2) (j % 2)) n) {i : Nat} (hi : i < 4) : fX2_isSettled N z (nI i) 1 (A 0 (4 * b + 8)) = some (if ¬ gAB A b a b n (i / 2) (i % 2) < gAB A b a b n (i / 2) (1 - i % 2) then 1 else 0) := by
  unfold fX2_isSettled
  have e1 := c_gainT N hz (x := i / 2) (y := i % 2) (by omega) (by omega) b (hold := 1) (e := nI (i % 2)) (h1 _ (by omega) _ (by omega))
  have e2 := c_gainT N hz (x := i / 2) (y := 1 - i % 2) (by omega) (by omega) b (hold := 1) (e := nI (1 - i % 2)) (h1 _ (by omega) _ (by omega))
  rw [show 2 * (i / 2) + i % 2 = i by omega] at e1
  rw [e1, bo_s, xor1 i hi, e2, bo_s, zr0, zr1]
  unfold gAB
  rw [if_neg (Ne.symm hab), if_neg (Ne.symm hab)]
  grind
theorem stq_e (A : St) (a b n k : Nat) : stq A a b n k = true ↔ (¬ gAB A a a b n (k / 2) (k % 2) < gAB A a a b n (1 - k / 2) (k % 2)) ∧ (¬ gAB A b a b n (k / 2) (k % 2) < gAB A b a b n (k / 2) (1 - k % 2)) := by
  unfold stq
  rw [Bool.and_eq_true, decide_eq_true_iff, decide_eq_true_iff]
theorem c_twoL {N : Nat} {A z : St} (h : CS z A) (hI : AI A) {a b n : Nat} (hab : a ≠ b) (ha : a < cnt (A 0)) (hb : b < cnt (A 0)) (hz : ∀ j, j < 4 → z 24 j = fla (oXY (A 0) a b (j / 2) (j % 2)) n) : ∀ (k m i : Nat), i + k = 4 → k < m → fX2_two_L95 N m z (nI a) (nI b) (nI i) = some (tw (stq A a b n) k i, z) := by
  intro k
  induction k with
  | zero =>
    intro m i hi hm
    obtain ⟨m, rfl⟩ : ∃ q, m = q + 1 := ⟨m - 1, by omega⟩
    rw [fX2_two_L95, if_pos (show (4 : Int32) ≤ nI i from nI_le (a := 4) (by omega) (by omega))]
    rfl
  | succ k ih =>
    intro m i hi hm
    obtain ⟨m, rfl⟩ : ∃ q, m = q + 1 := ⟨m - 1, by omega⟩
    rw [fX2_two_L95, if_neg (show ¬ (4 : Int32) ≤ nI i from nI_ge (b := 4) (by omega) (by omega)), x0_placeOf N h.1 hI.1 ha, bo_s, c_set2 N hab hz (by omega), bo_s, x0_placeOf N h.1 hI.1 hb, bo_s, c_set1 N hab hz (by omega), bo_s, tw_s]
    unfold fX2_two_L154
    rw [lt_s_, nI_1, ih m (i + 1) (by omega) (by omega), val4 i (by omega)]
    have es := stq_e A a b n i
    by_cases c1 : ¬ gAB A a a b n (i / 2) (i % 2) < gAB A a a b n (1 - i / 2) (i % 2)
    · by_cases c2 : ¬ gAB A b a b n (i / 2) (i % 2) < gAB A b a b n (i / 2) (1 - i % 2)
      · rw [if_pos c1, if_neg (by decide), if_pos c2, if_neg (by decide), if_pos (es.mpr ⟨c1, c2⟩)]
      · rw [if_pos c1, if_neg (by decide), if_neg c2, if_pos rfl, if_neg (fun q => c2 (es.mp q).2)]
    · rw [if_neg c1, if_pos rfl, if_neg (fun q => c1 (es.mp q).1)]
def S_two (A : St) (p1 p2 p3 : Int32) : Int32 × St := if 0 ≤ p1 ∧ p1 < A 0 0 then (if 0 ≤ p2 ∧ p2 < A 0 0 then (if p1 = p2 then (-1, rf A 1) else (if p3 < 0 then (-4, rf A 4) else if 30 < p3 then (-6, rf A 6) else (if A 0 (4 * p1.toNatClampNeg + 8) = 2 then (-3, rf A 3) else if A 0 (4 * p2.toNatClampNeg + 8) = 2 then (-3, rf A 3) else (tw (stq A p1.toNatClampNeg p2.toNatClampNeg p3.toNatClampNeg) 4 0, A)))) else (-1, rf A 1)) else (-1, rf A 1)
theorem c_two {N : Nat} (hN : 300 < N) {σ A : St} (h : CS σ A) (hI : AI A) (p1 p2 p3 : Int32) : CO (fX2_two N σ p1 p2 p3) (S_two A p1 p2 p3) := by
  unfold fX2_two S_two
  rw [x0_has N h.1 hI.1, bo_s]
  refine CO_t (fun c1 => ?_) (fun _ => c_b1 N h)
  rw [x0_has N h.1 hI.1, bo_s]
  refine CO_t (fun c2 => ?_) (fun _ => c_b1 N h)
  refine CO_i (fun _ => c_b1 N h) (fun c3 => ?_)
  rw [i_fault, bo_s]
  refine CO_f (badC N σ) (c_b4 N h) (c_b6 N h) (fun c4 c5 => ?_)
  obtain ⟨a, ha, ha8, rfl⟩ := thing_of hI.1 c1.1 c1.2
  obtain ⟨b, hb, hb8, rfl⟩ := thing_of hI.1 c2.1 c2.2
  obtain ⟨k, hk, rfl⟩ := upto_of (g := 30) (by omega) c4 c5
  rw [nI_clamp (by omega), nI_clamp (by omega), nI_clamp (by omega), x0_placeOf N h.1 hI.1 ha, bo_s]
  refine CO_i (fun _ => c_b3 N h) (fun _ => ?_)
  rw [x0_placeOf N h.1 hI.1 hb, bo_s]
  refine CO_i (fun _ => c_b3 N h) (fun _ => ?_)
  have hab : a ≠ b := fun q => c3 (by rw [q])
  unfold fX2_reckonOutcomes
  obtain ⟨z, e1, e2, e3⟩ := c_outcL hN hI ha hb hk 4 N 0 σ (by omega) (by omega) h (fun j hj => by omega)
  rw [show fX2_reckonOutcomes_L3 N N σ (nI a) (nI b) (nI k) 0 = some z from e1, by_s]
  have := c_twoL (N := N) e2 hI hab ha hb e3 4 N 0 (by omega) (by omega)
  rw [show fX2_two_L95 N N z (nI a) (nI b) 0 = _ from this]
  exact CO_s e2
theorem m_hangX {N : Nat} {z A : St} (h : MS z A) {r : Nat → Int32} (hr : RR (sb [2] z) 0 r) {t : Nat} (ht : t < 8) : ∃ z', fX3_hangsIn N (sb [2] z) (nI t) 2 = some z' ∧ MS (pb [2] z' z) A ∧ RR (sb [2] (pb [2] z' z)) 0 (hangR r t 2) := by
  obtain ⟨z', e1, e2⟩ := m_hangsIn N hr ht 2
  exact ⟨z', e1, h, e2⟩
theorem m_hasBy {N : Nat} (hN : 300 < N) {ρ A : St} (h : MS ρ A) (hI : AI A) {w a b n x y : Nat} (hw : w < 8) (ha : a < 8) (hb : b < 8) (hn : n ≤ 30) (hx : x < 2) (hy : y < 2) : MO (fX3_hasBy N ρ (nI w) (nI a) (nI x) (nI b) (nI y) (nI n)) (gAB A w a b n x y, A) := by
  unfold fX3_hasBy
  obtain ⟨z, e1, e2, e3⟩ := m_cop hN h
  rw [e1, by_s, m_of2, bo_s, e2.1.rd (by omega), bo_s]
  generalize pb [1, 2] z ρ = q at e2 e3 ⊢
  have last : ∀ q' r, MS q' A → RR (sb [2] q') 0 r → Cn r → r = oXY (A 0) a b x y → MO (fX3_hasBy_L51 N q' (nI w) (nI a) (nI x) (nI y) (nI n) (A 0 (4 * w + 8))) (gAB A w a b n x y, A) := by
    intro q' r hq hr hc er
    unfold fX3_hasBy_L51
    obtain ⟨z2, g1, g2⟩ := m_days (by omega : 100 < N) hc (m := n) (by omega) hr
    rw [g1, by_s, m_floorOf N (ρ := sb [2] (pb [2] z2 q')) g2, bo_s]
    unfold gAB
    have e4 : adv r n 2 = fla (oXY (A 0) a b x y) n := by rw [er]; rfl
    rw [e4]
    by_cases c : w = a
    · rw [if_pos (by rw [c]), if_pos c]; exact MO_s (MS_pb2 hq)
    · rw [if_neg (fun k => c ((nI_eq (by omega) (by omega)).mp k)), if_neg c]; exact MO_s (MS_pb2 hq)
  have mid : ∀ q' r, MS q' A → RR (sb [2] q') 0 r → Cn r → r = hX (A 0) a x → MO (fX3_hasBy_L36 N q' (nI w) (nI a) (nI x) (nI b) (nI y) (nI n) (A 0 (4 * w + 8))) (gAB A w a b n x y, A) := by
    intro q' r hq hr hc er
    unfold fX3_hasBy_L36
    by_cases c : y = 0
    · rw [if_pos (show nI y = 0 by rw [c]; rfl)]
      obtain ⟨z2, g1, g2, g3⟩ := m_hangX (N := N) hq hr hb
      rw [g1, by_s]
      exact last _ _ g2 g3 hc (by rw [er]; unfold oXY; exact (if_pos c).symm)
    · rw [if_neg (nI_ne0 (by omega) (by omega))]
      exact last _ _ hq hr hc (by rw [er]; unfold oXY; exact (if_neg c).symm)
  by_cases c : x = 0
  · rw [if_pos (show nI x = 0 by rw [c]; rfl)]
    obtain ⟨z2, g1, g2, g3⟩ := m_hangX (N := N) e2 e3 ha
    rw [g1, by_s]
    exact mid _ _ g2 g3 hI.cn (if_pos c).symm
  · rw [if_neg (nI_ne0 (by omega) (by omega))]
    exact mid _ _ e2 e3 hI.cn (if_neg c).symm
theorem dm4 : ∀ i, i < 4 → nI i / 2 = nI (i / 2) ∧ nI i - nI i / 2 * 2 = nI (i % 2) ∧ 1 - nI (i / 2) = nI (1 - i / 2) ∧ 1 - nI (i % 2) = nI (1 - i % 2) := by decide
theorem m_twoL {N : Nat} (hN : 300 < N) {A : St} (hI : AI A) {a b n : Nat} (ha : a < 8) (hb : b < 8) (hn : n ≤ 30) : ∀ (k m i : Nat) (z : St), i + k = 4 → k < m → MS z A → MO (fX3_two_L86 N m z (nI a) (nI b) (nI n) (nI i)) (tw (stq A a b n) k i, A) := by
  intro k
  induction k with
  | zero =>
    intro m i z hi hm h
    obtain ⟨m, rfl⟩ : ∃ q, m = q + 1 := ⟨m - 1, by omega⟩
    rw [fX3_two_L86, if_pos (show (4 : Int32) ≤ nI i from nI_le (a := 4) (by omega) (by omega))]
    exact MO_s h
  | succ k ih =>
    intro m i z hi hm h
    obtain ⟨m, rfl⟩ : ∃ q, m = q + 1 := ⟨m - 1, by omega⟩
    obtain ⟨d1, d2, d3, d4⟩ := dm4 i (by omega)
    rw [fX3_two_L86, if_neg (show ¬ (4 : Int32) ≤ nI i from nI_ge (b := 4) (by omega) (by omega)), lt_s_, d2, d1, lt_s_, d3, d4, tw_s]
    have es := stq_e A a b n i
    refine MO_b (m_hasBy hN h hI ha ha hb hn (by omega) (by omega)) (fun z1 h1 => ?_)
    refine MO_b (m_hasBy hN h1 hI ha ha hb hn (by omega) (by omega)) (fun z2 h2 => ?_)
    unfold fX3_two_L171
    simp only [lt_s_, nI_1]
    by_cases c1 : gAB A a a b n (i / 2) (i % 2) < gAB A a a b n (1 - i / 2) (i % 2)
    · rw [if_pos c1, if_neg (fun q => (es.mp q).1 c1)]
      exact ih m (i + 1) z2 (by omega) (by omega) h2
    · rw [if_neg c1]
      refine MO_b (m_hasBy hN h2 hI hb ha hb hn (by omega) (by omega)) (fun z3 h3 => ?_)
      refine MO_b (m_hasBy hN h3 hI hb ha hb hn (by omega) (by omega)) (fun z4 h4 => ?_)
      by_cases c2 : gAB A b a b n (i / 2) (i % 2) < gAB A b a b n (i / 2) (1 - i % 2)
      · rw [if_pos c2, if_neg (fun q => (es.mp q).2 c2)]
        exact ih m (i + 1) z4 (by omega) (by omega) h4
      · rw [if_neg c2, if_pos (es.mpr ⟨c1, c2⟩)]
        exact MO_s h4
theorem m_two {N : Nat} (hN : 300 < N) {ρ A : St} (h : MS ρ A) (hI : AI A) (p1 p2 p3 : Int32) : MO (fX3_two N ρ p1 p2 p3) (S_two A p1 p2 p3) := by
  unfold fX3_two S_two
  rw [j_thing N h.1 hI.1, bo_s]
  refine MO_t (fun c1 => ?_) (fun _ => m_b1 N h)
  rw [j_thing N h.1 hI.1, bo_s]
  refine MO_t (fun c2 => ?_) (fun _ => m_b1 N h)
  refine MO_i (fun _ => m_b1 N h) (fun c3 => ?_)
  rw [j_wrong, bo_s]
  refine MO_f (fX3_two_L32 N ρ p1 p2 p3) (m_b4 N h) (m_b6 N h) (fun c4 c5 => ?_)
  obtain ⟨a, ha, ha8, rfl⟩ := thing_of hI.1 c1.1 c1.2
  obtain ⟨b, hb, hb8, rfl⟩ := thing_of hI.1 c2.1 c2.2
  obtain ⟨k, hk, rfl⟩ := upto_of (g := 30) (by omega) c4 c5
  unfold fX3_two_L32
  rw [if_pos rfl, nI_clamp (by omega), nI_clamp (by omega), nI_clamp (by omega), m_of2, bo_s, h.1.rd (by omega), bo_s]
  refine MO_i (fun _ => m_b3 N h) (fun _ => ?_)
  rw [m_of2, bo_s, h.1.rd (by omega), bo_s]
  refine MO_i (fun _ => m_b3 N h) (fun _ => ?_)
  exact m_twoL hN hI ha8 hb8 hk 4 N 0 ρ (by omega) (by omega) h
