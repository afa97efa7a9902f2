theorem x0_kindOf (N : Nat) {M : Nat} {τ : St} {r : Nat → Int32} (h : HR τ r) (hI : Inv M r) {t : Nat} (ht : t < cnt r) : fX0_kindOf N τ (nI t) = some (r (4 * t + 6)) := by
  have h2 := hI.n.1
  unfold fX0_kindOf
  rw [x0_hasT N h hI ht, bo_s, if_neg (by decide), rdI_n (by omega) (by omega), bo_s, (h.2.2.2.2.2.2 t (by omega)).1]
theorem x0_figureOf (N : Nat) {M : Nat} {τ : St} {r : Nat → Int32} (h : HR τ r) (hI : Inv M r) {t : Nat} (ht : t < cnt r) : fX0_figureOf N τ (nI t) = some (r (4 * t + 7)) := by
  have h2 := hI.n.1
  unfold fX0_figureOf
  rw [x0_hasT N h hI ht, bo_s, if_neg (by decide), rdI_n (by omega) (by omega), bo_s, (h.2.2.2.2.2.2 t (by omega)).2.1]
theorem x0_placeOf (N : Nat) {M : Nat} {τ : St} {r : Nat → Int32} (h : HR τ r) (hI : Inv M r) {t : Nat} (ht : t < cnt r) : fX0_placeOf N τ (nI t) = some (r (4 * t + 8)) := by
  have h2 := hI.n.1
  unfold fX0_placeOf
  rw [x0_hasT N h hI ht, bo_s, if_neg (by decide), rdI_n (by omega) (by omega), bo_s, (h.2.2.2.2.2.2 t (by omega)).2.2.1]
theorem x0_sinceOf (N : Nat) {M : Nat} {τ : St} {r : Nat → Int32} (h : HR τ r) (hI : Inv M r) {t : Nat} (ht : t < cnt r) : fX0_sinceOf N τ (nI t) = some (r (4 * t + 9)) := by
  have h2 := hI.n.1
  unfold fX0_sinceOf
  rw [x0_hasT N h hI ht, bo_s, if_neg (by decide), rdI_n (by omega) (by omega), bo_s, (h.2.2.2.2.2.2 t (by omega)).2.2.2]
theorem x0_ballastOf (N : Nat) {τ : St} {r : Nat → Int32} (h : HR τ r) {s : Nat} (hs : s < 2) : fX0_ballastOf N τ (nI s) = some (r (4 + s)) := by
  unfold fX0_ballastOf
  rw [i_side, bo_s, if_pos (show 0 ≤ nI s ∧ nI s ≤ 1 from ⟨nI_pos' (by omega), nI_le (b := 1) (by omega) (by omega)⟩), if_neg (by decide), rdI_n (by omega) (by omega), bo_s]
  rcases (show s = 0 ∨ s = 1 by omega) with rfl | rfl
  · rw [h.2.2.2.2.1]
  · rw [h.2.2.2.2.2.1]
theorem x0_weighs0 (N : Nat) {M : Nat} {τ : St} {r : Nat → Int32} (h : HR τ r) (hI : Inv M r) {t : Nat} (ht : t < cnt r) : fX0_weighs N τ (nI t) 0 = some (wgt r t (r 1)) := by
  rw [x0_weighs N h hI ht (by simp), show r 1 + 0 = r 1 by simp]
/-- the row of now becomes another -/
def wR (A : St) (r : Nat → Int32) : St := fun c => if c = 0 then r else A c
theorem wR_CS {σ A z : St} (h : CS σ A) {r : Nat → Int32} (hz : HR z r) : CS (pb [1, 2, 3, 4, 5, 6] z σ) (wR A r) := ⟨hz, h.2⟩
theorem wR_MS {ρ A z : St} (h : MS ρ A) {r : Nat → Int32} (hz : RR z 0 r) : MS (pb [1] z ρ) (wR A r) := ⟨hz, h.2⟩
theorem wR_MS1 {ρ A : St} (h : MS ρ A) {k : Nat} {v : Int32} {r : Nat → Int32} (hr : ∀ j, j < 38 → r j = if j = k then v else A 0 j) : MS (up2 ρ 1 k v) (wR A r) := by
  obtain ⟨h1, h2⟩ := h
  refine ⟨(h1.wr k v).c (fun j hj => (hr j hj).symm), h2⟩
theorem wR_AI {A : St} (h : AI A) {r : Nat → Int32} (hr : Inv 999 r) : AI (wR A r) := ⟨hr, h.2⟩
theorem Inv_hang {M : Nat} {r : Nat → Int32} (h : Inv M r) {t : Nat} (ht : t < 8) {w : Int32} (h0 : 0 ≤ w) (h1 : w ≤ 2) : Inv M (hangR r t w) := by
  obtain ⟨a1, a2, a3, a4, a5, a6, a7⟩ := id h
  obtain ⟨d, hd, hd2⟩ := a2
  have e : ∀ i, i < 6 → hangR r t w i = r i := fun i hi => by unfold hangR; rw [if_neg (by omega), if_neg (by omega)]
  unfold Inv
  rw [e 0 (by omega), e 1 (by omega), e 2 (by omega), e 3 (by omega), e 4 (by omega), e 5 (by omega)]
  refine ⟨a1, ⟨d, hd, hd2⟩, a3, a4, a5, a6, fun u hu => ?_⟩
  obtain ⟨g1, g2, g3, g4⟩ := a7 u hu
  have hp : 0 ≤ r 1 := by obtain ⟨g5, g6⟩ := g4; grind
  unfold hangR
  rw [if_neg (show ¬ 4 * u + 6 = 4 * t + 9 by omega), if_neg (show ¬ 4 * u + 6 = 4 * t + 8 by omega), if_neg (show ¬ 4 * u + 7 = 4 * t + 9 by omega), if_neg (show ¬ 4 * u + 7 = 4 * t + 8 by omega), if_neg (show ¬ 4 * u + 8 = 4 * t + 9 by omega), if_neg (show ¬ 4 * u + 9 = 4 * t + 8 by omega)]
  by_cases q : u = t
  · subst q
    rw [if_pos rfl, if_pos rfl]
    exact ⟨g1, g2, ⟨h0, h1⟩, hp, Int32.le_refl _⟩
  · rw [if_neg (by omega), if_neg (by omega)]
    exact ⟨g1, g2, g3, g4⟩
theorem Inv_bec {M : Nat} {r : Nat → Int32} (h : Inv M r) {t : Nat} (ht : t < 8) {k f : Int32} (h0 : 0 ≤ k) (h1 : k ≤ 5) (h2 : 0 ≤ f) (h3 : f ≤ 9) : Inv M (becR r t k f) := by
  obtain ⟨a1, a2, a3, a4, a5, a6, a7⟩ := id h
  have e : ∀ i, i < 6 → becR r t k f i = r i := fun i hi => by unfold becR; rw [if_neg (by omega), if_neg (by omega)]
  unfold Inv
  rw [e 0 (by omega), e 1 (by omega), e 2 (by omega), e 3 (by omega), e 4 (by omega), e 5 (by omega)]
  refine ⟨a1, a2, a3, a4, a5, a6, fun u hu => ?_⟩
  obtain ⟨g1, g2, g3, g4⟩ := a7 u hu
  unfold becR
  rw [if_neg (show ¬ 4 * u + 6 = 4 * t + 7 by omega), if_neg (show ¬ 4 * u + 7 = 4 * t + 6 by omega), if_neg (show ¬ 4 * u + 8 = 4 * t + 7 by omega), if_neg (show ¬ 4 * u + 8 = 4 * t + 6 by omega), if_neg (show ¬ 4 * u + 9 = 4 * t + 7 by omega), if_neg (show ¬ 4 * u + 9 = 4 * t + 6 by omega)]
  by_cases q : u = t
  · subst q
    rw [if_pos rfl, if_pos rfl]
    exact ⟨⟨h0, h1⟩, ⟨h2, h3⟩, g3, g4⟩
  · rw [if_neg (by omega), if_neg (by omega)]
    exact ⟨g1, g2, g3, g4⟩
/-- one of the places 2 .. 5 becomes another -/
theorem Inv_set {M : Nat} {r : Nat → Int32} (h : Inv M r) {k : Nat} (hk : 2 ≤ k) (hk5 : k ≤ 5) {v : Int32} (h2 : k = 2 → 0 ≤ v ∧ v ≤ 20) (h3 : k = 3 → ∃ w, w < 2 ^ 21 ∧ v = nI w) (h4 : k = 4 ∨ k = 5 → 0 ≤ v ∧ v ≤ 50) : Inv M (fun i => if i = k then v else r i) := by
  obtain ⟨a1, a2, a3, a4, a5, a6, a7⟩ := id h
  refine ⟨by simpa [show ¬ 0 = k by omega] using a1, by simpa [show ¬ 1 = k by omega] using a2, ?_, ?_, ?_, ?_, fun u hu => ?_⟩
  · show (0 ≤ (if 2 = k then v else r 2)) ∧ (if 2 = k then v else r 2) ≤ 20
    by_cases q : 2 = k
    · rw [if_pos q]; exact h2 q.symm
    · rw [if_neg q]; exact a3
  · show ∃ w, w < 2 ^ 21 ∧ (if 3 = k then v else r 3) = nI w
    by_cases q : 3 = k
    · rw [if_pos q]; exact h3 q.symm
    · rw [if_neg q]; exact a4
  · show (0 ≤ (if 4 = k then v else r 4)) ∧ (if 4 = k then v else r 4) ≤ 50
    by_cases q : 4 = k
    · rw [if_pos q]; exact h4 (Or.inl q.symm)
    · rw [if_neg q]; exact a5
  · show (0 ≤ (if 5 = k then v else r 5)) ∧ (if 5 = k then v else r 5) ≤ 50
    by_cases q : 5 = k
    · rw [if_pos q]; exact h4 (Or.inr q.symm)
    · rw [if_neg q]; exact a6
  · simp only [if_neg (show ¬ 4 * u + 6 = k by omega), if_neg (show ¬ 4 * u + 7 = k by omega), if_neg (show ¬ 4 * u + 8 = k by omega), if_neg (show ¬ 4 * u + 9 = k by omega), if_neg (show ¬ 1 = k by omega)]
    exact a7 u hu
/-! thing -/
def S_thing (A : St) (p1 p2 : Int32) : Int32 × St := if 0 ≤ p1 ∧ p1 < A 0 0 then (if p2 = 0 then (A 0 (4 * p1.toNatClampNeg + 6), A) else if p2 = 1 then (A 0 (4 * p1.toNatClampNeg + 7), A) else if p2 = 2 then (A 0 (4 * p1.toNatClampNeg + 8), A) else if p2 = 3 then (A 0 (4 * p1.toNatClampNeg + 9), A) else if p2 = 4 then (wgt (A 0) p1.toNatClampNeg (A 0 1), A) else (-2, rf A 2)) else (-1, rf A 1)
theorem c_thing {N : Nat} {σ A : St} (h : CS σ A) (hI : AI A) (p1 p2 : Int32) : CO (fX2_thing N σ p1 p2) (S_thing A p1 p2) := by
  unfold fX2_thing S_thing
  rw [x0_has N h.1 hI.1, bo_s]
  refine CO_t (fun c1 => ?_) (fun _ => c_b1 N h)
  obtain ⟨t, ht, ht8, rfl⟩ := thing_of hI.1 c1.1 c1.2
  rw [nI_clamp (by omega), x0_kindOf N h.1 hI.1 ht, x0_figureOf N h.1 hI.1 ht, x0_placeOf N h.1 hI.1 ht, x0_sinceOf N h.1 hI.1 ht, x0_weighs0 N h.1 hI.1 ht]
  simp only [bo_s]
  exact CO_i (fun _ => CO_s h) (fun _ => CO_i (fun _ => CO_s h) (fun _ => CO_i (fun _ => CO_s h) (fun _ => CO_i (fun _ => CO_s h) (fun _ => CO_i (fun _ => CO_s h) (fun _ => c_b2 N h)))))
theorem m_thing {N : Nat} {ρ A : St} (h : MS ρ A) (hI : AI A) (p1 p2 : Int32) : MO (fX3_thing N ρ p1 p2) (S_thing A p1 p2) := by
  unfold fX3_thing S_thing
  rw [j_thing N h.1 hI.1, bo_s]
  refine MO_t (fun c1 => ?_) (fun _ => m_b1 N h)
  obtain ⟨t, ht, ht8, rfl⟩ := thing_of hI.1 c1.1 c1.2
  rw [nI_clamp (by omega), j_in, bo_s]
  by_cases c2 : 0 ≤ p2 ∧ p2 ≤ 3
  · rw [if_pos c2, if_neg (by decide)]
    obtain ⟨w, hw, rfl⟩ := nI_of2 (x := p2) (M := 3) (n := 3) (by decide) (by grind) c2.2
    rw [m_of, bo_s, h.1.rd (by omega), bo_s]
    rcases (show w = 0 ∨ w = 1 ∨ w = 2 ∨ w = 3 by omega) with rfl | rfl | rfl | rfl <;> exact MO_s h
  · rw [if_neg c2, if_pos rfl, if_neg (show ¬ p2 = 0 by grind), if_neg (show ¬ p2 = 1 by grind), if_neg (show ¬ p2 = 2 by grind), if_neg (show ¬ p2 = 3 by grind)]
    rw [m_weighs N (ρ := sb [1] ρ) (r := A 0) h.1 ht8, bo_s]
    exact MO_i (fun _ => MO_s h) (fun _ => m_b2 N h)
/-! hangs -/
def S_hangs (A : St) (p1 p2 : Int32) : Int32 × St := if 0 ≤ p1 ∧ p1 < A 0 0 then (if 0 ≤ p2 ∧ p2 ≤ 2 then (A 0 (4 * p1.toNatClampNeg + 8), wR A (hangR (A 0) p1.toNatClampNeg p2)) else (-2, rf A 2)) else (-1, rf A 1)
theorem c_hangs {N : Nat} {σ A : St} (h : CS σ A) (hI : AI A) (p1 p2 : Int32) : CO (fX2_hangs N σ p1 p2) (S_hangs A p1 p2) := by
  unfold fX2_hangs S_hangs
  rw [x0_has N h.1 hI.1, bo_s]
  refine CO_t (fun c1 => ?_) (fun _ => c_b1 N h)
  rw [i_place, bo_s]
  refine CO_t (fun c2 => ?_) (fun _ => c_b2 N h)
  obtain ⟨t, ht, ht8, rfl⟩ := thing_of hI.1 c1.1 c1.2
  obtain ⟨z, e1, e2⟩ := x0_put N h.1 hI.1 ht c2.1 c2.2
  rw [nI_clamp (by omega), x0_placeOf N h.1 hI.1 ht, bo_s, e1, bx_s]
  exact CO_s (wR_CS h e2)
theorem m_hangs {N : Nat} {ρ A : St} (h : MS ρ A) (hI : AI A) (p1 p2 : Int32) : MO (fX3_hangs N ρ p1 p2) (S_hangs A p1 p2) := by
  unfold fX3_hangs S_hangs
  rw [j_thing N h.1 hI.1, bo_s]
  refine MO_t (fun c1 => ?_) (fun _ => m_b1 N h)
  rw [j_in, bo_s]
  refine MO_t (fun c2 => ?_) (fun _ => m_b2 N h)
  obtain ⟨t, ht, ht8, rfl⟩ := thing_of hI.1 c1.1 c1.2
  obtain ⟨z, e1, e2⟩ := m_hangsIn N (ρ := sb [1] ρ) (r := A 0) h.1 ht8 p2
  rw [nI_clamp (by omega), m_of2, bo_s, h.1.rd (by omega), bo_s, e1, by_s]
  exact MO_s (wR_MS h e2)
theorem a_hangs {A : St} (hI : AI A) (p1 p2 : Int32) : AI (S_hangs A p1 p2).2 := by
  unfold S_hangs
  by_cases c1 : 0 ≤ p1 ∧ p1 < A 0 0
  · rw [if_pos c1]
    by_cases c2 : 0 ≤ p2 ∧ p2 ≤ 2
    · rw [if_pos c2]
      obtain ⟨t, ht, ht8, rfl⟩ := thing_of hI.1 c1.1 c1.2
      rw [nI_clamp (by omega)]
      exact wR_AI hI (Inv_hang hI.1 ht8 c2.1 c2.2)
    · rw [if_neg c2]; exact rf_AI hI 2
  · rw [if_neg c1]; exact rf_AI hI 1
/-! loads -/
def S_loads (A : St) (p1 p2 : Int32) : Int32 × St := if 0 ≤ p1 ∧ p1 ≤ 1 then (if p2 < 0 then (-4, rf A 4) else if 50 < p2 then (-6, rf A 6) else (A 0 (4 + p1.toNatClampNeg), wR A (fun i => if i = 4 + p1.toNatClampNeg then p2 else A 0 i))) else (-1, rf A 1)
theorem c_loads {N : Nat} {σ A : St} (h : CS σ A) (p1 p2 : Int32) : CO (fX2_loads N σ p1 p2) (S_loads A p1 p2) := by
  unfold fX2_loads S_loads
  rw [i_side, bo_s]
  refine CO_t (fun c1 => ?_) (fun _ => c_b1 N h)
  rw [i_fault, bo_s]
  refine CO_f (badC N σ) (c_b4 N h) (c_b6 N h) (fun c2 c3 => ?_)
  obtain ⟨s, hs, rfl⟩ := side_of c1
  obtain ⟨z, e1, e2⟩ := x0_load N h.1 hs (v := p2) (by grind) (by grind)
  rw [nI_clamp (by omega), x0_ballastOf N h.1 hs, bo_s, e1, bx_s]
  exact CO_s (wR_CS h e2)
theorem m_loads {N : Nat} {ρ A : St} (h : MS ρ A) (p1 p2 : Int32) : MO (fX3_loads N ρ p1 p2) (S_loads A p1 p2) := by
  unfold fX3_loads S_loads
  rw [j_side, bo_s]
  refine MO_t (fun c1 => ?_) (fun _ => m_b1 N h)
  rw [j_wrong, bo_s]
  refine MO_f (fX3_loads_L18 N ρ p1 p2) (m_b4 N h) (m_b6 N h) (fun c2 c3 => ?_)
  obtain ⟨s, hs, rfl⟩ := side_of c1
  unfold fX3_loads_L18 fX3_sets
  rw [if_pos rfl, nI_clamp (by omega), show (4 : Int32) = nI 4 from rfl, nI_add, h.1.rd (by omega), bo_s, wrI_n (by omega) (by omega), bo_s, bx_s]
  exact MO_s (wR_MS1 h (fun _ _ => rfl))
theorem a_loads {A : St} (hI : AI A) (p1 p2 : Int32) : AI (S_loads A p1 p2).2 := by
  unfold S_loads
  by_cases c1 : 0 ≤ p1 ∧ p1 ≤ 1
  · rw [if_pos c1]
    by_cases c2 : p2 < 0
    · rw [if_pos c2]; exact rf_AI hI 4
    · rw [if_neg c2]
      by_cases c3 : 50 < p2
      · rw [if_pos c3]; exact rf_AI hI 6
      · rw [if_neg c3]
        obtain ⟨s, hs, rfl⟩ := side_of c1
        rw [nI_clamp (by omega)]
        exact wR_AI hI (Inv_set hI.1 (by omega) (by omega) (fun q => by omega) (fun q => by omega) (fun _ => ⟨by grind, by grind⟩))
  · rw [if_neg c1]; exact rf_AI hI 1
