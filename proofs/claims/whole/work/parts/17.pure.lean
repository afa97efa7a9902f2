/-! days -/
def S_days (A : St) (p1 : Int32) : Int32 × St := if p1 < 1 then (-4, rf A 4) else if 60 < p1 then (-6, rf A 6) else (if A 0 1 + p1 ≤ 999 then (fla (A 0) p1.toNatClampNeg, wR A (adv (A 0) p1.toNatClampNeg)) else (-6, rf A 6))
theorem days_of {p : Int32} (h0 : ¬ p < 1) (h1 : ¬ 60 < p) : ∃ k, 1 ≤ k ∧ k ≤ 60 ∧ p = nI k := by
  obtain ⟨k, hk, rfl⟩ := upto_of (p := p) (g := 60) (by omega) (by grind) h1
  refine ⟨k, ?_, hk, rfl⟩
  rcases Nat.lt_or_ge k 1 with q | q
  · exact absurd (nI_lt (b := 1) q (by omega)) h0
  · exact q
theorem c_days {N : Nat} (hN : 300 < N) {σ A : St} (h : CS σ A) (hI : AI A) (p1 : Int32) : CO (fX2_days N σ p1) (S_days A p1) := by
  unfold fX2_days S_days
  rw [i_fault, bo_s]
  refine CO_f (badC N σ) (c_b4 N h) (c_b6 N h) (fun c1 c2 => ?_)
  obtain ⟨k, h1, hk, rfl⟩ := days_of c1 c2
  unfold fX0_hasDays
  rw [if_neg c1, if_neg c2]
  have e : sb [1, 2, 3, 4, 5, 6] σ 0 2 = A 0 1 := h.1.2.2.1
  rw [e, nI_clamp (by omega)]
  by_cases c3 : A 0 1 + nI k ≤ 999
  · obtain ⟨z, e1, e2⟩ := x0_pass (by omega : 100 < N) h.1 hI.1 h1 hk c3
    have h4 := wR_CS h e2
    rw [if_neg (by grind), zr1, bo_s, if_neg (by decide), e1, bx_s, if_pos c3]
    have e3 : pb [1, 2, 3, 4, 5, 6] z σ 1 0 = fla (A 0) k := h4.1.1
    rw [e3]
    exact CO_s h4
  · rw [if_pos (by grind), zr0, bo_s, if_pos rfl, if_neg c3]
    exact c_b6 N h
theorem m_days' {N : Nat} (hN : 300 < N) {ρ A : St} (h : MS ρ A) (hI : AI A) (p1 : Int32) : MO (fX3_days N ρ p1) (S_days A p1) := by
  unfold fX3_days S_days
  by_cases c1 : p1 < 1
  · rw [if_neg (show ¬ 1 ≤ p1 by grind), if_pos c1]; exact m_b4 N h
  · rw [if_pos (show 1 ≤ p1 by grind), if_neg c1]
    refine MO_i (fun _ => m_b6 N h) (fun c2 => ?_)
    obtain ⟨k, h1, hk, rfl⟩ := days_of c1 c2
    rw [h.1.rd1, bo_s, nI_clamp (by omega)]
    refine MO_i (fun c3 => ?_) (fun _ => m_b6 N h)
    obtain ⟨z, e1, e2⟩ := m_days (by omega : 100 < N) hI.cn (m := k) (by omega) (ρ := sb [1] ρ) h.1
    rw [e1, by_s]
    have h4 := wR_MS h e2
    rw [h4.1.rd2, bo_s]
    exact MO_s h4
theorem a_days {A : St} (hI : AI A) (p1 : Int32) : AI (S_days A p1).2 := by
  unfold S_days
  by_cases c1 : p1 < 1
  · rw [if_pos c1]; exact rf_AI hI 4
  · rw [if_neg c1]
    by_cases c2 : 60 < p1
    · rw [if_pos c2]; exact rf_AI hI 6
    · rw [if_neg c2]
      by_cases c3 : A 0 1 + p1 ≤ 999
      · rw [if_pos c3]
        obtain ⟨k, h1, hk, rfl⟩ := days_of c1 c2
        rw [nI_clamp (by omega)]
        refine wR_AI hI ?_
        obtain ⟨q1, ⟨d, hd, hd2⟩, q3⟩ := adv_Inv hI.1 (k := k) (by omega)
        refine ⟨q1, ⟨d, ?_, hd2⟩, q3⟩
        have e : A 0 1 + nI k = nI d := hd2
        rw [e] at c3
        rcases Nat.lt_or_ge 999 d with q | q
        · exact absurd c3 (nI_ge (a := 999) q (by omega))
        · exact q
      · rw [if_neg c3]; exact rf_AI hI 6
/-! weighsThen, pull -/
def S_weighsThen (A : St) (p1 p2 : Int32) : Int32 × St := if 0 ≤ p1 ∧ p1 < A 0 0 then (if p2 < 0 then (-4, rf A 4) else if 60 < p2 then (-6, rf A 6) else (wgt (A 0) p1.toNatClampNeg (A 0 1 + p2), A)) else (-1, rf A 1)
theorem day_le {M : Nat} {r : Nat → Int32} (hI : Inv M r) {k : Nat} (hk : M + k < 2 ^ 31) : r 1 ≤ r 1 + nI k := by
  obtain ⟨d, hd, hd2⟩ := hI.2.1
  rw [hd2, nI_add]
  exact nI_le (by omega) (by omega)
theorem c_weighsThen {N : Nat} {σ A : St} (h : CS σ A) (hI : AI A) (p1 p2 : Int32) : CO (fX2_weighsThen N σ p1 p2) (S_weighsThen A p1 p2) := by
  unfold fX2_weighsThen S_weighsThen
  rw [x0_has N h.1 hI.1, bo_s]
  refine CO_t (fun c1 => ?_) (fun _ => c_b1 N h)
  rw [i_fault, bo_s]
  refine CO_f (badC N σ) (c_b4 N h) (c_b6 N h) (fun c2 c3 => ?_)
  obtain ⟨t, ht, ht8, rfl⟩ := thing_of hI.1 c1.1 c1.2
  obtain ⟨k, hk, rfl⟩ := upto_of (g := 60) (by omega) c2 c3
  rw [nI_clamp (by omega), x0_weighs N h.1 hI.1 ht (day_le hI.1 (by omega)), bo_s]
  exact CO_s h
theorem m_weighsThen {N : Nat} {ρ A : St} (h : MS ρ A) (hI : AI A) (p1 p2 : Int32) : MO (fX3_weighsThen N ρ p1 p2) (S_weighsThen A p1 p2) := by
  unfold fX3_weighsThen S_weighsThen
  rw [j_thing N h.1 hI.1, bo_s]
  refine MO_t (fun c1 => ?_) (fun _ => m_b1 N h)
  rw [j_wrong, bo_s]
  refine MO_f (fX3_weighsThen_L19 N ρ p1 p2) (m_b4 N h) (m_b6 N h) (fun c2 c3 => ?_)
  obtain ⟨t, ht, ht8, rfl⟩ := thing_of hI.1 c1.1 c1.2
  unfold fX3_weighsThen_L19
  rw [if_pos rfl, h.1.rd1, bo_s, nI_clamp (by omega), m_weighsOn N (ρ := sb [1] ρ) (r := A 0) h.1 ht8, bo_s]
  exact MO_s h
def S_pull (A : St) (p1 : Int32) : Int32 × St := if p1 < 0 then (1000000000 - (-4), rf A 4) else if 60 < p1 then (1000000000 - (-6), rf A 6) else (pl (A 0) (A 0 1 + p1), A)
theorem c_pull {N : Nat} (hN : 300 < N) {σ A : St} (h : CS σ A) (hI : AI A) (p1 : Int32) : CO (fX2_pull N σ p1) (S_pull A p1) := by
  unfold fX2_pull S_pull
  rw [i_fault, bo_s]
  refine CO_f (fun v => bx (fX2_refuse N σ v) (fun uq => uq) (fun v4 z3 => some ((1000000000 - v4), z3))) ?_ ?_ (fun c2 c3 => ?_)
  · obtain ⟨z, e1, e2⟩ := c_refuse N h (k := 4) (w := -4) (by omega) (by omega) (by decide)
    simp only [e1, bx_s]; exact CO_s e2
  · obtain ⟨z, e1, e2⟩ := c_refuse N h (k := 6) (w := -6) (by omega) (by omega) (by decide)
    simp only [e1, bx_s]; exact CO_s e2
  · obtain ⟨k, hk, rfl⟩ := upto_of (g := 60) (by omega) c2 c3
    rw [x0_pull (by omega) h.1 hI.1 (day_le hI.1 (by omega)), bo_s]
    exact CO_s h
theorem m_pull' {N : Nat} (hN : 300 < N) {ρ A : St} (h : MS ρ A) (hI : AI A) (p1 : Int32) : MO (fX3_pull N ρ p1) (S_pull A p1) := by
  unfold fX3_pull S_pull
  rw [j_wrong, bo_s]
  refine MO_f (fun v => if v = 0 then by_ (fX3_takes N ρ p1) (fun uq => uq) (fun z2 => bo (fX3_pullIn N (sb [2] z2)) (fun v3 => some (v3, z2))) else bx (fX3_noFar N ρ v) (fun uq => uq) (fun v5 z4 => some (v5, z4))) ?_ ?_ (fun c2 c3 => ?_)
  · obtain ⟨z, e1, e2⟩ := m_no N h (k := 4) (w := -4) (by omega) (by decide)
    unfold fX3_noFar
    simp only [e1, bx_s]; exact MO_s e2
  · obtain ⟨z, e1, e2⟩ := m_no N h (k := 6) (w := -6) (by omega) (by decide)
    unfold fX3_noFar
    simp only [e1, bx_s]; exact MO_s e2
  · obtain ⟨k, hk, rfl⟩ := upto_of (g := 60) (by omega) c2 c3
    obtain ⟨z, e1, e2, e3⟩ := m_takes hN h hI hk
    have e4 := m_pull (by omega : 8 < N) e3 (adv_cn hI.cn k)
    simp only [e1, by_s, e4, bo_s]
    rw [if_pos trivial, adv_pl]
    exact MO_s e2
/-! row, judge, clear -/
def wK (A : St) (v n : Int32) : St := fun c => if c = 3 then (fun j => if j = nK A then v else A 3 j) else if c = 5 then (fun j => if j = 2 then n else A 5 j) else A c
def S_row (A : St) (p1 : Int32) : Int32 × St := if p1 < 0 then (-4, rf A 4) else if 99 < p1 then (-6, rf A 6) else (if A 5 2 = 16 then (-6, rf A 6) else (A 5 2 + 1, wK A p1 (A 5 2 + 1)))
theorem wK_nK {A : St} (hI : AI A) (h : nK A < 16) (v : Int32) : nK (wK A v (A 5 2 + 1)) = nK A + 1 := by
  show (A 5 2 + 1).toNatClampNeg = _
  rw [hI.2.2.2.2.2.1.2, nI_1, nI_clamp (by omega)]
theorem row_lt {A : St} (hI : AI A) (c : ¬ A 5 2 = 16) : nK A < 16 := by
  obtain ⟨h1, h2⟩ := hI.2.2.2.2.2.1
  rcases Nat.lt_or_ge (nK A) 16 with q | q
  · exact q
  · exact absurd (by rw [h2, show nK A = 16 by omega]; rfl) c
theorem c_row {N : Nat} {σ A : St} (h : CS σ A) (hI : AI A) (p1 : Int32) : CO (fX2_row N σ p1) (S_row A p1) := by
  unfold fX2_row S_row
  rw [i_fault, bo_s]
  refine CO_f (badC N σ) (c_b4 N h) (c_b6 N h) (fun c2 c3 => ?_)
  obtain ⟨h1, h2, h3, h4, h5, h6, h7, h8⟩ := id h
  rw [h6]
  by_cases c : A 5 2 = 16
  · rw [if_neg (by rw [c]; decide), if_pos c]; exact c_b6 N h
  · have hl := row_lt hI c
    have e : A 5 2 = nI (nK A) := hI.2.2.2.2.2.1.2
    rw [if_pos (by rw [e]; exact nI_lt (b := 16) hl (by omega)), if_neg c, e, wrI_n hl (by omega), bo_s, lt_s_, lt_s_]
    have e2 : up2 σ 27 (nK A) p1 0 12 = nI (nK A) := by rw [up2_a]; simpa [e] using h6
    rw [e2, up2_a, if_pos ⟨rfl, rfl⟩]
    refine CO_s ?_
    have e3 : nK (wK A p1 (nI (nK A) + 1)) = nK A + 1 := by rw [← e]; exact wK_nK hI hl p1
    refine ⟨h1, h2, h3, h4, h5, ?_, fun k hk => ?_, h8⟩
    · rw [up2_a]; rfl
    · rw [e3] at hk
      rw [up2_a, up2_a]
      show _ = if k = nK A then p1 else A 3 k
      by_cases q : k = nK A
      · simp [q]
      · simp [q, h7 k (by omega)]
theorem m_row {N : Nat} {ρ A : St} (h : MS ρ A) (hI : AI A) (p1 : Int32) : MO (fX3_row N ρ p1) (S_row A p1) := by
  unfold fX3_row S_row
  rw [j_wrong, bo_s]
  obtain ⟨h1, h2, h3, h4, h5, h6, h7, h8⟩ := id h
  refine MO_f (fun v => if v = 0 then (if ρ 0 9 = 16 then fX3_row_L24 N ρ p1 (-6) else fX3_row_L24 N ρ p1 v) else fX3_row_L24 N ρ p1 v) (m_b4 N h) (m_b6 N h) (fun c2 c3 => ?_)
  rw [if_pos rfl, h6]
  refine MO_i (fun _ => m_b6 N h) (fun c => ?_)
  have hl := row_lt hI c
  have e : A 5 2 = nI (nK A) := hI.2.2.2.2.2.1.2
  unfold fX3_row_L24
  rw [if_pos rfl, h6, e, wrI_n hl (by omega), bo_s, lt_s_, lt_s_]
  have e2 : up2 ρ 6 (nK A) p1 0 9 = nI (nK A) := by rw [up2_a]; simpa [e] using h6
  rw [e2, up2_a, if_pos ⟨rfl, rfl⟩]
  refine MO_s ?_
  have e3 : nK (wK A p1 (nI (nK A) + 1)) = nK A + 1 := by rw [← e]; exact wK_nK hI hl p1
  refine ⟨h1, h2, h3, h4, h5, ?_, fun k hk => ?_, h8⟩
  · rw [up2_a]; rfl
  · rw [e3] at hk
    rw [up2_a, up2_a]
    show _ = if k = nK A then p1 else A 3 k
    by_cases q : k = nK A
    · simp [q]
    · simp [q, h7 k (by omega)]
theorem a_row {A : St} (hI : AI A) (p1 : Int32) : AI (S_row A p1).2 := by
  unfold S_row
  by_cases c1 : p1 < 0
  · rw [if_pos c1]; exact rf_AI hI 4
  · rw [if_neg c1]
    by_cases c2 : 99 < p1
    · rw [if_pos c2]; exact rf_AI hI 6
    · rw [if_neg c2]
      by_cases c : A 5 2 = 16
      · rw [if_pos c]; exact rf_AI hI 6
      · rw [if_neg c]
        have hl := row_lt hI c
        have e3 := wK_nK hI hl p1
        obtain ⟨g1, g2, g3, g4, g5, g6, g7⟩ := id hI
        refine ⟨g1, g2, g3, g4, g5, ?_, fun k hk => ?_⟩
        · rw [e3]
          refine ⟨by omega, ?_⟩
          show A 5 2 + 1 = _
          rw [g6.2, nI_1]
        · rw [e3] at hk
          show 0 ≤ (if k = nK A then p1 else A 3 k) ∧ (if k = nK A then p1 else A 3 k) ≤ 99
          by_cases q : k = nK A
          · rw [if_pos q]; exact ⟨by grind, by grind⟩
          · rw [if_neg q]; exact g7 k (by omega)
/-- the ROW has none then -/
def w0 (A : St) : St := fun c => if c = 5 then (fun j => if j = 2 then 0 else A 5 j) else A c
theorem w0_nK (A : St) : nK (w0 A) = 0 := rfl
theorem w0_CS {σ A : St} (h : CS σ A) : CS (up2 σ 0 12 0) (w0 A) := by
  obtain ⟨h1, h2, h3, h4, h5, h6, h7, h8⟩ := h
  exact ⟨h1, h2, h3, h4, h5, rfl, fun k hk => by rw [w0_nK] at hk; omega, h8⟩
theorem w0_MS {ρ A : St} (h : MS ρ A) : MS (up2 ρ 0 9 0) (w0 A) := by
  obtain ⟨h1, h2, h3, h4, h5, h6, h7, h8⟩ := h
  exact ⟨h1, h2, h3, h4, h5, rfl, fun k hk => by rw [w0_nK] at hk; omega, h8⟩
theorem w0_AI {A : St} (h : AI A) : AI (w0 A) := by
  obtain ⟨g1, g2, g3, g4, g5, g6, g7⟩ := h
  exact ⟨g1, g2, g3, g4, g5, ⟨by rw [w0_nK]; omega, rfl⟩, fun k hk => by rw [w0_nK] at hk; omega⟩
theorem c_clear {N : Nat} {σ A : St} (h : CS σ A) : CO (fX2_clear N σ) (A 5 2, w0 A) := by
  unfold fX2_clear
  rw [lt_s_, h.2.2.2.2.2.1]
  exact CO_s (w0_CS h)
theorem m_clear {N : Nat} {ρ A : St} (h : MS ρ A) : MO (fX3_clear N ρ) (A 5 2, w0 A) := by
  unfold fX3_clear
  rw [lt_s_, h.2.2.2.2.2.1]
  exact MO_s (w0_MS h)
