/-! change: the loops -/
def MH (z A : St) : Prop := ∃ r, HR (sb [7, 8, 9, 10, 11, 12] z) r ∧ Inv 999 r ∧ cnt r = cnt (A 0) ∧ r 1 = A 0 1 ∧ ∀ t, t < 8 → r (4 * t + 6) = A 0 (4 * t + 6) ∧ r (4 * t + 7) = A 0 (4 * t + 7)
theorem c_shiftL {N : Nat} (hN : 300 < N) {A : St} (hI : AI A) : ∀ (k n i : Nat) (z : St), i + k = cnt (A 0) → k < n → CS z A → MH z A → (∀ j, j < i → z 23 j = shf (A 0) j) → ∃ z', fX2_reckonShifts_L13 N n z (nI i) = some z' ∧ CS z' A ∧ ∀ j, j < cnt (A 0) → z' 23 j = shf (A 0) j := by
  obtain ⟨h8, h9⟩ := hI.1.n
  intro k
  induction k with
  | zero =>
    intro n i z hi hn h hm hj
    obtain ⟨n, rfl⟩ : ∃ m, n = m + 1 := ⟨n - 1, by omega⟩
    rw [fX2_reckonShifts_L13, show z 1 3 = A 0 0 from h.1.2.2.2.1, h9, if_pos (nI_le (by omega) (by omega))]
    exact ⟨z, rfl, h, fun j q => hj j (by omega)⟩
  | succ k ih =>
    intro n i z hi hn h hm hj
    obtain ⟨n, rfl⟩ : ∃ m, n = m + 1 := ⟨n - 1, by omega⟩
    obtain ⟨r, m1, m2, m3, m4, m5⟩ := hm
    obtain ⟨g1, g2, g3, g4⟩ := hI.1.2.2.2.2.2.2 i (by omega)
    obtain ⟨z', e1, e2⟩ := x0_put N m1 m2 (t := i) (by omega) g3.1 g3.2
    have hI2 := Inv_hang m2 (t := i) (by omega) g3.1 g3.2
    have hc : CS (pb [7, 8, 9, 10, 11, 12] z' z) A := CS_mind h
    have ew : wgt (hangR r i (A 0 (4 * i + 8))) i (hangR r i (A 0 (4 * i + 8)) 1) = w0A (A 0) i := by
      unfold wgt w0A hangR
      rw [if_neg (show ¬ 4 * i + 6 = 4 * i + 9 by omega), if_neg (show ¬ 4 * i + 6 = 4 * i + 8 by omega), if_neg (show ¬ 4 * i + 7 = 4 * i + 9 by omega), if_neg (show ¬ 4 * i + 7 = 4 * i + 8 by omega), if_neg (show ¬ 1 = 4 * i + 9 by omega), if_neg (show ¬ 1 = 4 * i + 8 by omega), if_pos rfl, (m5 i (by omega)).1, (m5 i (by omega)).2, m4]
    have hc2 : cnt (hangR r i (A 0 (4 * i + 8))) = cnt (A 0) := m3
    rw [fX2_reckonShifts_L13, show z 1 3 = A 0 0 from h.1.2.2.2.1, h9, if_neg (nI_ge (by omega) (by omega)), if_neg (show ¬ (8 : Int32) ≤ nI i from nI_ge (b := 8) (by omega) (by omega)), x0_placeOf N h.1 hI.1 (by omega), bo_s, e1, bx_s, x0_weighs0 N hc.1 hI.1 (by omega), bo_s, x0_weighs0 N (τ := sb [7, 8, 9, 10, 11, 12] (pb [7, 8, 9, 10, 11, 12] z' z)) e2 hI2 (t := i) (by omega), bo_s, lt_s_, ew]
    unfold fX2_reckonShifts_L87
    rw [wrI_n (by omega) (by omega), wrI_n (by omega) (by omega), bo_s, bo_s, lt_s_, nI_1]
    have hm' : ∀ v, MH (up2 (pb [7, 8, 9, 10, 11, 12] z' z) 23 i v) A := fun v => by
      refine ⟨hangR r i (A 0 (4 * i + 8)), e2, hI2, m3, ?_, fun t ht => ?_⟩
      · unfold hangR; rw [if_neg (by omega), if_neg (by omega)]; exact m4
      · unfold hangR; rw [if_neg (by omega), if_neg (by omega), if_neg (by omega), if_neg (by omega)]; exact m5 t ht
    have hj' : ∀ v, v = shf (A 0) i → ∀ j, j < i + 1 → up2 (pb [7, 8, 9, 10, 11, 12] z' z) 23 i v 23 j = shf (A 0) j := fun v hv j q => by
      rw [up2_a]
      by_cases c : j = i
      · rw [if_pos ⟨rfl, c⟩, c, hv]
      · rw [if_neg (fun w => c w.2)]; exact hj j (by omega)
    by_cases c : A 0 (4 * i + 8) = 0
    · rw [if_pos c]
      exact ih n (i + 1) _ (by omega) (by omega) (show CS (up2 _ 23 i _) A from hc) (hm' _) (hj' _ (by unfold shf; rw [if_pos c]))
    · rw [if_neg c]
      exact ih n (i + 1) _ (by omega) (by omega) (show CS (up2 _ 23 i _) A from hc) (hm' _) (hj' _ (by unfold shf; rw [if_neg c]))
theorem shS_s (r : Nat → Int32) (B : Int32) (t : Nat) : shS r B (t + 1) = if bitAt B (nI t) = 1 then shS r B t + shf r t else shS r B t := rfl
theorem c_shOfL {N : Nat} {z A : St} (h : CS z A) (hI : AI A) (hz : ∀ j, j < cnt (A 0) → z 23 j = shf (A 0) j) (B : Int32) : ∀ (k n i : Nat), i + k = cnt (A 0) → k < n → fX2_shiftOf_L4 N z n B (shS (A 0) B i) (nI i) = some (shS (A 0) B (cnt (A 0))) := by
  obtain ⟨h8, h9⟩ := hI.1.n
  intro k
  induction k with
  | zero =>
    intro n i hi hn
    obtain ⟨n, rfl⟩ : ∃ m, n = m + 1 := ⟨n - 1, by omega⟩
    rw [fX2_shiftOf_L4, show z 1 3 = A 0 0 from h.1.2.2.2.1, h9, if_pos (nI_le (by omega) (by omega)), show i = cnt (A 0) by omega]
  | succ k ih =>
    intro n i hi hn
    obtain ⟨n, rfl⟩ : ∃ m, n = m + 1 := ⟨n - 1, by omega⟩
    rw [fX2_shiftOf_L4, show z 1 3 = A 0 0 from h.1.2.2.2.1, h9, if_neg (nI_ge (by omega) (by omega)), if_neg (show ¬ (8 : Int32) ≤ nI i from nI_ge (b := 8) (by omega) (by omega)), rdI_n (by omega) (by omega), bo_s, lt_s_, hz i (by omega)]
    unfold fX2_shiftOf_L42
    rw [lt_s_, lt_s_, nI_1]
    have := ih n (i + 1) (by omega) (by omega)
    rw [shS_s] at this
    show (if bitAt B (nI i) = 1 then _ else _) = _
    by_cases c : bitAt B (nI i) = 1
    · rw [if_pos c]; rw [if_pos c] at this; exact this
    · rw [if_neg c]; rw [if_neg c] at this; exact this
def few (b : Option Nat) : Int32 := match b with
  | none => 9
  | some j => bc (nI j)
def chq (r : Nat → Int32) (i : Nat) (b : Option Nat) : Prop := nI i &&& bitsR r 2 (cnt r) = 0 ∧ ¬ few b ≤ bc (nI i) ∧ pl (flR r (nI i) (cnt r)) (r 1) / 4 = 0
def chs (r : Nat → Int32) (i : Nat) (b : Option Nat) : Option Nat := if nI i &&& bitsR r 2 (cnt r) = 0 ∧ ¬ few b ≤ bc (nI i) ∧ pl (flR r (nI i) (cnt r)) (r 1) / 4 = 0 then some i else b
def chl (r : Nat → Int32) : Nat → Nat → Option Nat → Option Nat
  | 0, _, b => b
  | k + 1, i, b => chl r k (i + 1) (chs r i b)
theorem chl_s (r : Nat → Int32) (k i : Nat) (b : Option Nat) : chl r (k + 1) i b = chl r k (i + 1) (chs r i b) := rfl
theorem pow_le8 {n : Nat} (h : n ≤ 8) : 2 ^ n ≤ 256 := Nat.pow_le_pow_right (n := 2) (by omega) h
theorem c_chL {N : Nat} (hN : 300 < N) {z A : St} (h : CS z A) (hI : AI A) (hz : ∀ j, j < cnt (A 0) → z 23 j = shf (A 0) j) : ∀ (k n i : Nat) (b : Option Nat), i + k = 2 ^ cnt (A 0) → k < n → fX2_change_L32 N n z (pl (A 0) (A 0 1)) (bitsR (A 0) 2 (cnt (A 0))) (oI b) (few b) (nI i) = some (oI (chl (A 0) k i b), z) := by
  obtain ⟨h8, h9⟩ := hI.1.n
  have h256 := pow_le8 h8
  have e0 : (1 : Int32) <<< (z 1 3 &&& 31) = nI (2 ^ cnt (A 0)) := by rw [show z 1 3 = A 0 0 from h.1.2.2.2.1, h9]; exact shl1 (cnt (A 0)) (by omega)
  intro k
  induction k with
  | zero =>
    intro n i b hi hn
    obtain ⟨n, rfl⟩ : ∃ m, n = m + 1 := ⟨n - 1, by omega⟩
    rw [fX2_change_L32, e0, if_pos (nI_le (by omega) (by omega))]
    rfl
  | succ k ih =>
    intro n i b hi hn
    obtain ⟨n, rfl⟩ : ∃ m, n = m + 1 := ⟨n - 1, by omega⟩
    have es : fX2_shiftOf N z (nI i) = some (shS (A 0) (nI i) (cnt (A 0))) := c_shOfL h hI hz (nI i) (cnt (A 0)) N 0 (by omega) (by omega)
    rw [fX2_change_L32, e0, if_neg (nI_ge (by omega) (by omega)), es, bo_s, x0_speed, bo_s, bitc, bo_s, bo_s]
    unfold fX2_change_L87
    rw [lt_s_, lt_s_, nI_1, chl_s]
    have nx := ih n (i + 1) (chs (A 0) i b) (by omega) (by omega)
    unfold chs at nx ⊢
    by_cases c1 : nI i &&& bitsR (A 0) 2 (cnt (A 0)) = 0
    · rw [if_pos c1]
      by_cases c2 : few b ≤ bc (nI i)
      · rw [if_pos c2]
        have q : ¬ (nI i &&& bitsR (A 0) 2 (cnt (A 0)) = 0 ∧ ¬ few b ≤ bc (nI i) ∧ pl (flR (A 0) (nI i) (cnt (A 0))) (A 0 1) / 4 = 0) := fun w => w.2.1 c2
        rw [if_neg q] at nx ⊢
        exact nx
      · rw [if_neg c2]
        have ep := fl_pl hI.1 c1
        by_cases c3 : pl (flR (A 0) (nI i) (cnt (A 0))) (A 0 1) / 4 = 0
        · have q : (nI i &&& bitsR (A 0) 2 (cnt (A 0)) = 0 ∧ ¬ few b ≤ bc (nI i) ∧ pl (flR (A 0) (nI i) (cnt (A 0))) (A 0 1) / 4 = 0) := ⟨c1, c2, c3⟩
          have q2 : spd (pl (A 0) (A 0 1) + shS (A 0) (nI i) (cnt (A 0))) = 0 := (spd_0 _).mpr (by rw [← ep]; exact c3)
          rw [if_pos q] at nx ⊢
          rw [if_pos q2]
          exact nx
        · have q : ¬ (nI i &&& bitsR (A 0) 2 (cnt (A 0)) = 0 ∧ ¬ few b ≤ bc (nI i) ∧ pl (flR (A 0) (nI i) (cnt (A 0))) (A 0 1) / 4 = 0) := fun w => c3 w.2.2
          rw [if_neg q] at nx ⊢
          rw [if_neg (show ¬ spd (pl (A 0) (A 0 1) + shS (A 0) (nI i) (cnt (A 0))) = 0 from fun w => c3 (by rw [ep]; exact (spd_0 _).mp w))]
          exact nx
    · rw [if_neg c1]
      have q : ¬ (nI i &&& bitsR (A 0) 2 (cnt (A 0)) = 0 ∧ ¬ few b ≤ bc (nI i) ∧ pl (flR (A 0) (nI i) (cnt (A 0))) (A 0 1) / 4 = 0) := fun w => c1 w.1
      rw [if_neg q] at nx ⊢
      exact nx
def S_change (A : St) : Int32 × St := (oI (chl (A 0) (2 ^ cnt (A 0)) 0 none), A)
theorem c_change {N : Nat} (hN : 300 < N) {σ A : St} (h : CS σ A) (hI : AI A) : CO (fX2_change N σ) (S_change A) := by
  have h8 := hI.1.n.1
  have h256 := pow_le8 h8
  unfold fX2_change fX2_reckonShifts
  obtain ⟨z, e1, e2, e3⟩ := c_cop hN h
  obtain ⟨z1, f1, f2, f3⟩ := c_shiftL hN hI (cnt (A 0)) N 0 _ (by omega) (by omega) e2 ⟨A 0, e3, hI.1, rfl, rfl, fun t _ => ⟨rfl, rfl⟩⟩ (fun j hj => by omega)
  rw [e1, by_s, show (0 : Int32) = nI 0 from rfl, f1, by_s, x0_pull (by omega : 8 < N) f2.1 hI.1 (day_le hI.1 (k := 0) (by omega)), bo_s, x0_bits (by omega) f2.1 hI.1, bo_s]
  have ea : A 0 1 + nI 0 = A 0 1 := by show A 0 1 + 0 = _; grind
  rw [ea]
  exact ⟨z1, c_chL hN f2 hI f3 (2 ^ cnt (A 0)) N 0 none (by omega) (by omega), f2⟩
theorem m_flL {N : Nat} (hN : 300 < N) {A : St} (hI : AI A) (kk : St → Int32 → Int32 → Int32 → Option (Int32 × St)) (x1 x2 B : Int32) {S : Int32 × St} : ∀ (k n i : Nat) (z : St), i + k = cnt (A 0) → k < n → MS z A → RR (sb [2] z) 0 (flR (A 0) B i) →
    (∀ z', MS z' A → MO (kk z' x1 (if pl (flR (A 0) B (cnt (A 0))) (A 0 1) / 4 = 0 then B else x2) (B + 1)) S) → MO (fX3_change_L61 N kk n z x1 x2 B (nI i)) S := by
  obtain ⟨h8, h9⟩ := hI.1.n
  intro k
  induction k with
  | zero =>
    intro n i z hi hn h hr hk
    obtain ⟨n, rfl⟩ : ∃ m, n = m + 1 := ⟨n - 1, by omega⟩
    have ei : i = cnt (A 0) := by omega
    subst ei
    have e1 : flR (A 0) B (cnt (A 0)) 1 = A 0 1 := flR_low _ _ _ 1 (by omega)
    rw [fX3_change_L61, h.1.rd0, bo_s, h9, if_pos (nI_le (by omega) (by omega)), m_pull (by omega : 8 < N) hr (Cn_flR hI.cn B _), bo_s, e1]
    unfold fX3_change_L123
    rw [lt_s_, lt_s_]
    have := hk z h
    by_cases c : pl (flR (A 0) B (cnt (A 0))) (A 0 1) / 4 = 0
    · rw [if_pos c]; rw [if_pos c] at this; exact this
    · rw [if_neg c]; rw [if_neg c] at this; exact this
  | succ k ih =>
    intro n i z hi hn h hr hk
    obtain ⟨n, rfl⟩ : ∃ m, n = m + 1 := ⟨n - 1, by omega⟩
    have hr2 : RR z 2 (flR (A 0) B i) := hr
    rw [fX3_change_L61, h.1.rd0, bo_s, h9, if_neg (nI_ge (by omega) (by omega)), m_has, bo_s, m_of2, bo_s, hr2.rd (by omega), bo_s]
    obtain ⟨z2, e1, e2⟩ := m_hangsIn N hr (t := i) (by omega) (1 - flR (A 0) B i (4 * i + 8))
    rw [e1, by_s]
    unfold fX3_change_L103
    rw [lt_s_, lt_s_, nI_1]
    by_cases c : bitAt B (nI i) = 1
    · rw [if_pos c, if_neg (by decide)]
      refine ih n (i + 1) _ (by omega) (by omega) (MS_pb2 h) ?_ hk
      rw [flR_s, if_pos c]
      exact e2
    · rw [if_neg c, if_pos rfl]
      refine ih n (i + 1) _ (by omega) (by omega) h ?_ hk
      rw [flR_s, if_neg c]
      exact hr
theorem m_chL {N : Nat} (hN : 300 < N) {A : St} (hI : AI A) : ∀ (k n i : Nat) (b : Option Nat) (z : St), i + k = 2 ^ cnt (A 0) → k < n → MS z A → (∀ j, b = some j → j < i) → MO (fX3_change_L11 N n z (bitsR (A 0) 2 (cnt (A 0))) (oI b) (nI i)) (oI (chl (A 0) k i b), A) := by
  obtain ⟨h8, h9⟩ := hI.1.n
  have h256 := pow_le8 h8
  have e0 : (1 : Int32) <<< (A 0 0 &&& 31) = nI (2 ^ cnt (A 0)) := by rw [h9]; exact shl1 (cnt (A 0)) (by omega)
  intro k
  induction k with
  | zero =>
    intro n i b z hi hn h hb
    obtain ⟨n, rfl⟩ : ∃ m, n = m + 1 := ⟨n - 1, by omega⟩
    rw [fX3_change_L11, h.1.rd0, bo_s, e0, if_pos (nI_le (by omega) (by omega))]
    exact MO_s h
  | succ k ih =>
    intro n i b z hi hn h hb
    obtain ⟨n, rfl⟩ : ∃ m, n = m + 1 := ⟨n - 1, by omega⟩
    have hb' : ∀ j, chs (A 0) i b = some j → j < i + 1 := by
      intro j hj
      unfold chs at hj
      by_cases q : nI i &&& bitsR (A 0) 2 (cnt (A 0)) = 0 ∧ ¬ few b ≤ bc (nI i) ∧ pl (flR (A 0) (nI i) (cnt (A 0))) (A 0 1) / 4 = 0
      · rw [if_pos q] at hj; cases hj; omega
      · rw [if_neg q] at hj; have := hb j hj; omega
    rw [fX3_change_L11, h.1.rd0, bo_s, e0, if_neg (nI_ge (by omega) (by omega)), m_bitsum hN (b := i) (by omega), bo_s, chl_s]
    have nx : ∀ z', MS z' A → MO (fX3_change_L11 N n z' (bitsR (A 0) 2 (cnt (A 0))) (oI (chs (A 0) i b)) (nI (i + 1))) (oI (chl (A 0) k (i + 1) (chs (A 0) i b)), A) := fun z' h' => ih n (i + 1) (chs (A 0) i b) z' (by omega) (by omega) h' hb'
    have skip : chs (A 0) i b = b → MO (fX3_change_L123 N (fX3_change_L11 N n) z (bitsR (A 0) 2 (cnt (A 0))) (oI b) (nI i)) (oI (chl (A 0) k (i + 1) (chs (A 0) i b)), A) := fun e => by
      unfold fX3_change_L123
      rw [lt_s_, nI_1]
      have := nx z h
      rw [e] at this ⊢
      exact this
    have goes : nI i &&& bitsR (A 0) 2 (cnt (A 0)) = 0 → ¬ few b ≤ bc (nI i) → MO (fX3_change_L47 N (fX3_change_L11 N n) z (bitsR (A 0) 2 (cnt (A 0))) (oI b) (nI i)) (oI (chl (A 0) k (i + 1) (chs (A 0) i b)), A) := fun q1 q2 => by
      unfold fX3_change_L47
      obtain ⟨z2, e1, e2, e3⟩ := m_cop hN h
      rw [e1, by_s]
      refine m_flL hN hI _ _ _ _ (cnt (A 0)) N 0 _ (by omega) (by omega) e2 e3 (fun z' h' => ?_)
      rw [nI_1]
      have := nx z' h'
      unfold chs at this ⊢
      by_cases c : pl (flR (A 0) (nI i) (cnt (A 0))) (A 0 1) / 4 = 0
      · rw [if_pos c]; rw [if_pos ⟨q1, q2, c⟩] at this ⊢; exact this
      · have q : ¬ (nI i &&& bitsR (A 0) 2 (cnt (A 0)) = 0 ∧ ¬ few b ≤ bc (nI i) ∧ pl (flR (A 0) (nI i) (cnt (A 0))) (A 0 1) / 4 = 0) := fun w => c w.2.2
        rw [if_neg c]; rw [if_neg q] at this ⊢; exact this
    by_cases c1 : nI i &&& bitsR (A 0) 2 (cnt (A 0)) = 0
    · rw [if_pos c1]
      cases b with
      | none =>
        rw [if_pos (show oI none < 0 by decide)]
        exact goes c1 (bc_9 i (by omega))
      | some j =>
        have hj := hb j rfl
        rw [if_neg (show ¬ oI (some j) < 0 from nI_nn (by omega)), show fX3_bits N (oI (some j)) = some (bc (nI j)) from m_bitsum hN (b := j) (by omega), bo_s]
        by_cases c2 : bc (nI i) < bc (nI j)
        · rw [if_pos c2]
          exact goes c1 (show ¬ bc (nI j) ≤ bc (nI i) by grind)
        · rw [if_neg c2]
          refine skip ?_
          unfold chs
          exact if_neg (fun w => w.2.1 (show bc (nI j) ≤ bc (nI i) by grind))
    · rw [if_neg c1]
      refine skip ?_
      unfold chs
      exact if_neg (fun w => c1 w.1)
theorem m_change {N : Nat} (hN : 300 < N) {ρ A : St} (h : MS ρ A) (hI : AI A) : MO (fX3_change N ρ) (S_change A) := by
  have h256 := pow_le8 hI.1.n.1
  unfold fX3_change
  rw [m_bits (by omega) h.1 hI.cn, bo_s]
  exact m_chL hN hI (2 ^ cnt (A 0)) N 0 none ρ (by omega) (by omega) h (fun j hj => by cases hj)
