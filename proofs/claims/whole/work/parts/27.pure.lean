/-! whatIs -/
def rk (A : St) (r : Nat → Int32) : Nat → Nat → Bool
  | 0, _ => true
  | k + 1, i => decide (fla r i = A 3 i) && rk A r k (i + 1)
theorem rk_s (A : St) (r : Nat → Int32) (k i : Nat) : rk A r (k + 1) i = (decide (fla r i = A 3 i) && rk A r k (i + 1)) := rfl
def bI (b : Bool) : Int32 := if b = true then 1 else 0
theorem c_asRowL {N : Nat} {A z : St} (h : CS z A) (hI : AI A) {r : Nat → Int32} (hz : ∀ j, j < nK A → z 21 j = fla r j) : ∀ (k n i : Nat), i + k = nK A → k < n → fX2_isAsRowTells_L19 N n z (nI i) = some (bI (rk A r k i), z) := by
  obtain ⟨h8, h9⟩ := hI.2.2.2.2.2.1
  have e0 : z 0 12 = nI (nK A) := by rw [← h9]; exact h.2.2.2.2.2.1
  intro k
  induction k with
  | zero =>
    intro n i hi hn
    obtain ⟨n, rfl⟩ : ∃ m, n = m + 1 := ⟨n - 1, by omega⟩
    rw [fX2_isAsRowTells_L19, e0, if_pos (nI_le (by omega) (by omega)), zr1, bo_s]
    rfl
  | succ k ih =>
    intro n i hi hn
    obtain ⟨n, rfl⟩ : ∃ m, n = m + 1 := ⟨n - 1, by omega⟩
    rw [fX2_isAsRowTells_L19, e0, if_neg (nI_ge (by omega) (by omega)), if_neg (show ¬ (16 : Int32) ≤ nI i from nI_ge (b := 16) (by omega) (by omega)), if_neg (show ¬ (71 : Int32) ≤ nI i from nI_ge (b := 71) (by omega) (by omega)), rdI_n (by omega) (by omega), bo_s, rdI_n (by omega) (by omega), bo_s, lt_s_, nI_1, zr0, bo_s, hz i (by omega), h.2.2.2.2.2.2.1 i (by omega), ih n (i + 1) (by omega) (by omega), rk_s]
    by_cases c : fla r i = A 3 i
    · rw [if_pos c.symm, decide_eq_true c]; rfl
    · rw [if_neg (fun q => c q.symm), decide_eq_false c]; rfl
theorem c_asRow {N : Nat} (hN : 300 < N) {A z : St} (h : CS z A) (hI : AI A) {r : Nat → Int32} (hr : HR (sb [7, 8, 9, 10, 11, 12] z) r) (hIr : Inv 999 r) : ∃ z', fX2_isAsRowTells N z = some (bI (rk A r (nK A) 0), z') ∧ CS z' A ∧ HR (sb [7, 8, 9, 10, 11, 12] z') r := by
  obtain ⟨h8, h9⟩ := hI.2.2.2.2.2.1
  have e0 : z 0 12 = nI (nK A) := by rw [← h9]; exact h.2.2.2.2.2.1
  unfold fX2_isAsRowTells
  rw [e0]
  have key : ∃ z1, fX0_foresee N (sb [7, 8, 9, 10, 11, 12, 21] z) (nI (nK A) - 1) = some z1 ∧ HR z1 r ∧ ∀ j, j < nK A → z1 6 j = fla r j := by
    by_cases c : nK A = 0
    · unfold fX0_foresee
      obtain ⟨n, rfl⟩ : ∃ m, N = m + 1 := ⟨N - 1, by omega⟩
      rw [fX0_foresee_L8, c, if_pos (by decide)]
      exact ⟨_, rfl, hr, fun j hj => by omega⟩
    · rw [show nI (nK A) - 1 = nI (nK A - 1) from by rw [show nK A = (nK A - 1) + 1 by omega, ← nI_1]; grind]
      obtain ⟨z', e1, e2, e3⟩ := x0_foresee (by omega : 100 < N) hIr (by omega) (m := nK A - 1) (by omega) (σ := sb [7, 8, 9, 10, 11, 12, 21] z) hr
      exact ⟨z', e1, e2, fun j hj => e3 j (by omega)⟩
  obtain ⟨z1, e1, e2, e3⟩ := key
  rw [e1, by_s]
  have hc : CS (pb [7, 8, 9, 10, 11, 12, 21] z1 z) A := h
  exact ⟨_, c_asRowL hc hI e3 (nK A) N 0 (by omega) (by omega), hc, e2⟩
def qK (A : St) (t v : Nat) : Bool := rk A (kndR (A 0) t (nI v)) (nK A) 0
def qF (A : St) (t v : Nat) : Bool := rk A (figR (A 0) t (nI v)) (nK A) 0
theorem gnb_s (q : Nat → Bool) (t : Nat) : gnb q (t + 1) = if q t = true then gnb q t ||| ((1 : Int32) <<< (nI t &&& 31)) else gnb q t := rfl
theorem c_kbrL {N : Nat} (hN : 300 < N) {A : St} (hI : AI A) {t : Nat} (ht : t < cnt (A 0)) : ∀ (k n i : Nat) (z : St), i + k = 6 → k < n → CS z A → MB z A t → CO (fX2_kindsByRow_L15 N n z (nI t) (gnb (qK A t) i) (nI i)) (gnb (qK A t) 6, A) := by
  have h8 := hI.1.n.1
  intro k
  induction k with
  | zero =>
    intro n i z hi hn h hb
    obtain ⟨n, rfl⟩ : ∃ m, n = m + 1 := ⟨n - 1, by omega⟩
    rw [fX2_kindsByRow_L15, if_pos (show (6 : Int32) ≤ nI i from nI_le (a := 6) (by omega) (by omega)), show i = 6 by omega]
    exact CO_s h
  | succ k ih =>
    intro n i z hi hn h hb
    obtain ⟨n, rfl⟩ : ∃ m, n = m + 1 := ⟨n - 1, by omega⟩
    obtain ⟨g1, g2, g3, g4⟩ := hI.1.2.2.2.2.2.2 t (by omega)
    have hf : 0 ≤ nI i ∧ nI i ≤ 5 := ⟨nI_pos' (by omega), nI_le (b := 5) (by omega) (by omega)⟩
    have hIf := Inv_knd hI.1 (t := t) (by omega) hf.1 hf.2
    obtain ⟨z', e1, e2, e3⟩ := c_bec (N := N) h hI ht hb hf g2
    obtain ⟨z4, e4, e5, e6⟩ := c_asRow hN e2 hI (r := kndR (A 0) t (nI i)) e3 hIf
    rw [fX2_kindsByRow_L15, if_neg (show ¬ (6 : Int32) ≤ nI i from nI_ge (b := 6) (by omega) (by omega)), x0_figureOf N h.1 hI.1 ht, bo_s, e1, by_s, e4, bx_s, lt_s_]
    unfold fX2_kindsByRow_L51
    rw [lt_s_, lt_s_, nI_1]
    have := ih n (i + 1) z4 (by omega) (by omega) e5 ⟨_, _, hf, g2, e6⟩
    rw [gnb_s] at this
    show CO (if bI (qK A t i) = 0 then _ else _) _
    cases c : qK A t i with
    | true => rw [c, if_pos rfl] at this; exact this
    | false => rw [c, if_neg (by decide)] at this; exact this
theorem c_fbrL {N : Nat} (hN : 300 < N) {A : St} (hI : AI A) {t : Nat} (ht : t < cnt (A 0)) : ∀ (k n i : Nat) (z : St), i + k = 10 → k < n → CS z A → MB z A t → CO (fX2_figuresByRow_L15 N n z (nI t) (gnb (qF A t) i) (nI i)) (gnb (qF A t) 10, A) := by
  have h8 := hI.1.n.1
  intro k
  induction k with
  | zero =>
    intro n i z hi hn h hb
    obtain ⟨n, rfl⟩ : ∃ m, n = m + 1 := ⟨n - 1, by omega⟩
    rw [fX2_figuresByRow_L15, if_pos (show (9 : Int32) < nI i from nI_lt (a := 9) (by omega) (by omega)), show i = 10 by omega]
    exact CO_s h
  | succ k ih =>
    intro n i z hi hn h hb
    obtain ⟨n, rfl⟩ : ∃ m, n = m + 1 := ⟨n - 1, by omega⟩
    obtain ⟨g1, g2, g3, g4⟩ := hI.1.2.2.2.2.2.2 t (by omega)
    have hf : 0 ≤ nI i ∧ nI i ≤ 9 := ⟨nI_pos' (by omega), nI_le (b := 9) (by omega) (by omega)⟩
    have hIf := Inv_fig hI.1 (t := t) (by omega) hf.1 hf.2
    obtain ⟨z', e1, e2, e3⟩ := c_bec (N := N) h hI ht hb g1 hf
    obtain ⟨z4, e4, e5, e6⟩ := c_asRow hN e2 hI (r := figR (A 0) t (nI i)) e3 hIf
    rw [fX2_figuresByRow_L15, if_neg (show ¬ (9 : Int32) < nI i from nI_nlt (a := 9) (by omega) (by omega)), x0_kindOf N h.1 hI.1 ht, bo_s, e1, by_s, e4, bx_s, lt_s_]
    unfold fX2_figuresByRow_L51
    rw [lt_s_, lt_s_, nI_1]
    have := ih n (i + 1) z4 (by omega) (by omega) e5 ⟨_, _, g1, hf, e6⟩
    rw [gnb_s] at this
    show CO (if bI (qF A t i) = 0 then _ else _) _
    cases c : qF A t i with
    | true => rw [c, if_pos rfl] at this; exact this
    | false => rw [c, if_neg (by decide)] at this; exact this
def S_whatIs (A : St) (p1 p2 : Int32) : Int32 × St := if 0 ≤ p1 ∧ p1 < A 0 0 then (if p2 = 0 then (gnb (qK A p1.toNatClampNeg) 6, A) else if p2 = 1 then (gnb (qF A p1.toNatClampNeg) 10, A) else (-2, rf A 2)) else (-1, rf A 1)
theorem c_whatIs {N : Nat} (hN : 300 < N) {σ A : St} (h : CS σ A) (hI : AI A) (p1 p2 : Int32) : CO (fX2_whatIs N σ p1 p2) (S_whatIs A p1 p2) := by
  unfold fX2_whatIs S_whatIs
  rw [x0_has N h.1 hI.1, bo_s]
  refine CO_t (fun c1 => ?_) (fun _ => c_b1 N h)
  obtain ⟨t, ht, ht8, rfl⟩ := thing_of hI.1 c1.1 c1.2
  rw [nI_clamp (by omega)]
  obtain ⟨z, e1, e2, e3⟩ := c_cop hN h
  refine CO_i (fun _ => CO_u ?_) (fun _ => CO_i (fun _ => CO_u ?_) (fun _ => c_b2 N h))
  · unfold fX2_kindsByRow
    rw [e1, by_s]
    exact c_kbrL hN hI ht 6 N 0 _ (by omega) (by omega) e2 (MB_0 hI ht8 e3)
  · unfold fX2_figuresByRow
    rw [e1, by_s]
    exact c_fbrL hN hI ht 10 N 0 _ (by omega) (by omega) e2 (MB_0 hI ht8 e3)
theorem m_rkL {N : Nat} (hN : 300 < N) {A : St} (hI : AI A) {r : Nat → Int32} (hc : Cn r) (kk : St → Int32 → Int32 → Int32 → Int32 → Option (Int32 × St)) (x1 x2 x3 x4 : Int32) {S : Int32 × St} : ∀ (k n i : Nat) (z : St) (b : Bool), i + k = nK A → k < n → MS z A → RR (sb [2] z) 0 (adv r i) →
    (∀ z', MS z' A → MO (kk z' x1 x2 (if (b && rk A r k i) = true then x3 ||| ((1 : Int32) <<< (x4 &&& 31)) else x3) (x4 + 1)) S) → MO (fX3_whatIs_L80 N kk n z x1 x2 x3 x4 (bI b) (nI i)) S := by
  obtain ⟨h8, h9⟩ := hI.2.2.2.2.2.1
  intro k
  induction k with
  | zero =>
    intro n i z b hi hn h hr hk
    obtain ⟨n, rfl⟩ : ∃ m, n = m + 1 := ⟨n - 1, by omega⟩
    have e0 : z 0 9 = nI (nK A) := by rw [← h9]; exact h.2.2.2.2.2.1
    rw [fX3_whatIs_L80, e0, if_pos (nI_le (by omega) (by omega))]
    unfold fX3_whatIs_L143
    have := hk z h
    cases b with
    | true => rw [if_neg (by decide), lt_s_, lt_s_]; exact this
    | false => rw [if_pos (by decide), lt_s_, lt_s_, Int32.or_zero]; exact this
  | succ k ih =>
    intro n i z b hi hn h hr hk
    obtain ⟨n, rfl⟩ : ∃ m, n = m + 1 := ⟨n - 1, by omega⟩
    have e0 : z 0 9 = nI (nK A) := by rw [← h9]; exact h.2.2.2.2.2.1
    have hr2 : RR z 2 (adv r i) := hr
    obtain ⟨z2, e1, e2⟩ := m_dayA (by omega : 8 < N) (ρ := sb [2] z) (r := r) (k := i) hr hc
    rw [fX3_whatIs_L80, e0, if_neg (nI_ge (by omega) (by omega)), hr2.rd2, bo_s, rdI_n (by omega) (by omega), bo_s, h.2.2.2.2.2.2.1 i (by omega)]
    unfold fX3_whatIs_L112
    rw [e1]
    simp only [lt_s_, by_s, nI_1]
    rw [show adv r i 2 = fla r i from rfl]
    have nx := ih n (i + 1) (pb [2] z2 z) (b && decide (fla r i = A 3 i)) (by omega) (by omega) (MS_pb2 h) e2 (fun z' h' => by
      have := hk z' h'
      rw [rk_s, ← Bool.and_assoc] at this
      exact this)
    by_cases c : fla r i = A 3 i
    · rw [if_pos c]
      rw [decide_eq_true c] at nx
      cases b with
      | true => exact nx
      | false => exact nx
    · rw [if_neg c]
      rw [decide_eq_false c] at nx
      cases b with
      | true => exact nx
      | false => exact nx
theorem m_kbrL {N : Nat} (hN : 300 < N) {A : St} (hI : AI A) {t : Nat} (ht : t < 8) : ∀ (k n i : Nat) (z : St), i + k = 6 → k < n → MS z A → MO (fX3_whatIs_L35 N n z (nI t) 0 (gnb (qK A t) i) (nI i)) (gnb (qK A t) 6, A) := by
  have h16 := hI.2.2.2.2.2.1.1
  intro k
  induction k with
  | zero =>
    intro n i z hi hn h
    obtain ⟨n, rfl⟩ : ∃ m, n = m + 1 := ⟨n - 1, by omega⟩
    rw [fX3_whatIs_L35, if_pos rfl]
    unfold fX3_whatIs_L48
    rw [if_pos (show (6 : Int32) ≤ nI i from nI_le (a := 6) (by omega) (by omega)), show i = 6 by omega]
    exact MO_s h
  | succ k ih =>
    intro n i z hi hn h
    obtain ⟨n, rfl⟩ : ∃ m, n = m + 1 := ⟨n - 1, by omega⟩
    obtain ⟨z2, e1, e2, e3⟩ := m_cop hN h
    obtain ⟨g1, g2⟩ := m_setR e2 e3 (4 * t + 6) (nI i)
    have hcn : Cn (setR (A 0) (4 * t + 6) (nI i)) := by have := hI.cn; unfold Cn cnt setR; rw [if_neg (by omega)]; exact this
    have eq : setR (A 0) (4 * t + 6) (nI i) = kndR (A 0) t (nI i) := by
      funext j
      unfold setR kndR becR
      by_cases c : j = 4 * t + 6
      · rw [if_pos c, if_neg (by omega)]
      · rw [if_neg c]
        by_cases c2 : j = 4 * t + 7
        · rw [if_pos c2, c2]
        · rw [if_neg c2]
    rw [fX3_whatIs_L35, if_pos rfl]
    unfold fX3_whatIs_L48
    rw [if_neg (show ¬ (6 : Int32) ≤ nI i from nI_ge (b := 6) (by omega) (by omega)), e1, by_s, m_of0, bo_s, wrI_n (by omega) (by omega), bo_s]
    refine m_rkL hN hI (r := setR (A 0) (4 * t + 6) (nI i)) hcn _ _ _ _ _ (nK A) N 0 _ true (by omega) (by omega) g1 (RR.c g2 (fun j _ => (adv_0 _ j).symm)) (fun z' h' => ?_)
    rw [nI_1, eq]
    have := ih n (i + 1) z' (by omega) (by omega) h'
    rw [gnb_s] at this
    exact this
theorem m_fbrL {N : Nat} (hN : 300 < N) {A : St} (hI : AI A) {t : Nat} (ht : t < 8) : ∀ (k n i : Nat) (z : St), i + k = 10 → k < n → MS z A → MO (fX3_whatIs_L35 N n z (nI t) 1 (gnb (qF A t) i) (nI i)) (gnb (qF A t) 10, A) := by
  have h16 := hI.2.2.2.2.2.1.1
  intro k
  induction k with
  | zero =>
    intro n i z hi hn h
    obtain ⟨n, rfl⟩ : ∃ m, n = m + 1 := ⟨n - 1, by omega⟩
    rw [fX3_whatIs_L35, if_neg (by decide)]
    unfold fX3_whatIs_L48
    rw [if_pos (show (10 : Int32) ≤ nI i from nI_le (a := 10) (by omega) (by omega)), show i = 10 by omega]
    exact MO_s h
  | succ k ih =>
    intro n i z hi hn h
    obtain ⟨n, rfl⟩ : ∃ m, n = m + 1 := ⟨n - 1, by omega⟩
    obtain ⟨z2, e1, e2, e3⟩ := m_cop hN h
    obtain ⟨g1, g2⟩ := m_setR e2 e3 (4 * t + 7) (nI i)
    have hcn : Cn (setR (A 0) (4 * t + 7) (nI i)) := by have := hI.cn; unfold Cn cnt setR; rw [if_neg (by omega)]; exact this
    have eq : setR (A 0) (4 * t + 7) (nI i) = figR (A 0) t (nI i) := by
      funext j
      unfold setR figR becR
      by_cases c : j = 4 * t + 7
      · rw [if_pos c, if_pos c]
      · rw [if_neg c, if_neg c]
        by_cases c2 : j = 4 * t + 6
        · rw [if_pos c2, c2]
        · rw [if_neg c2]
    rw [fX3_whatIs_L35, if_neg (by decide)]
    unfold fX3_whatIs_L48
    rw [if_neg (show ¬ (10 : Int32) ≤ nI i from nI_ge (b := 10) (by omega) (by omega)), e1, by_s, m_of1, bo_s, wrI_n (by omega) (by omega), bo_s]
    refine m_rkL hN hI (r := setR (A 0) (4 * t + 7) (nI i)) hcn _ _ _ _ _ (nK A) N 0 _ true (by omega) (by omega) g1 (RR.c g2 (fun j _ => (adv_0 _ j).symm)) (fun z' h' => ?_)
    rw [nI_1, eq]
    have := ih n (i + 1) z' (by omega) (by omega) h'
    rw [gnb_s] at this
    exact this
theorem m_whatIs {N : Nat} (hN : 300 < N) {ρ A : St} (h : MS ρ A) (hI : AI A) (p1 p2 : Int32) : MO (fX3_whatIs N ρ p1 p2) (S_whatIs A p1 p2) := by
  unfold fX3_whatIs S_whatIs
  rw [j_thing N h.1 hI.1, bo_s]
  refine MO_t (fun c1 => ?_) (fun _ => m_b1 N h)
  obtain ⟨t, ht, ht8, rfl⟩ := thing_of hI.1 c1.1 c1.2
  rw [j_in, bo_s, nI_clamp (by omega)]
  by_cases c0 : p2 = 0
  · subst c0
    rw [if_pos (show (0 : Int32) ≤ 0 ∧ (0 : Int32) ≤ 1 by decide), if_neg (by decide), if_pos rfl]
    exact m_kbrL hN hI ht8 6 N 0 ρ (by omega) (by omega) h
  · by_cases c1 : p2 = 1
    · subst c1
      rw [if_pos (show (0 : Int32) ≤ 1 ∧ (1 : Int32) ≤ 1 by decide), if_neg (by decide), if_neg (by decide), if_pos rfl]
      exact m_fbrL hN hI ht8 10 N 0 ρ (by omega) (by omega) h
    · rw [if_neg (show ¬ (0 ≤ p2 ∧ p2 ≤ 1) by grind), if_pos rfl, if_neg c0, if_neg c1]
      exact m_b2 N h
