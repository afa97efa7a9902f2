/-! mustWeigh -/
theorem m_isAtDoor (N : Nat) {ρ : St} {r : Nat → Int32} (h : RR ρ 0 r) (s : Int32) : fX3_isAtDoor N ρ s = some (if bitAt (r 3) (hgt s (r 2)) = 1 then 1 else 0) := by
  unfold fX3_isAtDoor
  rw [h.rd3, bo_s, m_floorOf N h, bo_s, m_has, bo_s, zr_if]
def figR (r : Nat → Int32) (t : Nat) (f : Int32) : Nat → Int32 := becR r t (r (4 * t + 6)) f
def kndR (r : Nat → Int32) (t : Nat) (k : Int32) : Nat → Int32 := becR r t k (r (4 * t + 7))
theorem becR_e (r : Nat → Int32) (t : Nat) (k f k' f' : Int32) : ∀ i, becR (becR r t k' f') t k f i = becR r t k f i := by
  intro i
  unfold becR
  by_cases c : i = 4 * t + 7
  · simp [c]
  · by_cases c2 : i = 4 * t + 6
    · simp [c2]
    · simp [c, c2]
theorem Inv_fig {M : Nat} {r : Nat → Int32} (h : Inv M r) {t : Nat} (ht : t < 8) {f : Int32} (h2 : 0 ≤ f) (h3 : f ≤ 9) : Inv M (figR r t f) := by
  obtain ⟨g1, g2, g3, g4⟩ := h.2.2.2.2.2.2 t ht
  exact Inv_bec h ht g1.1 g1.2 h2 h3
theorem Inv_knd {M : Nat} {r : Nat → Int32} (h : Inv M r) {t : Nat} (ht : t < 8) {k : Int32} (h2 : 0 ≤ k) (h3 : k ≤ 5) : Inv M (kndR r t k) := by
  obtain ⟨g1, g2, g3, g4⟩ := h.2.2.2.2.2.2 t ht
  exact Inv_bec h ht h2 h3 g2.1 g2.2
theorem cnt_bec (r : Nat → Int32) (t : Nat) (k f : Int32) : cnt (becR r t k f) = cnt r := by unfold cnt becR; rw [if_neg (by omega), if_neg (by omega)]
/-- the mind is now with the thing t of any kind and figure -/
def MB (z A : St) (t : Nat) : Prop := ∃ k f, (0 ≤ k ∧ k ≤ 5) ∧ (0 ≤ f ∧ f ≤ 9) ∧ HR (sb [7, 8, 9, 10, 11, 12] z) (becR (A 0) t k f)
theorem MB_0 {z A : St} (hI : AI A) {t : Nat} (ht : t < 8) (h : HR (sb [7, 8, 9, 10, 11, 12] z) (A 0)) : MB z A t := by
  obtain ⟨g1, g2, g3, g4⟩ := hI.1.2.2.2.2.2.2 t ht
  refine ⟨A 0 (4 * t + 6), A 0 (4 * t + 7), g1, g2, h.c (fun i _ => ?_)⟩
  unfold becR
  by_cases c : i = 4 * t + 7
  · rw [if_pos c, c]
  · rw [if_neg c]
    by_cases c2 : i = 4 * t + 6
    · rw [if_pos c2, c2]
    · rw [if_neg c2]
theorem c_bec {N : Nat} {z A : St} (h : CS z A) (hI : AI A) {t : Nat} (ht : t < cnt (A 0)) (hm : MB z A t) {k f : Int32} (hk : 0 ≤ k ∧ k ≤ 5) (hf : 0 ≤ f ∧ f ≤ 9) : ∃ z', fX0_become N (sb [7, 8, 9, 10, 11, 12] z) (nI t) k f = some z' ∧ CS (pb [7, 8, 9, 10, 11, 12] z' z) A ∧ HR (sb [7, 8, 9, 10, 11, 12] (pb [7, 8, 9, 10, 11, 12] z' z)) (becR (A 0) t k f) := by
  have h8 := hI.1.n.1
  obtain ⟨k0, f0, hk0, hf0, hr⟩ := hm
  obtain ⟨z', e1, e2⟩ := x0_become N hr (Inv_bec hI.1 (by omega) hk0.1 hk0.2 hf0.1 hf0.2) (by rw [cnt_bec]; exact ht) k f
  exact ⟨z', e1, h, (e2.c (fun i _ => becR_e (A 0) t k f k0 f0 i) : HR z' _)⟩
def S_mustWeigh (A : St) (p1 p2 p3 : Int32) : Int32 × St := if 0 ≤ p1 ∧ p1 < A 0 0 then (if 0 ≤ p2 ∧ p2 ≤ 1 then (if p3 < 0 then (-4, rf A 4) else if 30 < p3 then (-6, rf A 6) else (frs (fun f => decide (bitAt (A 0 3) (hgt p2 (fla (figR (A 0) p1.toNatClampNeg (nI f)) p3.toNatClampNeg)) = 1)) 10 0, A)) else (-1, rf A 1)) else (-1, rf A 1)
theorem c_mwL {N : Nat} (hN : 300 < N) {A : St} (hI : AI A) {t : Nat} (ht : t < cnt (A 0)) {s : Int32} (hs : 0 ≤ s ∧ s ≤ 1) {m : Nat} (hm : m ≤ 30) : ∀ (k n i : Nat) (z : St), i + k = 10 → k < n → CS z A → MB z A t → CO (fX2_mustWeigh_L59 N n z (nI t) s (nI m) (nI i)) (frs (fun f => decide (bitAt (A 0 3) (hgt s (fla (figR (A 0) t (nI f)) m)) = 1)) k i, A) := by
  have h8 := hI.1.n.1
  intro k
  induction k with
  | zero =>
    intro n i z hi hn h hb
    obtain ⟨n, rfl⟩ : ∃ m, n = m + 1 := ⟨n - 1, by omega⟩
    rw [fX2_mustWeigh_L59, if_pos (show (9 : Int32) < nI i from nI_lt (a := 9) (by omega) (by omega))]
    exact CO_s h
  | succ k ih =>
    intro n i z hi hn h hb
    obtain ⟨n, rfl⟩ : ∃ m, n = m + 1 := ⟨n - 1, by omega⟩
    obtain ⟨g1, g2, g3, g4⟩ := hI.1.2.2.2.2.2.2 t (by omega)
    have hf : 0 ≤ nI i ∧ nI i ≤ 9 := ⟨nI_pos' (by omega), nI_le (b := 9) (by omega) (by omega)⟩
    have hIf := Inv_fig hI.1 (t := t) (by omega) hf.1 hf.2
    obtain ⟨z', e1, e2, e3⟩ := c_bec (N := N) h hI ht hb g1 hf
    rw [fX2_mustWeigh_L59, if_neg (show ¬ (9 : Int32) < nI i from nI_nlt (a := 9) (by omega) (by omega)), x0_kindOf N h.1 hI.1 ht, bo_s, e1, by_s, x0_floor (by omega : 100 < N) e3 hIf (by omega) (m := m) (by omega), bo_s, x0_height, bo_s, x0_isDoor N e3 (hgt_b hs (show 0 ≤ fla (becR (A 0) t (A 0 (4 * t + 6)) (nI i)) m ∧ fla (becR (A 0) t (A 0 (4 * t + 6)) (nI i)) m ≤ 20 from fla_b hIf m)), bo_s, lt_s_, nI_1, frs_s]
    have e4 : becR (A 0) t (A 0 (4 * t + 6)) (nI i) 3 = A 0 3 := by unfold becR; rw [if_neg (by omega), if_neg (by omega)]
    rw [e4]
    have e5 : fla (becR (A 0) t (A 0 (4 * t + 6)) (nI i)) m = fla (figR (A 0) t (nI i)) m := rfl
    rw [e5]
    by_cases c : bitAt (A 0 3) (hgt s (fla (figR (A 0) t (nI i)) m)) = 1
    · rw [if_pos c, if_neg (by decide), if_pos (by simpa using c)]
      exact CO_s e2
    · rw [if_neg c, if_pos rfl, if_neg (by simpa using c)]
      exact ih n (i + 1) _ (by omega) (by omega) e2 ⟨_, _, g1, hf, e3⟩
theorem c_mustWeigh {N : Nat} (hN : 300 < N) {σ A : St} (h : CS σ A) (hI : AI A) (p1 p2 p3 : Int32) : CO (fX2_mustWeigh N σ p1 p2 p3) (S_mustWeigh A p1 p2 p3) := by
  unfold fX2_mustWeigh S_mustWeigh
  rw [x0_has N h.1 hI.1, bo_s]
  refine CO_t (fun c1 => ?_) (fun _ => c_b1 N h)
  rw [i_side, bo_s]
  refine CO_t (fun c2 => ?_) (fun _ => c_b1 N h)
  rw [i_fault, bo_s]
  refine CO_f (badC N σ) (c_b4 N h) (c_b6 N h) (fun c3 c4 => ?_)
  obtain ⟨t, ht, ht8, rfl⟩ := thing_of hI.1 c1.1 c1.2
  obtain ⟨k, hk, rfl⟩ := upto_of (g := 30) (by omega) c3 c4
  obtain ⟨z, e1, e2, e3⟩ := c_cop hN h
  rw [e1, by_s, nI_clamp (by omega), nI_clamp (by omega)]
  exact c_mwL hN hI ht c2 hk 10 N 0 _ (by omega) (by omega) e2 (MB_0 hI ht8 e3)
theorem m_mwL {N : Nat} (hN : 300 < N) {A : St} (hI : AI A) {t : Nat} (ht : t < 8) (s : Int32) {m : Nat} (hm : m ≤ 30) : ∀ (k n i : Nat) (z : St), i + k = 10 → k < n → MS z A → MO (fX3_mustWeigh_L43 N n z (nI t) s (nI m) (nI i)) (frs (fun f => decide (bitAt (A 0 3) (hgt s (fla (figR (A 0) t (nI f)) m)) = 1)) k i, A) := by
  intro k
  induction k with
  | zero =>
    intro n i z hi hn h
    obtain ⟨n, rfl⟩ : ∃ m, n = m + 1 := ⟨n - 1, by omega⟩
    rw [fX3_mustWeigh_L43, if_pos (show (10 : Int32) ≤ nI i from nI_le (a := 10) (by omega) (by omega))]
    exact MO_s h
  | succ k ih =>
    intro n i z hi hn h
    obtain ⟨n, rfl⟩ : ∃ m, n = m + 1 := ⟨n - 1, by omega⟩
    obtain ⟨z2, e1, e2, e3⟩ := m_cop hN h
    obtain ⟨g1, g2⟩ := m_setR e2 e3 (4 * t + 7) (nI i)
    have hcn : Cn (setR (A 0) (4 * t + 7) (nI i)) := by have := hI.cn; unfold Cn cnt setR; rw [if_neg (by omega)]; exact this
    obtain ⟨z3, e4, e5⟩ := m_days (by omega : 100 < N) hcn (m := m) (by omega) g2
    rw [fX3_mustWeigh_L43, if_neg (show ¬ (10 : Int32) ≤ nI i from nI_ge (b := 10) (by omega) (by omega)), e1, by_s, m_of1, bo_s, wrI_n (by omega) (by omega), bo_s, e4, by_s, m_isAtDoor N (ρ := sb [2] (pb [2] z3 (up2 (pb [1, 2] z2 z) 2 (4 * t + 7) (nI i)))) e5, bo_s, lt_s_, nI_1, frs_s]
    have eq : setR (A 0) (4 * t + 7) (nI i) = figR (A 0) t (nI i) := by
      funext j
      unfold setR figR becR
      by_cases c : j = 4 * t + 7
      · rw [if_pos c, if_pos c]
      · rw [if_neg c, if_neg c]
        by_cases c2 : j = 4 * t + 6
        · rw [if_pos c2, c2]
        · rw [if_neg c2]
    have e6 : adv (setR (A 0) (4 * t + 7) (nI i)) m 3 = A 0 3 := by unfold adv setR; rw [if_neg (by omega), if_neg (by omega), if_neg (by omega)]
    have e7 : adv (setR (A 0) (4 * t + 7) (nI i)) m 2 = fla (figR (A 0) t (nI i)) m := by rw [eq]; rfl
    rw [e6, e7]
    by_cases c : bitAt (A 0 3) (hgt s (fla (figR (A 0) t (nI i)) m)) = 1
    · rw [if_pos c, if_neg (by decide), if_pos (by simpa using c)]
      exact MO_s g1
    · rw [if_neg c, if_pos rfl, if_neg (by simpa using c)]
      exact ih n (i + 1) _ (by omega) (by omega) g1
theorem m_mustWeigh {N : Nat} (hN : 300 < N) {ρ A : St} (h : MS ρ A) (hI : AI A) (p1 p2 p3 : Int32) : MO (fX3_mustWeigh N ρ p1 p2 p3) (S_mustWeigh A p1 p2 p3) := by
  unfold fX3_mustWeigh S_mustWeigh
  rw [j_thing N h.1 hI.1, bo_s]
  refine MO_t (fun c1 => ?_) (fun _ => m_b1 N h)
  rw [j_side, bo_s]
  refine MO_t (fun c2 => ?_) (fun _ => m_b1 N h)
  rw [j_wrong, bo_s]
  refine MO_f (fX3_mustWeigh_L26 N ρ p1 p2 p3) (m_b4 N h) (m_b6 N h) (fun c3 c4 => ?_)
  obtain ⟨t, ht, ht8, rfl⟩ := thing_of hI.1 c1.1 c1.2
  obtain ⟨k, hk, rfl⟩ := upto_of (g := 30) (by omega) c3 c4
  unfold fX3_mustWeigh_L26
  rw [if_pos rfl, nI_clamp (by omega), nI_clamp (by omega)]
  exact m_mwL hN hI ht8 p2 hk 10 N 0 ρ (by omega) (by omega) h
/-! bestKind -/
def stK (r : Nat → Int32) (t n : Nat) (v : Nat) (q : Int32 × Int32) : Int32 × Int32 := up1 (apt (fla (kndR r t (nI v)) n)) (nI v) q
def S_bestKind (A : St) (p1 p2 p3 : Int32) : Int32 × St := if 0 ≤ p1 ∧ p1 < A 0 0 then (if p2 < 0 then (-4, rf A 4) else if 30 < p2 then (-6, rf A 6) else (if 0 ≤ p3 ∧ p3 ≤ 1 then (pick p3 (fld (stK (A 0) p1.toNatClampNeg p2.toNatClampNeg) 6 0 (21, -9)), A) else (-2, rf A 2))) else (-1, rf A 1)
theorem c_bkL {N : Nat} (hN : 300 < N) {A : St} (hI : AI A) {t : Nat} (ht : t < cnt (A 0)) {m : Nat} (hm : m ≤ 30) (w : Int32) : ∀ (k n v : Nat) (q : Int32 × Int32) (z : St), v + k = 6 → k < n → CS z A → MB z A t → CO (fX2_bestKind_L76 N n z (nI t) (nI m) w q.1 q.2 (nI v)) (pick w (fld (stK (A 0) t m) k v q), A) := by
  have h8 := hI.1.n.1
  intro k
  induction k with
  | zero =>
    intro n v q z hi hn h hb
    obtain ⟨n, rfl⟩ : ∃ m, n = m + 1 := ⟨n - 1, by omega⟩
    rw [fX2_bestKind_L76, if_pos (show (6 : Int32) ≤ nI v from nI_le (a := 6) (by omega) (by omega))]
    unfold pick
    show CO _ ((if w = 0 then q.2 else q.1), A)
    by_cases c : w = 0
    · rw [if_pos c, if_pos c]; exact CO_s h
    · rw [if_neg c, if_neg c]; exact CO_s h
  | succ k ih =>
    intro n v q z hi hn h hb
    obtain ⟨n, rfl⟩ : ∃ m, n = m + 1 := ⟨n - 1, by omega⟩
    obtain ⟨g1, g2, g3, g4⟩ := hI.1.2.2.2.2.2.2 t (by omega)
    have hk : 0 ≤ nI v ∧ nI v ≤ 5 := ⟨nI_pos' (by omega), nI_le (b := 5) (by omega) (by omega)⟩
    have hIf := Inv_knd hI.1 (t := t) (by omega) hk.1 hk.2
    obtain ⟨z', e1, e2, e3⟩ := c_bec (N := N) h hI ht hb hk g2
    rw [fX2_bestKind_L76, if_neg (show ¬ (6 : Int32) ≤ nI v from nI_ge (b := 6) (by omega) (by omega)), x0_figureOf N h.1 hI.1 ht, bo_s, e1, by_s, x0_apart (by omega : 100 < N) e3 hIf (by omega) (m := m) (by omega), bo_s, fld_s]
    have e5 : fla (becR (A 0) t (nI v) (A 0 (4 * t + 7))) m = fla (kndR (A 0) t (nI v)) m := rfl
    rw [e5]
    unfold fX2_bestKind_L126
    rw [lt_s_, lt_s_, nI_1]
    unfold stK up1
    by_cases c2 : apt (fla (kndR (A 0) t (nI v)) m) < q.1
    · rw [if_neg (show ¬ q.1 ≤ apt (fla (kndR (A 0) t (nI v)) m) from fun w => absurd c2 (by grind)), if_pos c2]
      exact ih n (v + 1) (apt (fla (kndR (A 0) t (nI v)) m), nI v) _ (by omega) (by omega) e2 ⟨_, _, hk, g2, e3⟩
    · rw [if_pos (show q.1 ≤ apt (fla (kndR (A 0) t (nI v)) m) by grind), if_neg c2]
      exact ih n (v + 1) q _ (by omega) (by omega) e2 ⟨_, _, hk, g2, e3⟩
theorem c_bestKind {N : Nat} (hN : 300 < N) {σ A : St} (h : CS σ A) (hI : AI A) (p1 p2 p3 : Int32) : CO (fX2_bestKind N σ p1 p2 p3) (S_bestKind A p1 p2 p3) := by
  unfold fX2_bestKind S_bestKind
  rw [x0_has N h.1 hI.1, bo_s]
  refine CO_t (fun c1 => ?_) (fun _ => c_b1 N h)
  rw [i_fault, bo_s]
  refine CO_f (badC N σ) (c_b4 N h) (c_b6 N h) (fun c2 c3 => ?_)
  refine CO_w (fun c4 => ?_) (c_b2 N h)
  obtain ⟨t, ht, ht8, rfl⟩ := thing_of hI.1 c1.1 c1.2
  obtain ⟨k, hk, rfl⟩ := upto_of (g := 30) (by omega) c2 c3
  unfold fX2_bestKind_L54
  obtain ⟨z, e1, e2, e3⟩ := c_cop hN h
  rw [e1, by_s, nI_clamp (by omega), nI_clamp (by omega)]
  exact c_bkL hN hI ht hk p3 6 N 0 (21, -9) _ (by omega) (by omega) e2 (MB_0 hI ht8 e3)
theorem m_bkL {N : Nat} (hN : 300 < N) {A : St} (hI : AI A) {t : Nat} (ht : t < 8) {m : Nat} (hm : m ≤ 30) (w : Int32) : ∀ (k n v : Nat) (q : Int32 × Int32) (z : St), v + k = 6 → k < n → MS z A → MO (fX3_bestKind_L61 N n z (nI t) (nI m) w q.2 q.1 (nI v)) (pick w (fld (stK (A 0) t m) k v q), A) := by
  intro k
  induction k with
  | zero =>
    intro n v q z hi hn h
    obtain ⟨n, rfl⟩ : ∃ m, n = m + 1 := ⟨n - 1, by omega⟩
    rw [fX3_bestKind_L61, if_pos (show (6 : Int32) ≤ nI v from nI_le (a := 6) (by omega) (by omega))]
    unfold pick
    show MO _ ((if w = 0 then q.2 else q.1), A)
    by_cases c : w = 0
    · rw [if_pos c, if_pos c]; exact MO_s h
    · rw [if_neg c, if_neg c]; exact MO_s h
  | succ k ih =>
    intro n v q z hi hn h
    obtain ⟨n, rfl⟩ : ∃ m, n = m + 1 := ⟨n - 1, by omega⟩
    obtain ⟨z2, e1, e2, e3⟩ := m_cop hN h
    obtain ⟨g1, g2⟩ := m_setR e2 e3 (4 * t + 6) (nI v)
    have hcn : Cn (setR (A 0) (4 * t + 6) (nI v)) := by have := hI.cn; unfold Cn cnt setR; rw [if_neg (by omega)]; exact this
    have eq : setR (A 0) (4 * t + 6) (nI v) = kndR (A 0) t (nI v) := by
      funext j
      unfold setR kndR becR
      by_cases c : j = 4 * t + 6
      · rw [if_pos c, if_neg (by omega)]
      · rw [if_neg c]
        by_cases c2 : j = 4 * t + 7
        · rw [if_pos c2, c2]
        · rw [if_neg c2]
    rw [fX3_bestKind_L61, if_neg (show ¬ (6 : Int32) ≤ nI v from nI_ge (b := 6) (by omega) (by omega)), e1, by_s, m_of0, bo_s, wrI_n (by omega) (by omega), bo_s]
    refine MO_b (m_apartThen hN g1 (r := setR (A 0) (4 * t + 6) (nI v)) hcn g2 (k := m) (by omega)) (fun z3 h3 => ?_)
    unfold fX3_bestKind_L116
    rw [lt_s_, lt_s_, nI_1, fld_s, eq]
    unfold stK up1
    by_cases c2 : apt (fla (kndR (A 0) t (nI v)) m) < q.1
    · rw [if_pos c2, if_pos c2]
      exact ih n (v + 1) (apt (fla (kndR (A 0) t (nI v)) m), nI v) z3 (by omega) (by omega) h3
    · rw [if_neg c2, if_neg c2]
      exact ih n (v + 1) q z3 (by omega) (by omega) h3
theorem m_bestKind {N : Nat} (hN : 300 < N) {ρ A : St} (h : MS ρ A) (hI : AI A) (p1 p2 p3 : Int32) : MO (fX3_bestKind N ρ p1 p2 p3) (S_bestKind A p1 p2 p3) := by
  unfold fX3_bestKind S_bestKind
  rw [j_thing N h.1 hI.1, bo_s]
  refine MO_t (fun c1 => ?_) (fun _ => m_b1 N h)
  rw [j_wrong, bo_s]
  refine MO_f (fX3_bestKind_L19 N ρ p1 p2 p3) (m_b4 N h) (m_b6 N h) (fun c2 c3 => ?_)
  unfold fX3_bestKind_L19
  rw [if_pos rfl, j_in, bo_s]
  refine MO_t (fun c4 => ?_) (fun _ => m_b2 N h)
  obtain ⟨t, ht, ht8, rfl⟩ := thing_of hI.1 c1.1 c1.2
  obtain ⟨k, hk, rfl⟩ := upto_of (g := 30) (by omega) c2 c3
  unfold fX3_bestKind_L39
  rw [if_pos rfl, nI_clamp (by omega), nI_clamp (by omega)]
  have e : fld (stK (A 0) t k) 6 0 (21, -9) = fld (stK (A 0) t k) 6 0 (1000000000, 0) := by
    have hb := (apt_b (fla_b (Inv_knd hI.1 ht8 (k := nI 0) (by decide) (by decide)) k)).2
    exact congrArg (fld (stK (A 0) t k) 5 1) (up1_2 hb)
  rw [e]
  exact m_bkL hN hI ht8 hk p3 6 N 0 (1000000000, 0) ρ (by omega) (by omega) h
