/-! ballast -/
def setR (r : Nat → Int32) (k : Nat) (v : Int32) : Nat → Int32 := fun i => if i = k then v else r i
theorem pl_bal {r : Nat → Int32} {s : Nat} (hs : s < 2) (v d : Int32) : pl (setR r (4 + s) v) d = pl r d + (if s = 0 then v - r (4 + s) else -(v - r (4 + s))) := by
  have e : ∀ x n, sumS (setR r (4 + s) v) d x n = sumS r d x n := by
    intro x n
    induction n with
    | zero => rfl
    | succ n ih =>
      show sumS (setR r (4 + s) v) d x n + _ = sumS r d x n + _
      have e1 : ∀ i, 5 < i → setR r (4 + s) v i = r i := fun i hi => if_neg (by omega)
      unfold wgt
      rw [ih, e1 _ (by omega), e1 _ (by omega), e1 _ (by omega), e1 _ (by omega)]
  unfold pl
  rw [e, e]
  have ec : cnt (setR r (4 + s) v) = cnt r := by unfold cnt setR; rw [if_neg (by omega)]
  rw [ec]
  unfold setR
  rcases (show s = 0 ∨ s = 1 by omega) with rfl | rfl
  · simp only [Nat.add_zero, if_true, show ¬ (5 : Nat) = 4 by omega, if_false]
    grind
  · simp only [show ¬ (4 : Nat) = 4 + 1 by omega, show (5 : Nat) = 4 + 1 by omega, if_false, if_true, show ¬ (1 : Nat) = 0 by omega]
    grind
theorem Inv_bal {M : Nat} {r : Nat → Int32} (h : Inv M r) {s : Nat} (hs : s < 2) {v : Int32} (h0 : 0 ≤ v) (h1 : v ≤ 50) : Inv M (setR r (4 + s) v) := Inv_set h (by omega) (by omega) (fun q => by omega) (fun q => by omega) (fun _ => ⟨h0, h1⟩)
theorem c_rpL {N : Nat} (hN : 8 < N) {A : St} (hI : AI A) {m : Nat} (hm : m ≤ 30) : ∀ (k n i : Nat) (z : St), i + k = m + 1 → k < n → CS z A → (∀ j, j < i → z 22 j = pl (A 0) (A 0 1 + nI j)) → ∃ z', fX2_reckonPulls_L2 N n z (nI m) (nI i) = some z' ∧ CS z' A ∧ ∀ j, j ≤ m → z' 22 j = pl (A 0) (A 0 1 + nI j) := by
  intro k
  induction k with
  | zero =>
    intro n i z hi hn h h2
    obtain ⟨n, rfl⟩ : ∃ m, n = m + 1 := ⟨n - 1, by omega⟩
    rw [fX2_reckonPulls_L2, if_pos (nI_lt (by omega) (by omega))]
    exact ⟨z, rfl, h, fun j hj => h2 j (by omega)⟩
  | succ k ih =>
    intro n i z hi hn h h2
    obtain ⟨n, rfl⟩ : ∃ m, n = m + 1 := ⟨n - 1, by omega⟩
    rw [fX2_reckonPulls_L2, if_neg (nI_nlt (by omega) (by omega)), if_neg (show ¬ (31 : Int32) ≤ nI i from nI_ge (b := 31) (by omega) (by omega)), x0_pull (by omega) h.1 hI.1 (day_le hI.1 (by omega)), bo_s, wrI_n (by omega) (by omega), bo_s, lt_s_, nI_1]
    refine ih n (i + 1) _ (by omega) (by omega) h (fun j hj => ?_)
    rw [up2_a]
    by_cases q : j = i
    · rw [if_pos ⟨rfl, q⟩, q]
    · rw [if_neg (fun w => q w.2)]; exact h2 j (by omega)
theorem c_aipL {N : Nat} {A z : St} {m : Nat} (hm : m ≤ 30) (h2 : ∀ j, j ≤ m → z 22 j = pl (A 0) (A 0 1 + nI j)) {r : Nat → Int32} {more : Int32} (hr2 : r 2 = A 0 2) (hr1 : r 1 = A 0 1) (hr : ∀ d, pl r d = pl (A 0) d + more) (hb : ∀ k, 0 ≤ fla r k ∧ fla r k ≤ 20) : ∀ (k n i : Nat), i + k = m → k < n → fX2_apartIfPulled_L11 N z n more (nI m) (fla r i) (nI (i + 1)) = some (apt (fla r m)) := by
  intro k
  induction k with
  | zero =>
    intro n i hi hn
    obtain ⟨n, rfl⟩ : ∃ m, n = m + 1 := ⟨n - 1, by omega⟩
    rw [fX2_apartIfPulled_L11, if_pos (nI_lt (by omega) (by omega))]
    unfold fX2_apartIfPulled_L47 fX0_apartAt
    rw [lt_s_, bo_s, apt_a (hb i), show i = m by omega]
  | succ k ih =>
    intro n i hi hn
    obtain ⟨n, rfl⟩ : ∃ m, n = m + 1 := ⟨n - 1, by omega⟩
    rw [fX2_apartIfPulled_L11, if_neg (nI_nlt (by omega) (by omega)), if_neg (show ¬ (31 : Int32) ≤ nI (i + 1) from nI_ge (b := 31) (by omega) (by omega)), rdI_n (by omega) (by omega), bo_s, x0_moved, bo_s, lt_s_, nI_1, h2 (i + 1) (by omega)]
    have e : stp (fla r i) (pl (A 0) (A 0 1 + nI (i + 1)) + more) = fla r (i + 1) := by
      show _ = stp (fla r i) (pl r (r 1 + nI (i + 1)))
      rw [hr, hr1]
    rw [e]
    exact ih n (i + 1) (by omega) (by omega)
theorem c_aip {N : Nat} (hN : 300 < N) {A z : St} (h : CS z A) (hI : AI A) {m : Nat} (hm : m ≤ 30) (h2 : ∀ j, j ≤ m → z 22 j = pl (A 0) (A 0 1 + nI j)) {s : Nat} (hs : s < 2) {v : Nat} (hv : v ≤ 50) : fX2_apartIfPulled N z (if s = 0 then nI v - A 0 (4 + s) else -(nI v - A 0 (4 + s))) (nI m) = some (apt (fla (setR (A 0) (4 + s) (nI v)) m)) := by
  unfold fX2_apartIfPulled
  have hIb := Inv_bal hI.1 hs (v := nI v) (nI_pos' (by omega)) (nI_le (b := 50) hv (by omega))
  have e2 : setR (A 0) (4 + s) (nI v) 2 = A 0 2 := if_neg (by omega)
  have := c_aipL (N := N) hm h2 (r := setR (A 0) (4 + s) (nI v)) (more := if s = 0 then nI v - A 0 (4 + s) else -(nI v - A 0 (4 + s))) e2 (if_neg (by omega)) (fun d => pl_bal hs (nI v) d) (fla_b hIb) m N 0 (by omega) (by omega)
  rw [show z 1 0 = fla (setR (A 0) (4 + s) (nI v)) 0 from (show z 1 0 = A 0 2 from h.1.1).trans e2.symm]
  exact this
def stB (r : Nat → Int32) (s n : Nat) (v : Nat) (q : Int32 × Int32) : Int32 × Int32 := up1 (apt (fla (setR r (4 + s) (nI v)) n)) (nI v) q
def pick (w : Int32) (q : Int32 × Int32) : Int32 := if w = 0 then q.2 else q.1
theorem c_balL {N : Nat} (hN : 300 < N) {A z : St} (h : CS z A) (hI : AI A) {m : Nat} (hm : m ≤ 30) (h2 : ∀ j, j ≤ m → z 22 j = pl (A 0) (A 0 1 + nI j)) {s : Nat} (hs : s < 2) (w : Int32) : ∀ (k n v : Nat) (q : Int32 × Int32), v + k = 51 → k < n → fX2_ballast_L66 N n z (nI s) (nI m) w q.1 q.2 (nI v) = some (pick w (fld (stB (A 0) s m) k v q), z) := by
  intro k
  induction k with
  | zero =>
    intro n v q hi hn
    obtain ⟨n, rfl⟩ : ∃ m, n = m + 1 := ⟨n - 1, by omega⟩
    rw [fX2_ballast_L66, if_pos (show (50 : Int32) < nI v from nI_lt (a := 50) (by omega) (by omega))]
    unfold pick
    show (if w = 0 then some (q.2, z) else some (q.1, z)) = some ((if w = 0 then q.2 else q.1), z)
    by_cases c : w = 0
    · rw [if_pos c, if_pos c]
    · rw [if_neg c, if_neg c]
  | succ k ih =>
    intro n v q hi hn
    obtain ⟨n, rfl⟩ : ∃ m, n = m + 1 := ⟨n - 1, by omega⟩
    rw [fX2_ballast_L66, if_neg (show ¬ (50 : Int32) < nI v from nI_nlt (a := 50) (by omega) (by omega)), x0_ballastOf N h.1 hs, bo_s, lt_s_]
    have e : ∀ y, y = (if s = 0 then nI v - A 0 (4 + s) else -(nI v - A 0 (4 + s))) → fX2_ballast_L99 N (fX2_ballast_L66 N n) z (nI s) (nI m) w q.1 q.2 (nI v) y = some (pick w (fld (stB (A 0) s m) (k + 1) v q), z) := by
      intro y hy
      unfold fX2_ballast_L99 fX2_ballast_L120
      rw [hy, c_aip hN h hI hm h2 hs (by omega), bo_s, lt_s_, lt_s_, nI_1, fld_s]
      unfold stB up1
      by_cases c2 : apt (fla (setR (A 0) (4 + s) (nI v)) m) < q.1
      · rw [if_neg (show ¬ q.1 ≤ apt (fla (setR (A 0) (4 + s) (nI v)) m) from fun w => absurd c2 (by grind)), if_pos c2]
        exact ih n (v + 1) (apt (fla (setR (A 0) (4 + s) (nI v)) m), nI v) (by omega) (by omega)
      · rw [if_pos (show q.1 ≤ apt (fla (setR (A 0) (4 + s) (nI v)) m) by grind), if_neg c2]
        exact ih n (v + 1) q (by omega) (by omega)
    rcases (show s = 0 ∨ s = 1 by omega) with rfl | rfl
    · rw [if_pos (show nI 0 = 0 from rfl)]; exact e _ rfl
    · rw [if_neg (show ¬ nI 1 = 0 by decide)]; exact e _ rfl
def S_ballast (A : St) (p1 p2 p3 : Int32) : Int32 × St := if 0 ≤ p1 ∧ p1 ≤ 1 then (if p2 < 0 then (-4, rf A 4) else if 30 < p2 then (-6, rf A 6) else (if 0 ≤ p3 ∧ p3 ≤ 1 then (pick p3 (fld (stB (A 0) p1.toNatClampNeg p2.toNatClampNeg) 51 0 (21, -9)), A) else (-2, rf A 2))) else (-1, rf A 1)
theorem CO_w {p3 : Int32} {o ob : Option (Int32 × St)} {s s2 : Int32 × St} (h1 : 0 ≤ p3 ∧ p3 ≤ 1 → CO o s) (h2 : CO ob s2) : CO (if p3 = 0 then o else if p3 = 1 then o else ob) (if 0 ≤ p3 ∧ p3 ≤ 1 then s else s2) := by
  by_cases c : 0 ≤ p3 ∧ p3 ≤ 1
  · rw [if_pos c]
    by_cases c0 : p3 = 0
    · rw [if_pos c0]; exact h1 c
    · rw [if_neg c0, if_pos (by grind)]; exact h1 c
  · rw [if_neg c, if_neg (by grind), if_neg (by grind)]; exact h2
theorem c_ballast {N : Nat} (hN : 300 < N) {σ A : St} (h : CS σ A) (hI : AI A) (p1 p2 p3 : Int32) : CO (fX2_ballast N σ p1 p2 p3) (S_ballast A p1 p2 p3) := by
  unfold fX2_ballast S_ballast
  rw [i_side, bo_s]
  refine CO_t (fun c1 => ?_) (fun _ => c_b1 N h)
  rw [i_fault, bo_s]
  refine CO_f (badC N σ) (c_b4 N h) (c_b6 N h) (fun c2 c3 => ?_)
  refine CO_w (fun c4 => ?_) (c_b2 N h)
  obtain ⟨s, hs, rfl⟩ := side_of c1
  obtain ⟨k, hk, rfl⟩ := upto_of (g := 30) (by omega) c2 c3
  unfold fX2_ballast_L50 fX2_reckonPulls
  obtain ⟨z, e1, e2, e3⟩ := c_rpL (by omega : 8 < N) hI hk (k + 1) N 0 σ (by omega) (by omega) h (fun j hj => by omega)
  rw [show fX2_reckonPulls_L2 N N σ (nI k) 0 = some z from e1, by_s, nI_clamp (by omega), nI_clamp (by omega)]
  have := c_balL hN e2 hI hk e3 hs p3 51 N 0 (21, -9) (by omega) (by omega)
  rw [show fX2_ballast_L66 N N z (nI s) (nI k) p3 21 (-9) 0 = _ from this]
  exact CO_s e2
theorem m_setR {ρ A : St} (h : MS ρ A) {r : Nat → Int32} (h2 : RR (sb [2] ρ) 0 r) (k : Nat) (v : Int32) : MS (up2 ρ 2 k v) A ∧ RR (sb [2] (up2 ρ 2 k v)) 0 (setR r k v) := by
  refine ⟨h, ?_⟩
  have h3 : RR ρ 2 r := h2
  exact h3.wr k v
theorem m_balL {N : Nat} (hN : 300 < N) {A : St} (hI : AI A) {m : Nat} (hm : m ≤ 30) {s : Nat} (hs : s < 2) (w : Int32) : ∀ (k n v : Nat) (q : Int32 × Int32) (z : St), v + k = 51 → k < n → MS z A → MO (fX3_ballast_L60 N n z (nI s) (nI m) w q.2 q.1 (nI v)) (pick w (fld (stB (A 0) s m) k v q), A) := by
  intro k
  induction k with
  | zero =>
    intro n v q z hi hn h
    obtain ⟨n, rfl⟩ : ∃ m, n = m + 1 := ⟨n - 1, by omega⟩
    rw [fX3_ballast_L60, if_pos (show (50 : Int32) < nI v from nI_lt (a := 50) (by omega) (by omega))]
    unfold pick
    show MO _ ((if w = 0 then q.2 else q.1), A)
    by_cases c : w = 0
    · rw [if_pos c, if_pos c]; exact MO_s h
    · rw [if_neg c, if_neg c]; exact MO_s h
  | succ k ih =>
    intro n v q z hi hn h
    obtain ⟨n, rfl⟩ : ∃ m, n = m + 1 := ⟨n - 1, by omega⟩
    obtain ⟨z2, e1, e2, e3⟩ := m_cop hN h
    obtain ⟨g1, g2⟩ := m_setR e2 e3 (4 + s) (nI v)
    rw [fX3_ballast_L60, if_neg (show ¬ (50 : Int32) < nI v from nI_nlt (a := 50) (by omega) (by omega)), e1, by_s, show (4 : Int32) = nI 4 from rfl, nI_add, wrI_n (by omega) (by omega), bo_s]
    refine MO_b (m_apartThen hN g1 (r := setR (A 0) (4 + s) (nI v)) (by have := hI.cn; unfold Cn cnt setR; rw [if_neg (by omega)]; exact this) g2 (k := m) (by omega)) (fun z3 h3 => ?_)
    unfold fX3_ballast_L113
    rw [lt_s_, lt_s_, nI_1, fld_s]
    unfold stB up1
    by_cases c2 : apt (fla (setR (A 0) (4 + s) (nI v)) m) < q.1
    · rw [if_pos c2, if_pos c2]
      exact ih n (v + 1) (apt (fla (setR (A 0) (4 + s) (nI v)) m), nI v) z3 (by omega) (by omega) h3
    · rw [if_neg c2, if_neg c2]
      exact ih n (v + 1) q z3 (by omega) (by omega) h3
theorem up1_2 {x g : Int32} (hx : x ≤ 20) : up1 x g (21, -9) = up1 x g (1000000000, 0) := by
  unfold up1
  rw [if_pos (show x < ((21 : Int32), (-9 : Int32)).1 from by show x < 21; grind), if_pos (show x < ((1000000000 : Int32), (0 : Int32)).1 from by show x < 1000000000; grind)]
theorem m_ballast {N : Nat} (hN : 300 < N) {ρ A : St} (h : MS ρ A) (hI : AI A) (p1 p2 p3 : Int32) : MO (fX3_ballast N ρ p1 p2 p3) (S_ballast A p1 p2 p3) := by
  unfold fX3_ballast S_ballast
  rw [j_side, bo_s]
  refine MO_t (fun c1 => ?_) (fun _ => m_b1 N h)
  rw [j_wrong, bo_s]
  refine MO_f (fX3_ballast_L18 N ρ p1 p2 p3) (m_b4 N h) (m_b6 N h) (fun c2 c3 => ?_)
  unfold fX3_ballast_L18
  rw [if_pos rfl, j_in, bo_s]
  refine MO_t (fun c4 => ?_) (fun _ => m_b2 N h)
  obtain ⟨s, hs, rfl⟩ := side_of c1
  obtain ⟨k, hk, rfl⟩ := upto_of (g := 30) (by omega) c2 c3
  unfold fX3_ballast_L38
  rw [if_pos rfl, nI_clamp (by omega), nI_clamp (by omega)]
  have e : fld (stB (A 0) s k) 51 0 (21, -9) = fld (stB (A 0) s k) 51 0 (1000000000, 0) := by
    have hb := (apt_b (fla_b (Inv_bal hI.1 hs (v := nI 0) (by decide) (by decide)) k)).2
    exact congrArg (fld (stB (A 0) s k) 50 1) (up1_2 hb)
  rw [e]
  exact m_balL hN hI hk hs p3 51 N 0 (1000000000, 0) ρ (by omega) (by omega) h
