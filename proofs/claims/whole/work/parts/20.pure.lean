/-! how far apart, and the best of several -/
def apt (f : Int32) : Int32 := if 0 ≤ 2 * f - 20 then 2 * f - 20 else -(2 * f - 20)
theorem apt_bn : ∀ g, g ≤ 20 → 0 ≤ apt (nI g) ∧ apt (nI g) ≤ 20 := by decide +kernel
theorem apt_an : ∀ g, g ≤ 20 → absI (20 - 2 * nI g) = apt (nI g) := by decide +kernel
theorem apt_b {f : Int32} (h : 0 ≤ f ∧ f ≤ 20) : 0 ≤ apt f ∧ apt f ≤ 20 := by
  obtain ⟨g, hg, rfl⟩ := floor_of h
  exact apt_bn g hg
theorem apt_a {f : Int32} (h : 0 ≤ f ∧ f ≤ 20) : absI (20 - 2 * f) = apt f := by
  obtain ⟨g, hg, rfl⟩ := floor_of h
  exact apt_an g hg
theorem x0_apart {N : Nat} (hN : 100 < N) {M : Nat} {τ : St} {r : Nat → Int32} (h : HR τ r) (hI : Inv M r) (hM : M + 100 < 2 ^ 31) {m : Nat} (hm : m ≤ 90) : fX0_apartAfter N τ (nI m) = some (apt (fla r m)) := by
  unfold fX0_apartAfter fX0_apartAt
  rw [x0_floor hN h hI hM hm, bo_s, lt_s_, apt_a (fla_b hI m), bo_s]
theorem m_apart (N : Nat) {ρ : St} {r : Nat → Int32} (h : RR ρ 0 r) : fX3_apart N ρ = some (apt (r 2)) := by
  unfold fX3_apart
  rw [h.rd2, bo_s, m_sized, bo_s]
  rfl
theorem m_apartThen {N : Nat} (hN : 300 < N) {ρ A : St} (h : MS ρ A) {r : Nat → Int32} (hc : Cn r) (h2 : RR (sb [2] ρ) 0 r) {k : Nat} (hk : k ≤ 90) : MO (fX3_apartThen N ρ (nI k)) (apt (fla r k), A) := by
  unfold fX3_apartThen
  obtain ⟨z, e1, e2⟩ := m_days (by omega : 100 < N) hc (m := k) hk h2
  rw [e1, by_s, m_apart N (ρ := sb [2] (pb [2] z ρ)) e2, bo_s]
  exact ⟨_, rfl, h⟩
theorem m_apartNow {N : Nat} (hN : 300 < N) {ρ A : St} (h : MS ρ A) (hI : AI A) {k : Nat} (hk : k ≤ 90) : MO (fX3_apartNow N ρ (nI k)) (apt (fla (A 0) k), A) := by
  unfold fX3_apartNow
  obtain ⟨z, e1, e2, e3⟩ := m_cop hN h
  rw [e1, by_s]
  exact MO_u (m_apartThen hN e2 hI.cn e3 hk)
theorem Cn_hang {r : Nat → Int32} (h : Cn r) (t : Nat) (w : Int32) : Cn (hangR r t w) := h
theorem m_apartHung {N : Nat} (hN : 300 < N) {ρ A : St} (h : MS ρ A) (hI : AI A) {t : Nat} (ht : t < 8) (w : Int32) {k : Nat} (hk : k ≤ 90) : MO (fX3_apartHung N ρ (nI t) w (nI k)) (apt (fla (hangR (A 0) t w) k), A) := by
  unfold fX3_apartHung
  obtain ⟨z, e1, e2, e3⟩ := m_cop hN h
  obtain ⟨z2, e4, e5⟩ := m_hangsIn N e3 ht w
  rw [e1, by_s, e4, by_s]
  refine MO_u (m_apartThen hN (MS_pb2 e2) (r := hangR (A 0) t w) ?_ e5 hk)
  exact hI.cn
theorem c_cop {N : Nat} (hN : 300 < N) {σ A : St} (h : CS σ A) : ∃ z, fX0_copy N (sb [7, 8, 9, 10, 11, 12, 1, 2, 3, 4, 5, 6] σ) = some z ∧ CS (pb [7, 8, 9, 10, 11, 12, 1, 2, 3, 4, 5, 6] z σ) A ∧ HR (sb [7, 8, 9, 10, 11, 12] (pb [7, 8, 9, 10, 11, 12, 1, 2, 3, 4, 5, 6] z σ)) (A 0) := by
  obtain ⟨z, e1, e2, e3⟩ := x0_copy (N := N) (by omega) (σ := sb [7, 8, 9, 10, 11, 12, 1, 2, 3, 4, 5, 6] σ) (r := A 0) h.1
  exact ⟨z, e1, ⟨e3, h.2⟩, e2⟩
theorem CS_mind {σ A z : St} (h : CS σ A) : CS (pb [7, 8, 9, 10, 11, 12] z σ) A := h
theorem c_apartIfPut {N : Nat} (hN : 300 < N) {σ A : St} (h : CS σ A) (hI : AI A) {t : Nat} (ht : t < cnt (A 0)) {w : Int32} (h0 : 0 ≤ w) (h1 : w ≤ 2) {k : Nat} (hk : k ≤ 90) : CO (fX2_apartIfPut N σ (nI t) w (nI k)) (apt (fla (hangR (A 0) t w) k), A) := by
  unfold fX2_apartIfPut
  have h8 := hI.1.n.1
  obtain ⟨z, e1, e2, e3⟩ := c_cop hN h
  obtain ⟨z2, e4, e5⟩ := x0_put N e3 hI.1 ht h0 h1
  rw [e1, by_s, e4, bx_s, x0_apart (by omega : 100 < N) (τ := sb [7, 8, 9, 10, 11, 12] (pb [7, 8, 9, 10, 11, 12] z2 (pb [7, 8, 9, 10, 11, 12, 1, 2, 3, 4, 5, 6] z σ))) e5 (Inv_hang hI.1 (by omega) h0 h1) (by omega) hk, bo_s]
  exact CO_s (CS_mind e2)
/-- a better one takes the place -/
def up1 (x g : Int32) (s : Int32 × Int32) : Int32 × Int32 := if x < s.1 then (x, g) else s
def fld (st : Nat → Int32 × Int32 → Int32 × Int32) : Nat → Nat → Int32 × Int32 → Int32 × Int32
  | 0, _, s => s
  | k + 1, i, s => fld st k (i + 1) (st i s)
theorem fld_s (st : Nat → Int32 × Int32 → Int32 × Int32) (k i : Nat) (s : Int32 × Int32) : fld st (k + 1) i s = fld st k (i + 1) (st i s) := rfl
theorem up1_b {x g : Int32} {s : Int32 × Int32} (hx : x ≤ 20) (hs : s.1 ≤ 20) : (up1 x g s).1 ≤ 20 := by
  unfold up1
  by_cases c : x < s.1
  · rw [if_pos c]; exact hx
  · rw [if_neg c]; exact hs
/-! take -/
def stT (r : Nat → Int32) (n : Nat) (i : Nat) (s : Int32 × Int32) : Int32 × Int32 := if r (4 * i + 8) = 2 then s else up1 (apt (fla (hangR r i 2) n)) (nI i) s
def S_take (A : St) (p : Int32) : Int32 × St := if p < 0 then (-4, rf A 4) else if 30 < p then (-6, rf A 6) else ((fld (stT (A 0) p.toNatClampNeg) (cnt (A 0)) 0 (apt (fla (A 0) p.toNatClampNeg), -9)).2, A)
theorem c_takeL {N : Nat} (hN : 300 < N) {A : St} (hI : AI A) {m : Nat} (hm : m ≤ 30) : ∀ (k n i : Nat) (z : St) (s : Int32 × Int32), i + k = cnt (A 0) → k < n → CS z A → CO (fX2_take_L34 N n z (nI m) s.1 s.2 (nI i)) ((fld (stT (A 0) m) k i s).2, A) := by
  obtain ⟨h8, h9⟩ := hI.1.n
  intro k
  induction k with
  | zero =>
    intro n i z s hi hn h
    obtain ⟨n, rfl⟩ : ∃ m, n = m + 1 := ⟨n - 1, by omega⟩
    rw [fX2_take_L34, show z 1 3 = A 0 0 from h.1.2.2.2.1, h9, if_pos (nI_le (by omega) (by omega))]
    exact CO_s h
  | succ k ih =>
    intro n i z s hi hn h
    obtain ⟨n, rfl⟩ : ∃ m, n = m + 1 := ⟨n - 1, by omega⟩
    rw [fX2_take_L34, show z 1 3 = A 0 0 from h.1.2.2.2.1, h9, if_neg (nI_ge (by omega) (by omega)), x0_placeOf N h.1 hI.1 (by omega), bo_s, fld_s]
    simp only [fX2_take_L82, lt_s_, nI_1]
    by_cases c : A 0 (4 * i + 8) = 2
    · rw [if_pos c, show stT (A 0) m i s = s from if_pos c]
      exact ih n (i + 1) z s (by omega) (by omega) h
    · obtain ⟨z2, e1, e2⟩ := c_apartIfPut hN h hI (t := i) (by omega) (w := 2) (by decide) (by decide) (k := m) (by omega)
      rw [if_neg c, e1, bx_s, show stT (A 0) m i s = up1 (apt (fla (hangR (A 0) i 2) m)) (nI i) s from if_neg c]
      unfold up1
      by_cases c2 : apt (fla (hangR (A 0) i 2) m) < s.1
      · rw [if_neg (show ¬ s.1 ≤ (apt (fla (hangR (A 0) i 2) m), A).1 from fun q => absurd c2 (by grind)), if_pos c2]
        exact ih n (i + 1) z2 (apt (fla (hangR (A 0) i 2) m), nI i) (by omega) (by omega) e2
      · rw [if_pos (show s.1 ≤ (apt (fla (hangR (A 0) i 2) m), A).1 from by show s.1 ≤ apt _; grind), if_neg c2]
        exact ih n (i + 1) z2 s (by omega) (by omega) e2
theorem c_take {N : Nat} (hN : 300 < N) {σ A : St} (h : CS σ A) (hI : AI A) (p : Int32) : CO (fX2_take N σ p) (S_take A p) := by
  unfold fX2_take S_take
  rw [i_fault, bo_s]
  refine CO_f (badC N σ) (c_b4 N h) (c_b6 N h) (fun c2 c3 => ?_)
  obtain ⟨k, hk, rfl⟩ := upto_of (g := 30) (by omega) c2 c3
  rw [x0_apart (by omega) h.1 hI.1 (by omega) (by omega), bo_s, nI_clamp (by omega)]
  exact c_takeL hN hI hk (cnt (A 0)) N 0 σ (apt (fla (A 0) k), -9) (by omega) (by have := hI.1.n.1; omega) h
theorem m_takeL {N : Nat} (hN : 300 < N) {A : St} (hI : AI A) {m : Nat} (hm : m ≤ 30) : ∀ (k n i : Nat) (z : St) (s : Int32 × Int32), i + k = cnt (A 0) → k < n → s.1 ≤ 20 → MS z A → MO (fX3_take_L31 N n z (nI m) s.1 s.2 (nI i)) ((fld (stT (A 0) m) k i s).2, A) := by
  obtain ⟨h8, h9⟩ := hI.1.n
  intro k
  induction k with
  | zero =>
    intro n i z s hi hn hs h
    obtain ⟨n, rfl⟩ : ∃ m, n = m + 1 := ⟨n - 1, by omega⟩
    rw [fX3_take_L31, h.1.rd0, bo_s, h9, if_pos (nI_le (by omega) (by omega))]
    exact MO_s h
  | succ k ih =>
    intro n i z s hi hn hs h
    obtain ⟨n, rfl⟩ : ∃ m, n = m + 1 := ⟨n - 1, by omega⟩
    rw [fX3_take_L31, h.1.rd0, bo_s, h9, if_neg (nI_ge (by omega) (by omega)), m_of2, bo_s, h.1.rd (by omega), bo_s, fld_s]
    unfold fX3_take_L70 fX3_take_L88
    simp only [lt_s_, nI_1]
    by_cases c : A 0 (4 * i + 8) = 2
    · rw [if_pos c, show stT (A 0) m i s = s from if_pos c, if_neg (show ¬ (1000000000 : Int32) < s.1 by grind)]
      exact ih n (i + 1) z s (by omega) (by omega) hs h
    · obtain ⟨z2, e1, e2⟩ := m_apartHung hN h hI (t := i) (by omega) 2 (k := m) (by omega)
      rw [if_neg c, e1, bx_s, show stT (A 0) m i s = up1 (apt (fla (hangR (A 0) i 2) m)) (nI i) s from if_neg c]
      unfold up1
      have hb := (apt_b (fla_b (Inv_hang hI.1 (t := i) (by omega) (w := 2) (by decide) (by decide)) m)).2
      by_cases c2 : apt (fla (hangR (A 0) i 2) m) < s.1
      · rw [if_pos c2, if_pos (show (apt (fla (hangR (A 0) i 2) m), A).1 < s.1 from c2)]
        exact ih n (i + 1) z2 (apt (fla (hangR (A 0) i 2) m), nI i) (by omega) (by omega) hb e2
      · rw [if_neg c2, if_neg (show ¬ (apt (fla (hangR (A 0) i 2) m), A).1 < s.1 from c2)]
        exact ih n (i + 1) z2 s (by omega) (by omega) hs e2
theorem MO_b {o : Option (Int32 × St)} {s s' : Int32 × St} {K : Int32 → St → Option (Int32 × St)} (h : MO o s) (hk : ∀ z, MS z s.2 → MO (K s.1 z) s') : MO (bx o (fun uq => uq) K) s' := by
  obtain ⟨z, e1, e2⟩ := h
  rw [e1, bx_s]
  exact hk z e2
theorem CO_b {o : Option (Int32 × St)} {s s' : Int32 × St} {K : Int32 → St → Option (Int32 × St)} (h : CO o s) (hk : ∀ z, CS z s.2 → CO (K s.1 z) s') : CO (bx o (fun uq => uq) K) s' := by
  obtain ⟨z, e1, e2⟩ := h
  rw [e1, bx_s]
  exact hk z e2
theorem m_take {N : Nat} (hN : 300 < N) {ρ A : St} (h : MS ρ A) (hI : AI A) (p : Int32) : MO (fX3_take N ρ p) (S_take A p) := by
  unfold fX3_take S_take
  rw [j_wrong, bo_s]
  refine MO_f (fun v => if v = 0 then bx (fX3_apartNow N ρ p) (fun uq => uq) (fun v3 z2 => fX3_take_L31 N N z2 p v3 (-9) 0) else badM N ρ v) (m_b4 N h) (m_b6 N h) (fun c2 c3 => ?_)
  obtain ⟨k, hk, rfl⟩ := upto_of (g := 30) (by omega) c2 c3
  rw [if_pos rfl, nI_clamp (by omega)]
  refine MO_b (m_apartNow hN h hI (k := k) (by omega)) (fun z hz => ?_)
  exact m_takeL hN hI hk (cnt (A 0)) N 0 z (apt (fla (A 0) k), -9) (by omega) (by have := hI.1.n.1; omega) (apt_b (fla_b hI.1 k)).2 hz
/-! hang -/
def stH (r : Nat → Int32) (n : Nat) (i : Nat) (s : Int32 × Int32) : Int32 × Int32 := if r (4 * i + 8) = 2 then up1 (apt (fla (hangR r i 1) n)) (10 * nI i + 1) (up1 (apt (fla (hangR r i 0) n)) (10 * nI i + 0) s) else s
def S_hang (A : St) (p : Int32) : Int32 × St := if p < 0 then (-4, rf A 4) else if 30 < p then (-6, rf A 6) else ((fld (stH (A 0) p.toNatClampNeg) (cnt (A 0)) 0 (apt (fla (A 0) p.toNatClampNeg), -9)).2, A)
theorem c_hangI {N : Nat} (hN : 300 < N) {A : St} (hI : AI A) {m : Nat} (hm : m ≤ 30) {t : Nat} (ht : t < cnt (A 0)) (kk : St → Int32 → Int32 → Int32 → Int32 → Option (Int32 × St)) {S : Int32 × St} {w : Nat} (hw : w < 2) {n : Nat} {z : St} {s : Int32 × Int32} (h : CS z A)
    (hk : ∀ z', CS z' A → CO (fX2_hang_L62 N kk n z' (nI m) (up1 (apt (fla (hangR (A 0) t (nI w)) m)) (10 * nI t + nI w) s).1 (up1 (apt (fla (hangR (A 0) t (nI w)) m)) (10 * nI t + nI w) s).2 (nI t) (nI (w + 1))) S) : CO (fX2_hang_L62 N kk (n + 1) z (nI m) s.1 s.2 (nI t) (nI w)) S := by
  obtain ⟨z2, e1, e2⟩ := c_apartIfPut hN h hI ht (w := nI w) (nI_pos' (by omega)) (nI_le (b := 2) (by omega) (by omega)) (k := m) (by omega)
  rw [fX2_hang_L62, if_neg (show ¬ (2 : Int32) ≤ nI w from nI_ge (b := 2) hw (by omega)), e1, bx_s]
  have := hk z2 e2
  unfold fX2_hang_L98
  simp only [lt_s_, nI_1]
  unfold up1 at this
  by_cases c2 : apt (fla (hangR (A 0) t (nI w)) m) < s.1
  · rw [if_neg (show ¬ s.1 ≤ apt (fla (hangR (A 0) t (nI w)) m) from fun q => absurd c2 (by grind))]
    rw [if_pos c2] at this
    exact this
  · rw [if_pos (show s.1 ≤ apt (fla (hangR (A 0) t (nI w)) m) from by grind)]
    rw [if_neg c2] at this
    exact this
theorem c_hangL {N : Nat} (hN : 300 < N) {A : St} (hI : AI A) {m : Nat} (hm : m ≤ 30) : ∀ (k n i : Nat) (z : St) (s : Int32 × Int32), i + k = cnt (A 0) → k < n → CS z A → CO (fX2_hang_L34 N n z (nI m) s.1 s.2 (nI i)) ((fld (stH (A 0) m) k i s).2, A) := by
  obtain ⟨h8, h9⟩ := hI.1.n
  intro k
  induction k with
  | zero =>
    intro n i z s hi hn h
    obtain ⟨n, rfl⟩ : ∃ m, n = m + 1 := ⟨n - 1, by omega⟩
    rw [fX2_hang_L34, show z 1 3 = A 0 0 from h.1.2.2.2.1, h9, if_pos (nI_le (by omega) (by omega))]
    exact CO_s h
  | succ k ih =>
    intro n i z s hi hn h
    obtain ⟨n, rfl⟩ : ∃ m, n = m + 1 := ⟨n - 1, by omega⟩
    rw [fX2_hang_L34, show z 1 3 = A 0 0 from h.1.2.2.2.1, h9, if_neg (nI_ge (by omega) (by omega)), x0_placeOf N h.1 hI.1 (by omega), bo_s, fld_s]
    obtain ⟨N', rfl⟩ : ∃ m, N = m + 3 := ⟨N - 3, by omega⟩
    by_cases c : A 0 (4 * i + 8) = 2
    · rw [if_pos c]
      refine c_hangI hN hI hm (by omega) _ (w := 0) (by omega) (n := N' + 2) h (fun z2 h2 => ?_)
      refine c_hangI hN hI hm (by omega) _ (w := 1) (by omega) (n := N' + 1) h2 (fun z3 h3 => ?_)
      rw [fX2_hang_L62, if_pos (show (2 : Int32) ≤ nI (1 + 1) by decide)]
      unfold fX2_hang_L104
      rw [lt_s_, nI_1, show stH (A 0) m i s = up1 (apt (fla (hangR (A 0) i 1) m)) (10 * nI i + 1) (up1 (apt (fla (hangR (A 0) i 0) m)) (10 * nI i + 0) s) from if_pos c]
      exact ih n (i + 1) z3 _ (by omega) (by omega) h3
    · rw [if_neg c]
      unfold fX2_hang_L104
      rw [lt_s_, nI_1, show stH (A 0) m i s = s from if_neg c]
      exact ih n (i + 1) z s (by omega) (by omega) h
theorem c_hang {N : Nat} (hN : 300 < N) {σ A : St} (h : CS σ A) (hI : AI A) (p : Int32) : CO (fX2_hang N σ p) (S_hang A p) := by
  unfold fX2_hang S_hang
  rw [i_fault, bo_s]
  refine CO_f (badC N σ) (c_b4 N h) (c_b6 N h) (fun c2 c3 => ?_)
  obtain ⟨k, hk, rfl⟩ := upto_of (g := 30) (by omega) c2 c3
  rw [x0_apart (by omega) h.1 hI.1 (by omega) (by omega), bo_s, nI_clamp (by omega)]
  exact c_hangL hN hI hk (cnt (A 0)) N 0 σ (apt (fla (A 0) k), -9) (by omega) (by have := hI.1.n.1; omega) h
theorem m_hangI {N : Nat} (hN : 300 < N) {A : St} (hI : AI A) {m : Nat} (hm : m ≤ 30) {t : Nat} (ht : t < 8) (kk : St → Int32 → Int32 → Int32 → Int32 → Option (Int32 × St)) {S : Int32 × St} {w : Nat} (hw : w < 2) {n : Nat} {z : St} {s : Int32 × Int32} (hs : s.1 ≤ 20) (h : MS z A)
    (hk : ∀ z', MS z' A → MO (fX3_hang_L45 N kk n z' (nI m) (if A 0 (4 * t + 8) = 2 then up1 (apt (fla (hangR (A 0) t (nI w)) m)) (10 * nI t + nI w) s else s).1 (if A 0 (4 * t + 8) = 2 then up1 (apt (fla (hangR (A 0) t (nI w)) m)) (10 * nI t + nI w) s else s).2 (nI t) (nI (w + 1))) S) : MO (fX3_hang_L45 N kk (n + 1) z (nI m) s.1 s.2 (nI t) (nI w)) S := by
  rw [fX3_hang_L45, if_neg (show ¬ (2 : Int32) ≤ nI w from nI_ge (b := 2) hw (by omega)), m_of2, bo_s, h.1.rd (by omega), bo_s]
  by_cases c : A 0 (4 * t + 8) = 2
  · obtain ⟨z2, e1, e2⟩ := m_apartHung hN h hI ht (nI w) (k := m) (by omega)
    rw [if_pos c, e1, bx_s]
    have := hk z2 e2
    rw [if_pos c] at this
    unfold fX3_hang_L80 fX3_hang_L104
    simp only [lt_s_, nI_1]
    unfold up1 at this
    by_cases c2 : apt (fla (hangR (A 0) t (nI w)) m) < s.1
    · rw [if_pos c2]; rw [if_pos c2] at this; exact this
    · rw [if_neg c2]; rw [if_neg c2] at this; exact this
  · rw [if_neg c]
    have := hk z h
    rw [if_neg c] at this
    unfold fX3_hang_L80 fX3_hang_L104
    simp only [lt_s_, nI_1]
    rw [if_neg (show ¬ (1000000000 : Int32) < s.1 by grind)]
    exact this
theorem m_hangL {N : Nat} (hN : 300 < N) {A : St} (hI : AI A) {m : Nat} (hm : m ≤ 30) : ∀ (k n i : Nat) (z : St) (s : Int32 × Int32), i + k = cnt (A 0) → k < n → s.1 ≤ 20 → MS z A → MO (fX3_hang_L31 N n z (nI m) s.1 s.2 (nI i)) ((fld (stH (A 0) m) k i s).2, A) := by
  obtain ⟨h8, h9⟩ := hI.1.n
  intro k
  induction k with
  | zero =>
    intro n i z s hi hn hs h
    obtain ⟨n, rfl⟩ : ∃ m, n = m + 1 := ⟨n - 1, by omega⟩
    rw [fX3_hang_L31, h.1.rd0, bo_s, h9, if_pos (nI_le (by omega) (by omega))]
    exact MO_s h
  | succ k ih =>
    intro n i z s hi hn hs h
    obtain ⟨n, rfl⟩ : ∃ m, n = m + 1 := ⟨n - 1, by omega⟩
    rw [fX3_hang_L31, h.1.rd0, bo_s, h9, if_neg (nI_ge (by omega) (by omega)), fld_s]
    obtain ⟨N', rfl⟩ : ∃ m, N = m + 3 := ⟨N - 3, by omega⟩
    have hb0 := (apt_b (fla_b (Inv_hang hI.1 (t := i) (by omega) (w := 0) (by decide) (by decide)) m)).2
    have hb1 := (apt_b (fla_b (Inv_hang hI.1 (t := i) (by omega) (w := 1) (by decide) (by decide)) m)).2
    have g1 : (if A 0 (4 * i + 8) = 2 then up1 (apt (fla (hangR (A 0) i (nI 0)) m)) (10 * nI i + nI 0) s else s).1 ≤ 20 := by
      by_cases c : A 0 (4 * i + 8) = 2
      · rw [if_pos c]; exact up1_b hb0 hs
      · rw [if_neg c]; exact hs
    refine m_hangI hN hI hm (by omega) _ (w := 0) (by omega) (n := N' + 2) hs h (fun z2 h2 => ?_)
    refine m_hangI hN hI hm (by omega) _ (w := 1) (by omega) (n := N' + 1) g1 h2 (fun z3 h3 => ?_)
    rw [fX3_hang_L45, if_pos (show (2 : Int32) ≤ nI (1 + 1) by decide), lt_s_, nI_1]
    by_cases c : A 0 (4 * i + 8) = 2
    · simp only [if_pos c]
      rw [show stH (A 0) m i s = up1 (apt (fla (hangR (A 0) i 1) m)) (10 * nI i + 1) (up1 (apt (fla (hangR (A 0) i 0) m)) (10 * nI i + 0) s) from if_pos c]
      exact ih n (i + 1) z3 _ (by omega) (by omega) (up1_b hb1 (up1_b hb0 hs)) h3
    · simp only [if_neg c]
      rw [show stH (A 0) m i s = s from if_neg c]
      exact ih n (i + 1) z3 s (by omega) (by omega) hs h3
theorem m_hang {N : Nat} (hN : 300 < N) {ρ A : St} (h : MS ρ A) (hI : AI A) (p : Int32) : MO (fX3_hang N ρ p) (S_hang A p) := by
  unfold fX3_hang S_hang
  rw [j_wrong, bo_s]
  refine MO_f (fun v => if v = 0 then bx (fX3_apartNow N ρ p) (fun uq => uq) (fun v3 z2 => fX3_hang_L31 N N z2 p v3 (-9) 0) else badM N ρ v) (m_b4 N h) (m_b6 N h) (fun c2 c3 => ?_)
  obtain ⟨k, hk, rfl⟩ := upto_of (g := 30) (by omega) c2 c3
  rw [if_pos rfl, nI_clamp (by omega)]
  refine MO_b (m_apartNow hN h hI (k := k) (by omega)) (fun z hz => ?_)
  exact m_hangL hN hI hk (cnt (A 0)) N 0 z (apt (fla (A 0) k), -9) (by omega) (by have := hI.1.n.1; omega) (apt_b (fla_b hI.1 k)).2 hz
