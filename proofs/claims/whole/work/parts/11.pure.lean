/-! what a thing weighs, what pulls, how a day goes: over a row of 38 numbers -/
def thW (f g : Int32) : Int32 := (f + 1) + (if g / 2 ≤ 20 then g / 2 else 20)
def wBy (k f g d : Int32) : Int32 := if k = 1 then 2 * (f + 1) else if k = 2 then thW f g else if k = 3 then (if 5 ≤ d - d / 10 * 10 then 3 * (f + 1) else f + 1) else if k = 4 then 2 * (f + 1) + 3 else if k = 5 then (if thW f g ≤ 30 then 30 - thW f g else 0) else f + 1
def wgt (r : Nat → Int32) (t : Nat) (d : Int32) : Int32 := wBy (r (4 * t + 6)) (r (4 * t + 7)) (d - r (4 * t + 9)) d
def sumS (r : Nat → Int32) (d s : Int32) : Nat → Int32
  | 0 => 0
  | t + 1 => sumS r d s t + (if r (4 * t + 8) = s then wgt r t d else 0)
def cnt (r : Nat → Int32) : Nat := (r 0).toNatClampNeg
def pl (r : Nat → Int32) (d : Int32) : Int32 := (r 4 + sumS r d 0 (cnt r)) - (r 5 + sumS r d 1 (cnt r))
def spd (p : Int32) : Int32 := if (if 0 ≤ p then p else -p) / 4 ≤ 3 then (if 0 ≤ p then p else -p) / 4 else 3
def clp (x : Int32) : Int32 := if x < 0 then 0 else if x ≤ 20 then x else 20
def stp (f p : Int32) : Int32 := clp (if 0 < p then f - spd p else f + spd p)
def fla (r : Nat → Int32) : Nat → Int32
  | 0 => r 2
  | k + 1 => stp (fla r k) (pl r (r 1 + nI (k + 1)))
def Inv (M : Nat) (r : Nat → Int32) : Prop := (∃ n, n ≤ 8 ∧ r 0 = nI n) ∧ (∃ d, d ≤ M ∧ r 1 = nI d) ∧ (0 ≤ r 2 ∧ r 2 ≤ 20) ∧ (∃ w, w < 2 ^ 21 ∧ r 3 = nI w) ∧ (0 ≤ r 4 ∧ r 4 ≤ 50) ∧ (0 ≤ r 5 ∧ r 5 ≤ 50) ∧ ∀ t, t < 8 → (0 ≤ r (4 * t + 6) ∧ r (4 * t + 6) ≤ 5) ∧ (0 ≤ r (4 * t + 7) ∧ r (4 * t + 7) ≤ 9) ∧ (0 ≤ r (4 * t + 8) ∧ r (4 * t + 8) ≤ 2) ∧ (0 ≤ r (4 * t + 9) ∧ r (4 * t + 9) ≤ r 1)
theorem Inv.n {M : Nat} {r : Nat → Int32} (h : Inv M r) : cnt r ≤ 8 ∧ r 0 = nI (cnt r) := by
  obtain ⟨n, h1, h2⟩ := h.1
  have h3 : cnt r = n := by unfold cnt; rw [h2]; exact nI_clamp (by omega)
  rw [h3]
  exact ⟨h1, h2⟩
theorem Inv.mono {M M' : Nat} {r : Nat → Int32} (h : Inv M r) (hM : M ≤ M') : Inv M' r := by
  obtain ⟨h1, ⟨d, h2, h3⟩, h4⟩ := h
  exact ⟨h1, ⟨d, by omega, h3⟩, h4⟩
/-- the six cells of a hoist hold the row -/
def HR (τ : St) (r : Nat → Int32) : Prop := τ 0 0 = r 2 ∧ τ 0 1 = r 3 ∧ τ 0 2 = r 1 ∧ τ 0 3 = r 0 ∧ τ 1 0 = r 4 ∧ τ 1 1 = r 5 ∧ ∀ t, t < 8 → τ 2 t = r (4 * t + 6) ∧ τ 3 t = r (4 * t + 7) ∧ τ 4 t = r (4 * t + 8) ∧ τ 5 t = r (4 * t + 9)
def RR (ρ : St) (c : Nat) (r : Nat → Int32) : Prop := ∀ k, k < 38 → ρ c k = r k
theorem thing_of {M : Nat} {r : Nat → Int32} (h : Inv M r) {p : Int32} (h0 : 0 ≤ p) (h1 : p < r 0) : ∃ t, t < cnt r ∧ t < 8 ∧ p = nI t := by
  obtain ⟨h2, h3⟩ := h.n
  rw [h3] at h1
  obtain ⟨j, hj, rfl⟩ := nI_of (x := p) (by grind)
  have := (nI_ltI hj (by omega)).mp h1
  exact ⟨j, this, by omega, rfl⟩
theorem x0_has (N : Nat) {M : Nat} {τ : St} {r : Nat → Int32} (h : HR τ r) (hI : Inv M r) (p : Int32) : fX0_has N τ p = some (if 0 ≤ p ∧ p < r 0 then 1 else 0) := by
  obtain ⟨h2, h3⟩ := hI.n
  have h4 : r 0 ≤ 8 := by rw [h3]; exact nI_le (b := 8) h2 (by omega)
  unfold fX0_has
  rw [h.2.2.2.1, zr0, zr1]
  grind
theorem x0_hasT (N : Nat) {M : Nat} {τ : St} {r : Nat → Int32} (h : HR τ r) (hI : Inv M r) {t : Nat} (ht : t < cnt r) : fX0_has N τ (nI t) = some 1 := by
  obtain ⟨h2, h3⟩ := hI.n
  rw [x0_has N h hI, if_pos]
  rw [h3]
  exact ⟨nI_pos' (by omega), nI_lt ht (by omega)⟩
theorem i32_div2 {x : Int32} (h : 0 ≤ x) : 0 ≤ x / 2 := by
  obtain ⟨j, hj, rfl⟩ := nI_of (x := x) (by grind)
  have := pk_div (a := j) (d := 2) hj (by omega) (by omega)
  rw [show (2 : Int32) = nI 2 from rfl, this]
  exact nI_pos' (by omega)
theorem i32_div4 {x : Int32} (h : 0 ≤ x) : 0 ≤ x / 4 := by
  obtain ⟨j, hj, rfl⟩ := nI_of (x := x) (by grind)
  have := pk_div (a := j) (d := 4) hj (by omega) (by omega)
  rw [show (4 : Int32) = nI 4 from rfl, this]
  exact nI_pos' (by omega)
theorem thW_b {f g : Int32} (h1 : 0 ≤ f) (h2 : f ≤ 9) (h3 : 0 ≤ g) : 1 ≤ thW f g ∧ thW f g ≤ 30 := by
  have := i32_div2 h3
  unfold thW
  grind
theorem minI20 (x : Int32) : minI x 20 = if x ≤ 20 then x else 20 := by unfold minI; grind
theorem maxI30 {y : Int32} (h1 : 1 ≤ y) (h2 : y ≤ 30) : maxI (30 - y) 0 = if y ≤ 30 then 30 - y else 0 := by unfold maxI; grind
theorem i32_ge {x a y : Int32} (h : x ≤ x + a) (h2 : y ≤ x) (h3 : 0 ≤ y) : 0 ≤ (x + a) - y := by grind
theorem x0_weighs (N : Nat) {M : Nat} {τ : St} {r : Nat → Int32} (h : HR τ r) (hI : Inv M r) {t : Nat} (ht : t < cnt r) {a : Int32} (ha : r 1 ≤ r 1 + a) : fX0_weighs N τ (nI t) a = some (wgt r t (r 1 + a)) := by
  obtain ⟨h2, h3⟩ := hI.n
  obtain ⟨g1, g2, g3, g4⟩ := h.2.2.2.2.2.2 t (by omega)
  obtain ⟨i1, i2, i3, i4⟩ := hI.2.2.2.2.2.2 t (by omega)
  have hb := thW_b i2.1 i2.2 (i32_ge ha i4.2 i4.1)
  unfold fX0_weighs
  rw [x0_hasT N h hI ht, bo_s, if_neg (by decide)]
  simp only [lt_s_, bo_s, rdI_n (show t < 8 by omega) (by omega : 8 < 2 ^ 31), g1, g2, g4, h.2.2.1, minI20]
  rw [show r (4 * t + 7) + 1 + (if (r 1 + a - r (4 * t + 9)) / 2 ≤ 20 then (r 1 + a - r (4 * t + 9)) / 2 else 20) = thW (r (4 * t + 7)) (r 1 + a - r (4 * t + 9)) from rfl, maxI30 hb.1 hb.2]
  unfold wgt wBy
  simp only [apply_ite some]
theorem x0_pullL (N : Nat) {M : Nat} {τ : St} {r : Nat → Int32} (h : HR τ r) (hI : Inv M r) {a : Int32} (ha : r 1 ≤ r 1 + a) : ∀ (k n i : Nat) (acc : Int32), i + k = cnt r → k < n → acc = (r 4 - r 5) + sumS r (r 1 + a) 0 i - sumS r (r 1 + a) 1 i → fX0_pullAfter_L16 N τ n a acc (nI i) = some (pl r (r 1 + a)) := by
  obtain ⟨h2, h3⟩ := hI.n
  intro k
  induction k with
  | zero =>
    intro n i acc hi hn hacc
    obtain ⟨n, rfl⟩ : ∃ m, n = m + 1 := ⟨n - 1, by omega⟩
    rw [fX0_pullAfter_L16, h.2.2.2.1, h3, if_pos (nI_le (by omega) (by omega)), hacc]
    unfold pl
    rw [show i = cnt r by omega]
    grind
  | succ k ih =>
    intro n i acc hi hn hacc
    obtain ⟨n, rfl⟩ : ∃ m, n = m + 1 := ⟨n - 1, by omega⟩
    obtain ⟨g1, g2, g3, g4⟩ := h.2.2.2.2.2.2 i (by omega)
    rw [fX0_pullAfter_L16, h.2.2.2.1, h3, if_neg (nI_ge (by omega) (by omega)), if_neg (show ¬ (8 : Int32) ≤ nI i from nI_ge (a := i) (b := 8) (by omega) (by omega))]
    simp only [lt_s_, bo_s, rdI_n (show i < 8 by omega) (by omega : 8 < 2 ^ 31), g3, x0_weighs N h hI (show i < cnt r by omega) ha, fX0_pullAfter_L70, nI_1]
    have e0 : sumS r (r 1 + a) 0 (i + 1) = sumS r (r 1 + a) 0 i + (if r (4 * i + 8) = 0 then wgt r i (r 1 + a) else 0) := rfl
    have e1 : sumS r (r 1 + a) 1 (i + 1) = sumS r (r 1 + a) 1 i + (if r (4 * i + 8) = 1 then wgt r i (r 1 + a) else 0) := rfl
    by_cases c0 : r (4 * i + 8) = 0
    · rw [if_pos c0]
      refine ih n (i + 1) _ (by omega) (by omega) ?_
      rw [e0, e1, if_pos c0, if_neg (by rw [c0]; decide), hacc]
      grind
    · rw [if_neg c0]
      by_cases c1 : r (4 * i + 8) = 1
      · rw [if_pos c1]
        refine ih n (i + 1) _ (by omega) (by omega) ?_
        rw [e0, e1, if_neg c0, if_pos c1, hacc]
        grind
      · rw [if_neg c1]
        refine ih n (i + 1) _ (by omega) (by omega) ?_
        rw [e0, e1, if_neg c0, if_neg c1, hacc]
        grind
theorem x0_pull {N : Nat} (hN : 8 < N) {M : Nat} {τ : St} {r : Nat → Int32} (h : HR τ r) (hI : Inv M r) {a : Int32} (ha : r 1 ≤ r 1 + a) : fX0_pullAfter N τ a = some (pl r (r 1 + a)) := by
  obtain ⟨h2, h3⟩ := hI.n
  unfold fX0_pullAfter
  rw [show (0 : Int32) = nI 0 from rfl, rdI_n (by omega) (by omega), bo_s, show (1 : Int32) = nI 1 from rfl, rdI_n (by omega) (by omega), bo_s, lt_s_, h.2.2.2.2.1, h.2.2.2.2.2.1]
  refine x0_pullL N h hI ha (cnt r) N 0 _ (by omega) (by omega) ?_
  show _ = _ + 0 - 0
  grind
theorem x0_speed (N : Nat) (p : Int32) : fX0_speedBy N p = some (spd p) := by
  unfold fX0_speedBy spd absI minI
  simp only [lt_s_]
  have e : (if 0 ≤ p then p else 0 - p) = (if 0 ≤ p then p else -p) := by grind
  rw [e]
  grind
theorem clp_e (x : Int32) : maxI 0 (minI 20 x) = clp x := by unfold maxI minI clp; grind
theorem x0_moved (N : Nat) (f p : Int32) : fX0_moved N f p = some (stp f p) := by
  unfold fX0_moved fX0_moved_L19 stp
  simp only [x0_speed, bo_s, lt_s_, clp_e]
  by_cases c : 0 < p
  · rw [if_pos c, if_neg (by grind)]
  · rw [if_neg c, if_pos (by grind)]
theorem x0_floorL {N : Nat} (hN : 8 < N) {M : Nat} {τ : St} {r : Nat → Int32} (h : HR τ r) (hI : Inv M r) (hM : M + 100 < 2 ^ 31) {m : Nat} (hm : m ≤ 90) : ∀ (k n i : Nat) (f : Int32), i + k = m → k < n → f = fla r i → fX0_floorAfter_L7 N τ n (nI m) f (nI (i + 1)) = some (fla r m) := by
  obtain ⟨d, hd, hd2⟩ := hI.2.1
  intro k
  induction k with
  | zero =>
    intro n i f hi hn hf
    obtain ⟨n, rfl⟩ : ∃ m, n = m + 1 := ⟨n - 1, by omega⟩
    rw [fX0_floorAfter_L7, if_pos (nI_lt (by omega) (by omega)), hf, show i = m by omega]
  | succ k ih =>
    intro n i f hi hn hf
    obtain ⟨n, rfl⟩ : ∃ m, n = m + 1 := ⟨n - 1, by omega⟩
    have ha : r 1 ≤ r 1 + nI (i + 1) := by rw [hd2, nI_add]; exact nI_le (by omega) (by omega)
    rw [fX0_floorAfter_L7, if_neg (nI_nlt (by omega) (by omega)), x0_pull hN h hI ha, bo_s, x0_moved, bo_s, lt_s_, nI_1]
    exact ih n (i + 1) _ (by omega) (by omega) (by rw [hf]; rfl)
theorem x0_floor {N : Nat} (hN : 100 < N) {M : Nat} {τ : St} {r : Nat → Int32} (h : HR τ r) (hI : Inv M r) (hM : M + 100 < 2 ^ 31) {m : Nat} (hm : m ≤ 90) : fX0_floorAfter N τ (nI m) = some (fla r m) := by
  unfold fX0_floorAfter
  exact x0_floorL (by omega) h hI hM hm m N 0 _ (by omega) (by omega) (by rw [h.1]; rfl)
