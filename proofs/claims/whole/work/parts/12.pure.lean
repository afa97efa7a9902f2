/-! the reference's rows -/
theorem RR.c {ρ : St} {c : Nat} {r r' : Nat → Int32} (h : RR ρ c r) (e : ∀ k, k < 38 → r k = r' k) : RR ρ c r' := fun k hk => (h k hk).trans (e k hk)
theorem m_least (N : Nat) (a b : Int32) : fX3_least N a b = some (if b ≤ a then b else a) := by unfold fX3_least; grind
theorem m_sized (N : Nat) (v : Int32) : fX3_sized N v = some (if 0 ≤ v then v else -v) := by unfold fX3_sized; grind
theorem m_of (N t w : Nat) : fX3_of N (nI t) (nI w) = some (nI (4 * t + 6 + w)) := by
  unfold fX3_of
  rw [show (6 : Int32) = nI 6 from rfl, show (4 : Int32) = nI 4 from rfl, pk_mul, nI_add, nI_add, show 6 + 4 * t + w = 4 * t + 6 + w by omega]
theorem m_of0 (N t : Nat) : fX3_of N (nI t) 0 = some (nI (4 * t + 6)) := m_of N t 0
theorem m_of1 (N t : Nat) : fX3_of N (nI t) 1 = some (nI (4 * t + 7)) := m_of N t 1
theorem m_of2 (N t : Nat) : fX3_of N (nI t) 2 = some (nI (4 * t + 8)) := m_of N t 2
theorem m_of3 (N t : Nat) : fX3_of N (nI t) 3 = some (nI (4 * t + 9)) := m_of N t 3
theorem RR.rd {ρ : St} {c : Nat} {r : Nat → Int32} (h : RR ρ c r) {k : Nat} (hk : k < 38) : rdI ρ c 38 (nI k) = some (r k) := by rw [rdI_n hk (by omega), h k hk]
theorem RR.rd0 {ρ : St} {c : Nat} {r : Nat → Int32} (h : RR ρ c r) : rdI ρ c 38 0 = some (r 0) := h.rd (k := 0) (by omega)
theorem RR.rd1 {ρ : St} {c : Nat} {r : Nat → Int32} (h : RR ρ c r) : rdI ρ c 38 1 = some (r 1) := h.rd (k := 1) (by omega)
theorem RR.rd2 {ρ : St} {c : Nat} {r : Nat → Int32} (h : RR ρ c r) : rdI ρ c 38 2 = some (r 2) := h.rd (k := 2) (by omega)
theorem RR.rd3 {ρ : St} {c : Nat} {r : Nat → Int32} (h : RR ρ c r) : rdI ρ c 38 3 = some (r 3) := h.rd (k := 3) (by omega)
theorem RR.wr {ρ : St} {c : Nat} {r : Nat → Int32} (h : RR ρ c r) (k : Nat) (v : Int32) : RR (up2 ρ c k v) c (fun i => if i = k then v else r i) := by
  intro i hi
  rw [up2_a]
  by_cases e : i = k
  · simp [e]
  · simp [e, h i hi]
theorem m_weighsBy (N : Nat) (k f g d : Int32) : fX3_weighsBy N k f g d = some (wBy k f g d) := by
  unfold fX3_weighsBy
  simp only [lt_s_, m_least, bo_s]
  unfold wBy thW
  simp only [apply_ite some]
theorem m_weighsOn (N : Nat) {ρ : St} {r : Nat → Int32} (h : RR ρ 0 r) {t : Nat} (ht : t < 8) (d : Int32) : fX3_weighsOn N ρ (nI t) d = some (wgt r t d) := by
  unfold fX3_weighsOn
  rw [m_of0, bo_s, h.rd (by omega), bo_s, m_of1, bo_s, h.rd (by omega), bo_s, m_of3, bo_s, h.rd (by omega), bo_s, m_weighsBy, bo_s]
  rfl
theorem m_weighs (N : Nat) {ρ : St} {r : Nat → Int32} (h : RR ρ 0 r) {t : Nat} (ht : t < 8) : fX3_weighs N ρ (nI t) = some (wgt r t (r 1)) := by
  unfold fX3_weighs
  rw [h.rd1, bo_s, m_weighsOn N h ht, bo_s]
def Cn (r : Nat → Int32) : Prop := cnt r ≤ 8 ∧ r 0 = nI (cnt r)
theorem m_weightL (N : Nat) {ρ : St} {r : Nat → Int32} (h : RR ρ 0 r) (hc : Cn r) (s : Int32) : ∀ (k n i : Nat) (acc b : Int32), i + k = cnt r → k < n → acc = b + sumS r (r 1) s i → fX3_weight_L8 N ρ n s acc (nI i) = some (b + sumS r (r 1) s (cnt r)) := by
  obtain ⟨h2, h3⟩ := hc
  intro k
  induction k with
  | zero =>
    intro n i acc b hi hn hacc
    obtain ⟨n, rfl⟩ : ∃ m, n = m + 1 := ⟨n - 1, by omega⟩
    rw [fX3_weight_L8, h.rd0, bo_s, h3, if_pos (nI_le (by omega) (by omega)), hacc, show i = cnt r by omega]
  | succ k ih =>
    intro n i acc b hi hn hacc
    obtain ⟨n, rfl⟩ : ∃ m, n = m + 1 := ⟨n - 1, by omega⟩
    rw [fX3_weight_L8, h.rd0, bo_s, h3, if_neg (nI_ge (by omega) (by omega)), m_of2, bo_s, h.rd (by omega), bo_s]
    simp only [m_weighs N h (show i < 8 by omega), bo_s, fX3_weight_L36, lt_s_, nI_1]
    have e0 : sumS r (r 1) s (i + 1) = sumS r (r 1) s i + (if r (4 * i + 8) = s then wgt r i (r 1) else 0) := rfl
    by_cases c0 : r (4 * i + 8) = s
    · rw [if_pos c0]
      exact ih n (i + 1) _ b (by omega) (by omega) (by rw [e0, if_pos c0, hacc]; grind)
    · rw [if_neg c0]
      exact ih n (i + 1) _ b (by omega) (by omega) (by rw [e0, if_neg c0, hacc]; grind)
theorem m_weight {N : Nat} (hN : 8 < N) {ρ : St} {r : Nat → Int32} (h : RR ρ 0 r) (hc : Cn r) {s : Nat} (hs : s < 2) : fX3_weight N ρ (nI s) = some (r (4 + s) + sumS r (r 1) (nI s) (cnt r)) := by
  unfold fX3_weight
  rw [show (4 : Int32) = nI 4 from rfl, nI_add, h.rd (by omega), bo_s]
  exact m_weightL N h hc (nI s) (cnt r) N 0 _ _ (by omega) (by have := hc.1; omega) (by show _ = _ + 0; grind)
theorem m_pull {N : Nat} (hN : 8 < N) {ρ : St} {r : Nat → Int32} (h : RR ρ 0 r) (hc : Cn r) : fX3_pullIn N ρ = some (pl r (r 1)) := by
  unfold fX3_pullIn
  have a := m_weight hN h hc (s := 0) (by omega)
  have b := m_weight hN h hc (s := 1) (by omega)
  rw [show (0 : Int32) = nI 0 from rfl, a, bo_s, show (1 : Int32) = nI 1 from rfl, b, bo_s]
  rfl
theorem sumS_c {r r' : Nat → Int32} (e : ∀ i, 3 < i → r' i = r i) (d s : Int32) : ∀ n, sumS r' d s n = sumS r d s n := by
  intro n
  induction n with
  | zero => rfl
  | succ n ih =>
    show sumS r' d s n + _ = sumS r d s n + _
    rw [ih, e _ (by omega)]
    unfold wgt
    rw [e _ (by omega), e _ (by omega), e _ (by omega)]
theorem pl_c {r r' : Nat → Int32} (e0 : r' 0 = r 0) (e : ∀ i, 3 < i → r' i = r i) (d : Int32) : pl r' d = pl r d := by
  unfold pl cnt
  rw [e0, e 4 (by omega), e 5 (by omega), sumS_c e, sumS_c e]
def dayR (r : Nat → Int32) (m : Int32) : Nat → Int32 := fun i => if i = 1 then r 1 + 1 else if i = 2 then stp (r 2) (pl r (r 1 + 1) + m) else r i
theorem wr1 {ρ : St} {c : Nat} {v : Int32} : wrI ρ c 38 1 v = some (up2 ρ c 1 v) := wrI_n (t := 1) (by omega) (by omega)
theorem wr2 {ρ : St} {c : Nat} {v : Int32} : wrI ρ c 38 2 v = some (up2 ρ c 2 v) := wrI_n (t := 2) (by omega) (by omega)
theorem wr3 {ρ : St} {c : Nat} {v : Int32} : wrI ρ c 38 3 v = some (up2 ρ c 3 v) := wrI_n (t := 3) (by omega) (by omega)
theorem clp_a (v : Int32) : clp v = if 0 ≤ v then (if v ≤ 20 then v else 20) else 0 := by unfold clp; grind
theorem m_day {N : Nat} (hN : 8 < N) {ρ : St} {r : Nat → Int32} (h : RR ρ 0 r) (hc : Cn r) (m : Int32) : ∃ z, fX3_day N ρ m = some z ∧ RR z 0 (dayR r m) := by
  unfold fX3_day
  rw [h.rd1, bo_s, lt_s_, wr1, bo_s]
  have h2 := h.wr 1 (r 1 + 1)
  have hc2 : Cn (fun i => if i = 1 then r 1 + 1 else r i) := hc
  rw [m_pull hN h2 hc2, bo_s, lt_s_]
  have ep : pl (fun i => if i = 1 then r 1 + 1 else r i) ((fun i => if i = 1 then r 1 + 1 else r i) 1) = pl r (r 1 + 1) := pl_c (r := r) (r' := fun i => if i = 1 then r 1 + 1 else r i) rfl (fun i hi => if_neg (by omega)) (r 1 + 1)
  rw [ep, m_sized, bo_s, m_least, bo_s, h2.rd2, bo_s]
  have h3 : ∀ y, RR (up2 (up2 ρ 0 1 (r 1 + 1)) 0 2 y) 0 (fun i => if i = 2 then y else if i = 1 then r 1 + 1 else r i) := fun y => h2.wr 2 y
  have key : ∀ y1 y0 : Int32, fX3_day_L38 N (up2 ρ 0 1 (r 1 + 1)) y0 y1 = some (up2 (up2 ρ 0 1 (r 1 + 1)) 0 2 (clp (y1 + y0))) := by
    intro y1 y0
    unfold fX3_day_L38 fX3_day_L59
    rw [lt_s_, clp_a]
    by_cases c : 0 ≤ y1 + y0
    · rw [if_pos c, if_pos c, m_least, bo_s, wr2, bo_s]
    · rw [if_neg c, if_neg c, wr2, bo_s]
  rw [key, key]
  have es : ∀ v : Int32, (if (if 0 ≤ v then v else -v) / 4 ≤ 3 then (if 0 ≤ v then v else -v) / 4 else 3) = spd v := fun _ => rfl
  rw [if_neg (show ¬ (2 : Nat) = 1 by omega), es]
  have e4 : ∀ y, y = stp (r 2) (pl r (r 1 + 1) + m) → ∀ k, k < 38 → (fun i => if i = 2 then y else if i = 1 then r 1 + 1 else r i) k = dayR r m k := by
    intro y hy k _
    unfold dayR
    by_cases k1 : k = 1
    · simp [k1]
    · by_cases k2 : k = 2
      · simp [k2, hy]
      · simp [k1, k2]
  by_cases c : pl r (r 1 + 1) + m ≤ 0
  · rw [if_pos c]
    refine ⟨_, rfl, (h3 _).c (e4 _ ?_)⟩
    unfold stp
    rw [if_neg (by grind)]
  · rw [if_neg c]
    refine ⟨_, rfl, (h3 _).c (e4 _ ?_)⟩
    unfold stp
    rw [if_pos (by grind)]
    congr 1
    grind
def adv (r : Nat → Int32) (k : Nat) : Nat → Int32 := fun i => if i = 1 then r 1 + nI k else if i = 2 then fla r k else r i
theorem adv_pl (r : Nat → Int32) (k : Nat) (d : Int32) : pl (adv r k) d = pl r d := pl_c (r := r) (r' := adv r k) rfl (fun i hi => by unfold adv; rw [if_neg (by omega), if_neg (by omega)]) d
theorem adv_cn {r : Nat → Int32} (hc : Cn r) (k : Nat) : Cn (adv r k) := hc
theorem adv_s (r : Nat → Int32) (k : Nat) : ∀ i, dayR (adv r k) 0 i = adv r (k + 1) i := by
  intro i
  unfold dayR
  rw [adv_pl]
  unfold adv
  by_cases k1 : i = 1
  · simp only [k1, if_true]
    rw [← nI_1]
    grind
  · by_cases k2 : i = 2
    · subst k2
      simp only [k1, if_false, if_true]
      show stp (fla r k) _ = stp (fla r k) _
      rw [← nI_1, show r 1 + (nI k + 1) = r 1 + nI k + 1 by grind]
      congr 1
      grind
    · simp only [k1, k2, if_false]
theorem adv_0 (r : Nat → Int32) : ∀ i, adv r 0 i = r i := by
  intro i
  unfold adv
  by_cases k1 : i = 1
  · subst k1
    simp only [if_true, nI_0]
    grind
  · by_cases k2 : i = 2
    · subst k2; rfl
    · simp only [k1, k2, if_false]
theorem m_dayA {N : Nat} (hN : 8 < N) {ρ : St} {r : Nat → Int32} {k : Nat} (h : RR ρ 0 (adv r k)) (hc : Cn r) : ∃ z, fX3_day N ρ 0 = some z ∧ RR z 0 (adv r (k + 1)) := by
  obtain ⟨z, h1, h2⟩ := m_day hN h (adv_cn hc k) 0
  exact ⟨z, h1, h2.c (fun i _ => adv_s r k i)⟩
theorem m_daysL {N : Nat} (hN : 8 < N) {r : Nat → Int32} (hc : Cn r) {m : Nat} (hm : m < 2 ^ 31) : ∀ (k n i : Nat) (ρ : St), i + k = m → k < n → RR ρ 0 (adv r i) → ∃ z, fX3_daysOn_L2 N n ρ (nI m) (nI i) = some z ∧ RR z 0 (adv r m) := by
  intro k
  induction k with
  | zero =>
    intro n i ρ hi hn h
    obtain ⟨n, rfl⟩ : ∃ m, n = m + 1 := ⟨n - 1, by omega⟩
    rw [fX3_daysOn_L2, if_pos (nI_le (by omega) (by omega))]
    exact ⟨ρ, rfl, by rw [show m = i by omega]; exact h⟩
  | succ k ih =>
    intro n i ρ hi hn h
    obtain ⟨n, rfl⟩ : ∃ m, n = m + 1 := ⟨n - 1, by omega⟩
    obtain ⟨z, h1, h2⟩ := m_dayA hN h hc
    rw [fX3_daysOn_L2, if_neg (nI_ge (by omega) (by omega)), h1, by_s, lt_s_, nI_1]
    exact ih n (i + 1) z (by omega) (by omega) h2
theorem m_days {N : Nat} (hN : 100 < N) {r : Nat → Int32} (hc : Cn r) {m : Nat} (hm : m ≤ 90) {ρ : St} (h : RR ρ 0 r) : ∃ z, fX3_daysOn N ρ (nI m) = some z ∧ RR z 0 (adv r m) := by
  unfold fX3_daysOn
  exact m_daysL (by omega) hc (by omega) m N 0 ρ (by omega) (by omega) (h.c (fun i _ => (adv_0 r i).symm))
def hangR (r : Nat → Int32) (t : Nat) (w : Int32) : Nat → Int32 := fun i => if i = 4 * t + 9 then r 1 else if i = 4 * t + 8 then w else r i
theorem m_hangsIn (N : Nat) {ρ : St} {r : Nat → Int32} (h : RR ρ 0 r) {t : Nat} (ht : t < 8) (w : Int32) : ∃ z, fX3_hangsIn N ρ (nI t) w = some z ∧ RR z 0 (hangR r t w) := by
  unfold fX3_hangsIn
  have h2 := h.wr (4 * t + 8) w
  rw [m_of2, bo_s, wrI_n (by omega) (by omega), bo_s, m_of3, bo_s, h2.rd1, bo_s, wrI_n (by omega) (by omega), bo_s]
  refine ⟨_, rfl, (h2.wr (4 * t + 9) _).c (fun k _ => ?_)⟩
  unfold hangR
  rw [if_neg (show ¬ 1 = 4 * t + 8 by omega)]
theorem m_copL (N : Nat) {r : Nat → Int32} : ∀ (k n i : Nat) (ρ : St), i + k = 38 → k < n → RR ρ 0 r → (∀ j, j < i → ρ 1 j = r j) → ∃ z, fX3_copies_L2 N n ρ (nI i) = some z ∧ RR z 0 r ∧ RR z 1 r := by
  intro k
  induction k with
  | zero =>
    intro n i ρ hi hn h h1
    obtain ⟨n, rfl⟩ : ∃ m, n = m + 1 := ⟨n - 1, by omega⟩
    rw [fX3_copies_L2, if_pos (show (38 : Int32) ≤ nI i from nI_le (a := 38) (by omega) (by omega))]
    exact ⟨ρ, rfl, h, fun j hj => h1 j (by omega)⟩
  | succ k ih =>
    intro n i ρ hi hn h h1
    obtain ⟨n, rfl⟩ : ∃ m, n = m + 1 := ⟨n - 1, by omega⟩
    rw [fX3_copies_L2, if_neg (show ¬ (38 : Int32) ≤ nI i from nI_ge (b := 38) (by omega) (by omega)), h.rd (by omega), bo_s, wrI_n (by omega) (by omega), bo_s, lt_s_, nI_1]
    refine ih n (i + 1) _ (by omega) (by omega) (fun j hj => ?_) (fun j hj => ?_)
    · rw [up2_a, if_neg (by omega), h j hj]
    · rw [up2_a]
      by_cases e : j = i
      · rw [if_pos ⟨rfl, e⟩, e]
      · rw [if_neg (by omega), h1 j (by omega)]
theorem m_copies {N : Nat} (hN : 38 < N) {r : Nat → Int32} {ρ : St} (h : RR ρ 0 r) : ∃ z, fX3_copies N ρ = some z ∧ RR z 0 r ∧ RR z 1 r := by
  unfold fX3_copies
  exact m_copL N 38 N 0 ρ (by omega) (by omega) h (fun j hj => by omega)
