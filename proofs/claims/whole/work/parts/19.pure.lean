/-! DAYS to come, looked at one by one -/
theorem x0_foreL {N : Nat} (hN : 8 < N) {r : Nat → Int32} {M : Nat} (hI : Inv M r) (hM : M + 100 < 2 ^ 31) {m : Nat} (hm : m ≤ 70) : ∀ (k n i : Nat) (z : St), i + k = m + 1 → k < n → HR z r → (∀ j, j < i → z 6 j = fla r j) → ∃ z', fX0_foresee_L8 N n z (nI m) (fla r (i - 1)) (nI i) = some z' ∧ HR z' r ∧ ∀ j, j ≤ m → z' 6 j = fla r j := by
  intro k
  induction k with
  | zero =>
    intro n i z hi hn h h6
    obtain ⟨n, rfl⟩ : ∃ m, n = m + 1 := ⟨n - 1, by omega⟩
    rw [fX0_foresee_L8, if_pos (nI_lt (by omega) (by omega))]
    exact ⟨z, rfl, h, fun j hj => h6 j (by omega)⟩
  | succ k ih =>
    intro n i z hi hn h h6
    obtain ⟨n, rfl⟩ : ∃ m, n = m + 1 := ⟨n - 1, by omega⟩
    rw [fX0_foresee_L8, if_neg (nI_nlt (by omega) (by omega)), if_neg (show ¬ (71 : Int32) ≤ nI i from nI_ge (b := 71) (by omega) (by omega))]
    have step : ∀ at', at' = fla r i → ∃ z', fX0_foresee_L37 N (fX0_foresee_L8 N n) z (nI m) at' (nI i) = some z' ∧ HR z' r ∧ ∀ j, j ≤ m → z' 6 j = fla r j := by
      intro at' ha
      unfold fX0_foresee_L37
      rw [wrI_n (by omega) (by omega), bo_s, lt_s_, nI_1, ha]
      refine ih n (i + 1) _ (by omega) (by omega) h (fun j hj => ?_)
      rw [up2_a]
      by_cases q : j = i
      · rw [if_pos ⟨rfl, q⟩, q]
      · rw [if_neg (fun w => q w.2)]; exact h6 j (by omega)
    by_cases c : i = 0
    · subst c
      rw [if_pos (by decide)]
      exact step _ rfl
    · have hp : ¬ nI i ≤ 0 := nI_nle (by omega) (by omega)
      rw [if_neg hp, x0_pull (by omega : 8 < N) (τ := sb [0, 1, 2, 3, 4, 5] z) h hI (day_le hI (by omega)), bo_s, x0_moved, bo_s]
      refine step _ ?_
      obtain ⟨i', rfl⟩ : ∃ i', i = i' + 1 := ⟨i - 1, by omega⟩
      rfl
theorem x0_foresee {N : Nat} (hN : 100 < N) {r : Nat → Int32} {M : Nat} (hI : Inv M r) (hM : M + 100 < 2 ^ 31) {m : Nat} (hm : m ≤ 70) {σ : St} (h : HR σ r) : ∃ z', fX0_foresee N σ (nI m) = some z' ∧ HR z' r ∧ ∀ j, j ≤ m → z' 6 j = fla r j := by
  unfold fX0_foresee
  have := x0_foreL (by omega : 8 < N) hI hM hm (m + 1) N 0 σ (by omega) (by omega) h (fun j hj => by omega)
  rw [show σ 0 0 = fla r (0 - 1) from h.1]
  exact this
theorem c_fore {N : Nat} (hN : 300 < N) {σ A : St} (h : CS σ A) (hI : AI A) {m : Nat} (hm : m ≤ 70) : ∃ z, fX0_foresee N (sb [1, 2, 3, 4, 5, 6, 21] σ) (nI m) = some z ∧ CS (pb [1, 2, 3, 4, 5, 6, 21] z σ) A ∧ ∀ j, j ≤ m → pb [1, 2, 3, 4, 5, 6, 21] z σ 21 j = fla (A 0) j := by
  obtain ⟨z, e1, e2, e3⟩ := x0_foresee (by omega : 100 < N) hI.1 (by omega) hm (σ := sb [1, 2, 3, 4, 5, 6, 21] σ) h.1
  exact ⟨z, e1, ⟨e2, h.2⟩, e3⟩
/-- the first place from i on, of k, at which it is so -/
def frs (q : Nat → Bool) : Nat → Nat → Int32
  | 0, _ => -9
  | k + 1, i => if q i = true then nI i else frs q k (i + 1)
theorem frs_s (q : Nat → Bool) (k i : Nat) : frs q (k + 1) i = if q i = true then nI i else frs q k (i + 1) := rfl
theorem frs_c {q q' : Nat → Bool} : ∀ (k i : Nat), (∀ j, i ≤ j → j < i + k → q j = q' j) → frs q k i = frs q' k i
  | 0, _, _ => rfl
  | k + 1, i, h => by
    unfold frs
    rw [h i (by omega) (by omega), frs_c k (i + 1) (fun j h1 h2 => h j (by omega) (by omega))]
theorem c_firstL (N : Nat) {r : Nat → Int32} {z : St} (h : ∀ j, j ≤ 60 → z 21 j = fla r j) (s f : Int32) : ∀ (k n i : Nat), i + k = 61 → k < n → fX2_firstAt_L15 N n z s f (nI i) = some (frs (fun i => decide (hgt s (fla r i) = f)) k i, z) := by
  intro k
  induction k with
  | zero =>
    intro n i hi hn
    obtain ⟨n, rfl⟩ : ∃ m, n = m + 1 := ⟨n - 1, by omega⟩
    rw [fX2_firstAt_L15, if_pos (show (60 : Int32) < nI i from nI_lt (a := 60) (by omega) (by omega))]
    rfl
  | succ k ih =>
    intro n i hi hn
    obtain ⟨n, rfl⟩ : ∃ m, n = m + 1 := ⟨n - 1, by omega⟩
    rw [fX2_firstAt_L15, if_neg (show ¬ (60 : Int32) < nI i from nI_nlt (a := 60) (by omega) (by omega)), if_neg (show ¬ (71 : Int32) ≤ nI i from nI_ge (b := 71) (by omega) (by omega)), rdI_n (by omega) (by omega), bo_s, x0_height, bo_s, h i (by omega), lt_s_, nI_1, ih n (i + 1) (by omega) (by omega)]
    rw [frs_s]
    by_cases c : hgt s (fla r i) = f
    · rw [if_pos c, if_pos (by simpa using c)]
    · rw [if_neg c, if_neg (by simpa using c)]
theorem c_first {N : Nat} (hN : 300 < N) {σ A : St} (h : CS σ A) (hI : AI A) (s f : Int32) : CO (fX2_firstAt N σ s f) (frs (fun i => decide (hgt s (fla (A 0) i) = f)) 61 0, A) := by
  unfold fX2_firstAt
  obtain ⟨z, e1, e2, e3⟩ := c_fore hN h hI (m := 60) (by omega)
  rw [show (60 : Int32) = nI 60 from rfl, e1, by_s]
  have := c_firstL N e3 s f 61 N 0 (by omega) (by omega)
  rw [show fX2_firstAt_L15 N N (pb [1, 2, 3, 4, 5, 6, 21] z σ) s f 0 = _ from this]
  exact CO_s e2
theorem m_whenL {N : Nat} (hN : 8 < N) {A : St} (hI : AI A) (s w : Int32) : ∀ (k n i : Nat) (z : St), i + k = 61 → k < n → MS z A → RR (sb [2] z) 0 (adv (A 0) i) → ∃ z', fX3_whenAt_L13 N n z s w (nI i) = some (frs (fun i => decide (bitAt w (hgt s (fla (A 0) i)) = 1)) k i, z') ∧ MS z' A := by
  intro k
  induction k with
  | zero =>
    intro n i z hi hn h h2
    obtain ⟨n, rfl⟩ : ∃ m, n = m + 1 := ⟨n - 1, by omega⟩
    rw [fX3_whenAt_L13, if_pos (show (60 : Int32) < nI i from nI_lt (a := 60) (by omega) (by omega))]
    exact ⟨z, rfl, h⟩
  | succ k ih =>
    intro n i z hi hn h h2
    obtain ⟨n, rfl⟩ : ∃ m, n = m + 1 := ⟨n - 1, by omega⟩
    obtain ⟨z2, e1, e2⟩ := m_dayA hN h2 hI.cn
    rw [fX3_whenAt_L13, if_neg (show ¬ (60 : Int32) < nI i from nI_nlt (a := 60) (by omega) (by omega)), m_floorOf N h2, bo_s, m_has, bo_s, e1, by_s, lt_s_, nI_1]
    have e3 : adv (A 0) i 2 = fla (A 0) i := rfl
    rw [e3]
    rw [frs_s]
    by_cases c : bitAt w (hgt s (fla (A 0) i)) = 1
    · rw [if_pos c, if_neg (by decide), if_pos (by simpa using c)]
      exact ⟨z, rfl, h⟩
    · rw [if_neg c, if_pos rfl, if_neg (by simpa using c)]
      exact ih n (i + 1) _ (by omega) (by omega) h e2
theorem m_when {N : Nat} (hN : 300 < N) {ρ A : St} (h : MS ρ A) (hI : AI A) (s w : Int32) : MO (fX3_whenAt N ρ s w) (frs (fun i => decide (bitAt w (hgt s (fla (A 0) i)) = 1)) 61 0, A) := by
  unfold fX3_whenAt
  obtain ⟨z, e1, e2, e3⟩ := m_cop hN h
  rw [e1, by_s]
  obtain ⟨z', e4, e5⟩ := m_whenL (by omega : 8 < N) hI s w 61 N 0 _ (by omega) (by omega) e2 (e3.c (fun i _ => (adv_0 (A 0) i).symm))
  exact ⟨z', e4, e5⟩
theorem hgt_b {s f : Int32} (hs : 0 ≤ s ∧ s ≤ 1) (hf : 0 ≤ f ∧ f ≤ 20) : 0 ≤ hgt s f ∧ hgt s f ≤ 20 := by
  unfold hgt
  by_cases c : s = 0
  · rw [if_pos c]; exact hf
  · rw [if_neg c]; exact ⟨by grind, by grind⟩
theorem bit_one : ∀ f, f ≤ 20 → ∀ g, g ≤ 20 → (bitAt ((1 : Int32) <<< (nI f &&& 31)) (nI g) = 1 ↔ nI g = nI f) := by decide +kernel
theorem bit_str : ∀ g, g ≤ 20 → (bitAt 1048577 (nI g) = 1 ↔ nI g = 0 ∨ nI g = 20) := by decide +kernel
def S_first (A : St) (s f : Int32) : Int32 × St := (frs (fun i => decide (hgt s (fla (A 0) i) = f)) 61 0, A)
theorem m_first {N : Nat} (hN : 300 < N) {ρ A : St} (h : MS ρ A) (hI : AI A) {s f : Int32} (hs : 0 ≤ s ∧ s ≤ 1) (hf : 0 ≤ f ∧ f ≤ 20) : MO (fX3_whenAt N ρ s ((1 : Int32) <<< (f &&& 31))) (S_first A s f) := by
  have := m_when hN h hI s ((1 : Int32) <<< (f &&& 31))
  unfold S_first
  rw [frs_c (q := fun i => decide (hgt s (fla (A 0) i) = f)) (q' := fun i => decide (bitAt ((1 : Int32) <<< (f &&& 31)) (hgt s (fla (A 0) i)) = 1)) 61 0 (fun j _ _ => ?_)]
  · exact this
  · obtain ⟨g, hg, eg⟩ := floor_of (hgt_b hs (fla_b hI.1 j))
    obtain ⟨f', hf', rfl⟩ := floor_of hf
    simp only [eg, bit_one f' hf' g hg]
theorem CO_u {o : Option (Int32 × St)} {s : Int32 × St} (h : CO o s) : CO (bx o (fun uq => uq) (fun v z => some (v, z))) s := by
  obtain ⟨z, e1, e2⟩ := h
  rw [e1, bx_s]
  exact ⟨z, rfl, e2⟩
theorem MO_u {o : Option (Int32 × St)} {s : Int32 × St} (h : MO o s) : MO (bx o (fun uq => uq) (fun v z => some (v, z))) s := by
  obtain ⟨z, e1, e2⟩ := h
  rw [e1, bx_s]
  exact ⟨z, rfl, e2⟩
theorem c_meets {N : Nat} (hN : 300 < N) {σ A : St} (h : CS σ A) (hI : AI A) : CO (fX2_meets N σ) (S_first A 0 10) := CO_u (c_first hN h hI 0 10)
theorem m_meets {N : Nat} (hN : 300 < N) {ρ A : St} (h : MS ρ A) (hI : AI A) : MO (fX3_meets N ρ) (S_first A 0 10) := MO_u (m_first hN h hI (s := 0) (f := 10) (by decide) (by decide))
def S_comes (A : St) (p1 p2 : Int32) : Int32 × St := if 0 ≤ p1 ∧ p1 ≤ 1 then (if 0 ≤ p2 ∧ p2 ≤ 20 then S_first A p1 p2 else (-1, rf A 1)) else (-1, rf A 1)
theorem c_comes {N : Nat} (hN : 300 < N) {σ A : St} (h : CS σ A) (hI : AI A) (p1 p2 : Int32) : CO (fX2_comes N σ p1 p2) (S_comes A p1 p2) := by
  unfold fX2_comes S_comes
  rw [i_side, bo_s]
  refine CO_t (fun c1 => ?_) (fun _ => c_b1 N h)
  rw [i_floor, bo_s]
  exact CO_t (fun c2 => CO_u (c_first hN h hI p1 p2)) (fun _ => c_b1 N h)
theorem m_comes {N : Nat} (hN : 300 < N) {ρ A : St} (h : MS ρ A) (hI : AI A) (p1 p2 : Int32) : MO (fX3_comes N ρ p1 p2) (S_comes A p1 p2) := by
  unfold fX3_comes S_comes
  rw [j_side, bo_s]
  refine MO_t (fun c1 => ?_) (fun _ => m_b1 N h)
  rw [j_floor, bo_s]
  exact MO_t (fun c2 => MO_u (m_first hN h hI c1 c2)) (fun _ => m_b1 N h)
/-! door -/
def S_door (A : St) (p1 : Int32) : Int32 × St := if 0 ≤ p1 ∧ p1 ≤ 1 then (frs (fun i => decide (bitAt (A 0 3) (hgt p1 (fla (A 0) i)) = 1)) 61 0, A) else (-1, rf A 1)
theorem c_doorL (N : Nat) {A z : St} (hI : AI A) (hz : CS z A) (h : ∀ j, j ≤ 60 → z 21 j = fla (A 0) j) {s : Int32} (hs : 0 ≤ s ∧ s ≤ 1) : ∀ (k n i : Nat), i + k = 61 → k < n → fX2_door_L28 N n z s (nI i) = some (frs (fun i => decide (bitAt (A 0 3) (hgt s (fla (A 0) i)) = 1)) k i, z) := by
  intro k
  induction k with
  | zero =>
    intro n i hi hn
    obtain ⟨n, rfl⟩ : ∃ m, n = m + 1 := ⟨n - 1, by omega⟩
    rw [fX2_door_L28, if_pos (show (60 : Int32) < nI i from nI_lt (a := 60) (by omega) (by omega))]
    rfl
  | succ k ih =>
    intro n i hi hn
    obtain ⟨n, rfl⟩ : ∃ m, n = m + 1 := ⟨n - 1, by omega⟩
    rw [fX2_door_L28, if_neg (show ¬ (60 : Int32) < nI i from nI_nlt (a := 60) (by omega) (by omega)), if_neg (show ¬ (71 : Int32) ≤ nI i from nI_ge (b := 71) (by omega) (by omega)), rdI_n (by omega) (by omega), bo_s, x0_height, bo_s, h i (by omega), x0_isDoor N hz.1 (hgt_b hs (fla_b hI.1 i)), bo_s, lt_s_, nI_1, ih n (i + 1) (by omega) (by omega)]
    rw [frs_s]
    by_cases c : bitAt (A 0 3) (hgt s (fla (A 0) i)) = 1
    · rw [if_pos c, if_neg (by decide), if_pos (by simpa using c)]
    · rw [if_neg c, if_pos rfl, if_neg (by simpa using c)]
theorem c_door {N : Nat} (hN : 300 < N) {σ A : St} (h : CS σ A) (hI : AI A) (p1 : Int32) : CO (fX2_door N σ p1) (S_door A p1) := by
  unfold fX2_door S_door
  rw [i_side, bo_s]
  refine CO_t (fun c1 => ?_) (fun _ => c_b1 N h)
  obtain ⟨z, e1, e2, e3⟩ := c_fore hN h hI (m := 60) (by omega)
  rw [show (60 : Int32) = nI 60 from rfl, e1, by_s]
  have := c_doorL N hI e2 e3 c1 61 N 0 (by omega) (by omega)
  rw [show fX2_door_L28 N N (pb [1, 2, 3, 4, 5, 6, 21] z σ) p1 0 = _ from this]
  exact CO_s e2
theorem m_door {N : Nat} (hN : 300 < N) {ρ A : St} (h : MS ρ A) (hI : AI A) (p1 : Int32) : MO (fX3_door N ρ p1) (S_door A p1) := by
  unfold fX3_door S_door
  rw [j_side, bo_s]
  refine MO_t (fun c1 => ?_) (fun _ => m_b1 N h)
  rw [h.1.rd3, bo_s]
  exact MO_u (m_when hN h hI p1 (A 0 3))
/-! strikes and still -/
theorem c_strikeL (N : Nat) {r : Nat → Int32} {z : St} (h : ∀ j, j ≤ 60 → z 21 j = fla r j) : ∀ (k n i : Nat), i + k = 61 → k < n → fX2_firstStrike_L15 N n z (nI i) = some (frs (fun i => decide (fla r i = 0 ∨ fla r i = 20)) k i, z) := by
  intro k
  induction k with
  | zero =>
    intro n i hi hn
    obtain ⟨n, rfl⟩ : ∃ m, n = m + 1 := ⟨n - 1, by omega⟩
    rw [fX2_firstStrike_L15, if_pos (show (60 : Int32) < nI i from nI_lt (a := 60) (by omega) (by omega))]
    rfl
  | succ k ih =>
    intro n i hi hn
    obtain ⟨n, rfl⟩ : ∃ m, n = m + 1 := ⟨n - 1, by omega⟩
    rw [fX2_firstStrike_L15, if_neg (show ¬ (60 : Int32) < nI i from nI_nlt (a := 60) (by omega) (by omega)), if_neg (show ¬ (71 : Int32) ≤ nI i from nI_ge (b := 71) (by omega) (by omega)), rdI_n (by omega) (by omega), bo_s, bo_s, h i (by omega), lt_s_, nI_1, ih n (i + 1) (by omega) (by omega)]
    rw [frs_s]
    by_cases c : fla r i = 0
    · rw [if_pos c, if_pos (by simp [c])]
    · rw [if_neg c]
      by_cases c2 : fla r i = 20
      · rw [if_pos c2, if_pos (by simp [c2])]
      · rw [if_neg c2, if_neg (by simp [c, c2])]
def stl (r : Nat → Int32) : Nat → Nat → Nat → Int32
  | 0, _, _ => -9
  | k + 1, n, run => if fla r (n + 1) = fla r n then (if run + 1 = 10 then nI (n - 9) else stl r k (n + 1) (run + 1)) else stl r k (n + 1) 0
theorem c_stillL (N : Nat) {r : Nat → Int32} {z : St} (h : ∀ j, j ≤ 70 → z 21 j = fla r j) : ∀ (k n i run : Nat), i + k = 70 → k < n → run ≤ i → run < 10 → fX2_firstStill_L17 N n z (nI (i - run)) (nI (i + 1)) = some (stl r k i run, z) := by
  intro k
  induction k with
  | zero =>
    intro n i run hi hn hr hr10
    obtain ⟨n, rfl⟩ : ∃ m, n = m + 1 := ⟨n - 1, by omega⟩
    rw [fX2_firstStill_L17, if_pos (show (70 : Int32) < nI (i + 1) from nI_lt (a := 70) (by omega) (by omega))]
    rfl
  | succ k ih =>
    intro n i run hi hn hr hr10
    obtain ⟨n, rfl⟩ : ∃ m, n = m + 1 := ⟨n - 1, by omega⟩
    rw [fX2_firstStill_L17, if_neg (show ¬ (70 : Int32) < nI (i + 1) from nI_nlt (a := 70) (by omega) (by omega)), if_neg (show ¬ (71 : Int32) ≤ nI (i + 1) from nI_ge (b := 71) (by omega) (by omega)), rdI_n (by omega) (by omega), bo_s, nI_pred, rdI_n (by omega) (by omega), bo_s, h (i + 1) (by omega), h i (by omega)]
    unfold stl
    by_cases c : fla r (i + 1) = fla r i
    · rw [if_pos c, if_pos c]
      unfold fX2_firstStill_L51
      rw [pk_sub (by omega), lt_s_, nI_1]
      by_cases c2 : run + 1 = 10
      · rw [if_neg (show ¬ nI (i + 1 - (i - run)) < 10 from nI_nlt (b := 10) (by omega) (by omega)), if_pos c2, show i - run = i - 9 by omega]
      · rw [if_pos (show nI (i + 1 - (i - run)) < 10 from nI_lt (b := 10) (by omega) (by omega)), if_neg c2]
        have := ih n (i + 1) (run + 1) (by omega) (by omega) (by omega) (by omega)
        rw [show i + 1 - (run + 1) = i - run by omega] at this
        exact this
    · rw [if_neg c, if_neg c]
      unfold fX2_firstStill_L51
      rw [pk_sub (by omega), lt_s_, nI_1, if_pos (show nI (i + 1 - (i + 1)) < 10 from nI_lt (b := 10) (by omega) (by omega))]
      exact ih n (i + 1) 0 (by omega) (by omega) (by omega) (by omega)
theorem m_stillL {N : Nat} (hN : 8 < N) {A : St} (hI : AI A) : ∀ (k n i run : Nat) (z : St), i + k = 70 → k < n → run ≤ i → run < 10 → MS z A → RR (sb [2] z) 0 (adv (A 0) i) → ∃ z', fX3_still_L15 N n z (nI run) (nI i) = some (stl (A 0) k i run, z') ∧ MS z' A := by
  intro k
  induction k with
  | zero =>
    intro n i run z hi hn hr hr10 h h2
    obtain ⟨n, rfl⟩ : ∃ m, n = m + 1 := ⟨n - 1, by omega⟩
    rw [fX3_still_L15, if_pos (show (70 : Int32) ≤ nI i from nI_le (a := 70) (by omega) (by omega))]
    exact ⟨z, rfl, h⟩
  | succ k ih =>
    intro n i run z hi hn hr hr10 h h2
    obtain ⟨n, rfl⟩ : ∃ m, n = m + 1 := ⟨n - 1, by omega⟩
    obtain ⟨z2, e1, e2⟩ := m_dayA hN h2 hI.cn
    have g1 : RR z 2 (adv (A 0) i) := h2
    have g2 : RR (pb [2] z2 z) 2 (adv (A 0) (i + 1)) := e2
    rw [fX3_still_L15, if_neg (show ¬ (70 : Int32) ≤ nI i from nI_ge (b := 70) (by omega) (by omega)), g1.rd2, bo_s, e1, by_s, g2.rd2, bo_s]
    have e3 : adv (A 0) i 2 = fla (A 0) i := rfl
    have e4 : adv (A 0) (i + 1) 2 = fla (A 0) (i + 1) := rfl
    rw [e3, e4]
    unfold stl
    by_cases c : fla (A 0) (i + 1) = fla (A 0) i
    · rw [if_pos c, if_pos c]
      unfold fX3_still_L53
      rw [nI_1]
      by_cases c2 : run + 1 = 10
      · rw [if_pos (show nI (run + 1) = 10 by rw [c2]; rfl), if_pos c2, show (9 : Int32) = nI 9 from rfl, pk_sub (by omega)]
        exact ⟨_, rfl, h⟩
      · rw [if_neg (show ¬ nI (run + 1) = 10 from fun q => c2 ((nI_eq (b := 10) (by omega) (by omega)).mp q)), if_neg c2, lt_s_, nI_1]
        exact ih n (i + 1) (run + 1) _ (by omega) (by omega) (by omega) (by omega) h e2
    · rw [if_neg c, if_neg c]
      unfold fX3_still_L53
      rw [if_neg (by decide), lt_s_, nI_1]
      exact ih n (i + 1) 0 _ (by omega) (by omega) (by omega) (by omega) h e2
def S_strikes (A : St) (p : Int32) : Int32 × St := if p = 0 then (frs (fun i => decide (fla (A 0) i = 0 ∨ fla (A 0) i = 20)) 61 0, A) else if p = 1 then (stl (A 0) 70 0 0, A) else (-2, rf A 2)
theorem c_strikes {N : Nat} (hN : 300 < N) {σ A : St} (h : CS σ A) (hI : AI A) (p : Int32) : CO (fX2_strikes N σ p) (S_strikes A p) := by
  unfold fX2_strikes S_strikes
  refine CO_i (fun _ => CO_u ?_) (fun _ => CO_i (fun _ => CO_u ?_) (fun _ => c_b2 N h))
  · unfold fX2_firstStrike
    obtain ⟨z, e1, e2, e3⟩ := c_fore hN h hI (m := 60) (by omega)
    rw [show (60 : Int32) = nI 60 from rfl, e1, by_s]
    have := c_strikeL N e3 61 N 0 (by omega) (by omega)
    rw [show fX2_firstStrike_L15 N N (pb [1, 2, 3, 4, 5, 6, 21] z σ) 0 = _ from this]
    exact CO_s e2
  · unfold fX2_firstStill
    obtain ⟨z, e1, e2, e3⟩ := c_fore hN h hI (m := 70) (by omega)
    rw [show (70 : Int32) = nI 70 from rfl, e1, by_s]
    have := c_stillL N e3 70 N 0 0 (by omega) (by omega) (by omega) (by omega)
    rw [show fX2_firstStill_L17 N N (pb [1, 2, 3, 4, 5, 6, 21] z σ) 0 1 = _ from this]
    exact CO_s e2
theorem m_strikes {N : Nat} (hN : 300 < N) {ρ A : St} (h : MS ρ A) (hI : AI A) (p : Int32) : MO (fX3_strikes N ρ p) (S_strikes A p) := by
  unfold fX3_strikes S_strikes
  refine MO_i (fun _ => MO_u ?_) (fun _ => MO_i (fun _ => MO_u ?_) (fun _ => m_b2 N h))
  · have := m_when hN h hI 0 1048577
    rw [frs_c (q := fun i => decide (fla (A 0) i = 0 ∨ fla (A 0) i = 20)) (q' := fun i => decide (bitAt 1048577 (hgt 0 (fla (A 0) i)) = 1)) 61 0 (fun j _ _ => ?_)]
    · exact this
    · obtain ⟨g, hg, eg⟩ := floor_of (fla_b hI.1 j)
      show _ = decide (bitAt 1048577 (fla (A 0) j) = 1)
      simp only [eg, bit_str g hg]
  · unfold fX3_still
    obtain ⟨z, e1, e2, e3⟩ := m_cop hN h
    rw [e1, by_s]
    obtain ⟨z', e4, e5⟩ := m_stillL (by omega : 8 < N) hI 70 N 0 0 _ (by omega) (by omega) (by omega) (by omega) e2 (e3.c (fun i _ => (adv_0 (A 0) i).symm))
    exact ⟨z', e4, e5⟩
/-! level -/
def levS (r : Nat → Int32) : Nat → Int32
  | 0 => 0
  | i + 1 => levS r i + (if fla r i = 10 then 1 else 0)
def S_level (A : St) (p : Int32) : Int32 × St := if p < 0 then (-4, rf A 4) else if 60 < p then (-6, rf A 6) else (levS (A 0) (p.toNatClampNeg + 1), A)
theorem c_levelL (N : Nat) {r : Nat → Int32} {z : St} {m : Nat} (hm : m ≤ 60) (h : ∀ j, j ≤ m → z 21 j = fla r j) : ∀ (k n i : Nat), i + k = m + 1 → k < n → fX2_level_L35 N n z (nI m) (levS r i) (nI i) = some (levS r (m + 1), z) := by
  intro k
  induction k with
  | zero =>
    intro n i hi hn
    obtain ⟨n, rfl⟩ : ∃ m, n = m + 1 := ⟨n - 1, by omega⟩
    rw [fX2_level_L35, if_pos (nI_lt (by omega) (by omega)), show i = m + 1 by omega]
  | succ k ih =>
    intro n i hi hn
    obtain ⟨n, rfl⟩ : ∃ m, n = m + 1 := ⟨n - 1, by omega⟩
    have := ih n (i + 1) (by omega) (by omega)
    rw [fX2_level_L35, if_neg (nI_nlt (by omega) (by omega)), if_neg (show ¬ (71 : Int32) ≤ nI i from nI_ge (b := 71) (by omega) (by omega)), rdI_n (by omega) (by omega), bo_s, h i (by omega), lt_s_]
    unfold fX2_level_L66
    rw [lt_s_, lt_s_, nI_1]
    have e : levS r (i + 1) = levS r i + (if fla r i = 10 then 1 else 0) := rfl
    by_cases c : fla r i = 10
    · rw [if_pos c]; rw [e, if_pos c] at this; exact this
    · rw [if_neg c]; rw [e, if_neg c, Int32.add_zero] at this; exact this
theorem c_level {N : Nat} (hN : 300 < N) {σ A : St} (h : CS σ A) (hI : AI A) (p : Int32) : CO (fX2_level N σ p) (S_level A p) := by
  unfold fX2_level S_level
  rw [i_fault, bo_s]
  refine CO_f (badC N σ) (c_b4 N h) (c_b6 N h) (fun c2 c3 => ?_)
  obtain ⟨k, hk, rfl⟩ := upto_of (g := 60) (by omega) c2 c3
  obtain ⟨z, e1, e2, e3⟩ := c_fore hN h hI (m := k) (by omega)
  rw [e1, by_s, nI_clamp (by omega)]
  have := c_levelL N hk e3 (k + 1) N 0 (by omega) (by omega)
  rw [show fX2_level_L35 N N (pb [1, 2, 3, 4, 5, 6, 21] z σ) (nI k) 0 0 = _ from this]
  exact CO_s e2
theorem m_levelL {N : Nat} (hN : 8 < N) {A : St} (hI : AI A) {m : Nat} (hm : m ≤ 60) : ∀ (k n i : Nat) (z : St), i + k = m + 1 → k < n → MS z A → RR (sb [2] z) 0 (adv (A 0) i) → ∃ z', fX3_level_L34 N n z (nI m) (levS (A 0) i) (nI i) = some (levS (A 0) (m + 1), z') ∧ MS z' A := by
  intro k
  induction k with
  | zero =>
    intro n i z hi hn h h2
    obtain ⟨n, rfl⟩ : ∃ m, n = m + 1 := ⟨n - 1, by omega⟩
    rw [fX3_level_L34, if_pos (nI_lt (by omega) (by omega)), show i = m + 1 by omega]
    exact ⟨z, rfl, h⟩
  | succ k ih =>
    intro n i z hi hn h h2
    obtain ⟨n, rfl⟩ : ∃ m, n = m + 1 := ⟨n - 1, by omega⟩
    obtain ⟨z2, e1, e2⟩ := m_dayA hN h2 hI.cn
    have g1 : RR z 2 (adv (A 0) i) := h2
    have := ih n (i + 1) _ (by omega) (by omega) (MS_pb2 h) e2
    rw [fX3_level_L34, if_neg (nI_nlt (by omega) (by omega)), g1.rd2, bo_s]
    have e3 : adv (A 0) i 2 = fla (A 0) i := rfl
    have e : levS (A 0) (i + 1) = levS (A 0) i + (if fla (A 0) i = 10 then 1 else 0) := rfl
    unfold fX3_level_L57
    rw [e3, lt_s_, lt_s_, e1, by_s, lt_s_, by_s, lt_s_, nI_1]
    by_cases c : fla (A 0) i = 10
    · rw [if_pos c]; rw [e, if_pos c] at this; exact this
    · rw [if_neg c]; rw [e, if_neg c] at this; exact this
theorem m_level {N : Nat} (hN : 300 < N) {ρ A : St} (h : MS ρ A) (hI : AI A) (p : Int32) : MO (fX3_level N ρ p) (S_level A p) := by
  unfold fX3_level S_level
  rw [j_wrong, bo_s]
  obtain ⟨z, e1, e2, e3⟩ := m_cop hN h
  rw [e1, by_s]
  refine MO_f (fun v => if v = 0 then fX3_level_L34 N N (pb [1, 2] z ρ) p 0 0 else badM N ρ v) (m_b4 N h) (m_b6 N h) (fun c2 c3 => ?_)
  obtain ⟨k, hk, rfl⟩ := upto_of (g := 60) (by omega) c2 c3
  rw [if_pos rfl, nI_clamp (by omega)]
  exact m_levelL (by omega : 8 < N) hI hk (k + 1) N 0 _ (by omega) (by omega) e2 (e3.c (fun i _ => (adv_0 (A 0) i).symm))
