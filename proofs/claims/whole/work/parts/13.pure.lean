/-! the class's hoist: what changes it -/
theorem x0_copL59 (N : Nat) : ∀ (k n i : Nat) (z : St), i + k = 8 → k < n → (∀ t, t < i → z 2 t = z 8 t ∧ z 3 t = z 9 t ∧ z 4 t = z 10 t ∧ z 5 t = z 11 t) → ∃ z', fX0_copy_L59 N n z (nI i) = some z' ∧ (∀ t, t < 8 → z' 2 t = z 8 t ∧ z' 3 t = z 9 t ∧ z' 4 t = z 10 t ∧ z' 5 t = z 11 t) ∧ ∀ c, c ≠ 2 → c ≠ 3 → c ≠ 4 → c ≠ 5 → ∀ j, z' c j = z c j := by
  intro k
  induction k with
  | zero =>
    intro n i z hi hn h
    obtain ⟨n, rfl⟩ : ∃ m, n = m + 1 := ⟨n - 1, by omega⟩
    rw [fX0_copy_L59, if_pos (show (8 : Int32) ≤ nI i from nI_le (a := 8) (by omega) (by omega))]
    exact ⟨z, rfl, fun t ht => h t (by omega), fun _ _ _ _ _ _ => rfl⟩
  | succ k ih =>
    intro n i z hi hn h
    obtain ⟨n, rfl⟩ : ∃ m, n = m + 1 := ⟨n - 1, by omega⟩
    rw [fX0_copy_L59, if_neg (show ¬ (8 : Int32) ≤ nI i from nI_ge (b := 8) (by omega) (by omega))]
    simp only [rdI_n (show i < 8 by omega) (by omega : 8 < 2 ^ 31), wrI_n (show i < 8 by omega) (by omega : 8 < 2 ^ 31), bo_s, lt_s_, nI_1]
    obtain ⟨z', h1, h2, h3⟩ := ih n (i + 1) (up2 (up2 (up2 (up2 z 2 i (z 8 i)) 3 i (up2 z 2 i (z 8 i) 9 i)) 4 i (up2 (up2 z 2 i (z 8 i)) 3 i (up2 z 2 i (z 8 i) 9 i) 10 i)) 5 i (up2 (up2 (up2 z 2 i (z 8 i)) 3 i (up2 z 2 i (z 8 i) 9 i)) 4 i (up2 (up2 z 2 i (z 8 i)) 3 i (up2 z 2 i (z 8 i) 9 i) 10 i) 11 i)) (by omega) (by omega) (fun t ht => by
      simp only [up2_a]
      by_cases e : t = i
      · subst e; simp
      · have := h t (by omega)
        simp [e, this])
    refine ⟨z', h1, fun t ht => ?_, fun c c2 c3 c4 c5 j => ?_⟩
    · have := h2 t ht
      simp only [up2_a] at this
      simpa using this
    · rw [h3 c c2 c3 c4 c5 j]
      simp only [up2_a]
      simp [c2, c3, c4, c5]
theorem x0_copL34 {N : Nat} (hN : 8 < N) : ∀ (k n i : Nat) (z : St), i + k = 2 → k < n → (∀ t, t < i → z 1 t = z 7 t) → ∃ z', fX0_copy_L34 N n z (nI i) = some z' ∧ (∀ t, t < 8 → z' 2 t = z 8 t ∧ z' 3 t = z 9 t ∧ z' 4 t = z 10 t ∧ z' 5 t = z 11 t) ∧ (∀ t, t < 2 → z' 1 t = z 7 t) ∧ ∀ c, c = 0 ∨ 6 ≤ c → ∀ j, z' c j = z c j := by
  intro k
  induction k with
  | zero =>
    intro n i z hi hn h
    obtain ⟨n, rfl⟩ : ∃ m, n = m + 1 := ⟨n - 1, by omega⟩
    rw [fX0_copy_L34, if_pos (show (2 : Int32) ≤ nI i from nI_le (a := 2) (by omega) (by omega))]
    obtain ⟨z', h1, h2, h3⟩ := x0_copL59 N 8 N 0 z (by omega) (by omega) (fun t ht => by omega)
    exact ⟨z', h1, h2, fun t ht => by rw [h3 1 (by omega) (by omega) (by omega) (by omega), h t (by omega)], fun c hc j => h3 c (by omega) (by omega) (by omega) (by omega) j⟩
  | succ k ih =>
    intro n i z hi hn h
    obtain ⟨n, rfl⟩ : ∃ m, n = m + 1 := ⟨n - 1, by omega⟩
    rw [fX0_copy_L34, if_neg (show ¬ (2 : Int32) ≤ nI i from nI_ge (b := 2) (by omega) (by omega)), rdI_n (by omega) (by omega), bo_s, wrI_n (by omega) (by omega), bo_s, lt_s_, nI_1]
    obtain ⟨z', h1, h2, h3, h4⟩ := ih n (i + 1) (up2 z 1 i (z 7 i)) (by omega) (by omega) (fun t ht => by
      simp only [up2_a]
      by_cases e : t = i
      · subst e; simp
      · simp [e, h t (by omega)])
    refine ⟨z', h1, fun t ht => ?_, fun t ht => ?_, fun c hc j => ?_⟩
    · have := h2 t ht
      simp only [up2_a] at this
      simpa using this
    · have := h3 t ht
      simp only [up2_a] at this
      simpa using this
    · rw [h4 c hc j, up2_a, if_neg (by omega)]
theorem x0_copy {N : Nat} (hN : 8 < N) {σ : St} {r : Nat → Int32} (h : HR (fun c => σ (c + 6)) r) : ∃ z, fX0_copy N σ = some z ∧ HR z r ∧ HR (fun c => z (c + 6)) r := by
  unfold fX0_copy
  simp only [lt_s_]
  obtain ⟨z, h1, h2, h3, h4⟩ := x0_copL34 hN 2 N 0 (up2 (up2 (up2 (up2 σ 0 0 (σ 6 0)) 0 1 (up2 σ 0 0 (σ 6 0) 6 1)) 0 2 (up2 (up2 σ 0 0 (σ 6 0)) 0 1 (up2 σ 0 0 (σ 6 0) 6 1) 6 2)) 0 3 (up2 (up2 (up2 σ 0 0 (σ 6 0)) 0 1 (up2 σ 0 0 (σ 6 0) 6 1)) 0 2 (up2 (up2 σ 0 0 (σ 6 0)) 0 1 (up2 σ 0 0 (σ 6 0) 6 1) 6 2) 6 3)) (by omega) (by omega) (fun t ht => by omega)
  refine ⟨z, h1, ?_, ?_⟩
  · obtain ⟨a1, a2, a3, a4, a5, a6, a7⟩ := h
    refine ⟨?_, ?_, ?_, ?_, ?_, ?_, fun t ht => ?_⟩
    · rw [h4 0 (by omega)]; simp only [up2_a]; simpa using a1
    · rw [h4 0 (by omega)]; simp only [up2_a]; simpa using a2
    · rw [h4 0 (by omega)]; simp only [up2_a]; simpa using a3
    · rw [h4 0 (by omega)]; simp only [up2_a]; simpa using a4
    · rw [h3 0 (by omega)]; simp only [up2_a]; simpa using a5
    · rw [h3 1 (by omega)]; simp only [up2_a]; simpa using a6
    · have b := h2 t ht
      simp only [up2_a] at b
      have := a7 t ht
      simp at b this
      rw [b.1, b.2.1, b.2.2.1, b.2.2.2]
      exact this
  · obtain ⟨a1, a2, a3, a4, a5, a6, a7⟩ := h
    have e : ∀ c j, z (c + 6) j = σ (c + 6) j := by
      intro c j
      rw [h4 (c + 6) (by omega)]
      simp only [up2_a]
      simp
    refine ⟨?_, ?_, ?_, ?_, ?_, ?_, fun t ht => ?_⟩
    · exact (e 0 0).trans a1
    · exact (e 0 1).trans a2
    · exact (e 0 2).trans a3
    · exact (e 0 3).trans a4
    · exact (e 1 0).trans a5
    · exact (e 1 1).trans a6
    · obtain ⟨b1, b2, b3, b4⟩ := a7 t ht
      exact ⟨(e 2 t).trans b1, (e 3 t).trans b2, (e 4 t).trans b3, (e 5 t).trans b4⟩
theorem HR.c {τ : St} {r r' : Nat → Int32} (h : HR τ r) (e : ∀ k, k < 38 → r k = r' k) : HR τ r' := by
  obtain ⟨a1, a2, a3, a4, a5, a6, a7⟩ := h
  refine ⟨a1.trans (e _ (by omega)), a2.trans (e _ (by omega)), a3.trans (e _ (by omega)), a4.trans (e _ (by omega)), a5.trans (e _ (by omega)), a6.trans (e _ (by omega)), fun t ht => ?_⟩
  obtain ⟨b1, b2, b3, b4⟩ := a7 t ht
  exact ⟨b1.trans (e _ (by omega)), b2.trans (e _ (by omega)), b3.trans (e _ (by omega)), b4.trans (e _ (by omega))⟩
theorem x0_put (N : Nat) {M : Nat} {τ : St} {r : Nat → Int32} (h : HR τ r) (hI : Inv M r) {t : Nat} (ht : t < cnt r) {w : Int32} (h0 : 0 ≤ w) (h1 : w ≤ 2) : ∃ z, fX0_put N τ (nI t) w = some (1, z) ∧ HR z (hangR r t w) := by
  obtain ⟨h2, h3⟩ := hI.n
  have hp : fX0_isPlace N w = some 1 := by unfold fX0_isPlace; rw [if_neg (by grind), if_neg (by grind)]; rfl
  unfold fX0_put
  rw [x0_hasT N h hI ht, bo_s, if_neg (by decide), hp, bo_s, if_neg (by decide), wrI_n (by omega) (by omega), bo_s, wrI_n (by omega) (by omega), bo_s, zr1, bo_s]
  refine ⟨_, rfl, ?_⟩
  obtain ⟨a1, a2, a3, a4, a5, a6, a7⟩ := h
  unfold HR hangR
  simp only [up2_a]
  refine ⟨by simpa using a1, by simpa using a2, by simpa using a3, by simpa using a4, by simpa using a5, by simpa using a6, fun u hu => ?_⟩
  obtain ⟨b1, b2, b3, b4⟩ := a7 u hu
  clear a1 a2 a4 a5 a6 a7 h1 h0 hp h3
  refine ⟨?_, ?_, ?_, ?_⟩ <;> grind
def becR (r : Nat → Int32) (t : Nat) (k f : Int32) : Nat → Int32 := fun i => if i = 4 * t + 7 then f else if i = 4 * t + 6 then k else r i
theorem x0_become (N : Nat) {M : Nat} {τ : St} {r : Nat → Int32} (h : HR τ r) (hI : Inv M r) {t : Nat} (ht : t < cnt r) (k f : Int32) : ∃ z, fX0_become N τ (nI t) k f = some z ∧ HR z (becR r t k f) := by
  obtain ⟨h2, h3⟩ := hI.n
  unfold fX0_become
  rw [x0_hasT N h hI ht, bo_s, if_neg (by decide), wrI_n (by omega) (by omega), bo_s, wrI_n (by omega) (by omega), bo_s]
  refine ⟨_, rfl, ?_⟩
  obtain ⟨a1, a2, a3, a4, a5, a6, a7⟩ := h
  unfold HR becR
  simp only [up2_a]
  refine ⟨by simpa using a1, by simpa using a2, by simpa using a3, by simpa using a4, by simpa using a5, by simpa using a6, fun u hu => ?_⟩
  obtain ⟨b1, b2, b3, b4⟩ := a7 u hu
  clear a1 a2 a3 a4 a5 a6 a7 h3
  refine ⟨?_, ?_, ?_, ?_⟩ <;> grind
theorem x0_load (N : Nat) {τ : St} {r : Nat → Int32} (h : HR τ r) {s : Nat} (hs : s < 2) {v : Int32} (h0 : 0 ≤ v) (h1 : v ≤ 50) : ∃ z, fX0_load N τ (nI s) v = some (1, z) ∧ HR z (fun i => if i = 4 + s then v else r i) := by
  have hp : fX0_isSide N (nI s) = some 1 := by unfold fX0_isSide; rw [if_neg (nI_pos (by omega)), if_neg (show ¬ (2 : Int32) ≤ nI s from nI_ge (b := 2) (by omega) (by omega))]; rfl
  unfold fX0_load
  rw [hp, bo_s, if_neg (by decide), if_neg (by grind), if_pos h1, wrI_n (by omega) (by omega), bo_s, zr1, bo_s]
  refine ⟨_, rfl, ?_⟩
  obtain ⟨a1, a2, a3, a4, a5, a6, a7⟩ := h
  unfold HR
  simp only [up2_a]
  refine ⟨by rw [if_neg (by omega), if_neg (by omega)]; exact a1, by rw [if_neg (by omega), if_neg (by omega)]; exact a2, by rw [if_neg (by omega), if_neg (by omega)]; exact a3, by rw [if_neg (by omega), if_neg (by omega)]; exact a4, ?_, ?_, fun u hu => ?_⟩
  · rcases (show s = 0 ∨ s = 1 by omega) with rfl | rfl <;> simp [a5]
  · rcases (show s = 0 ∨ s = 1 by omega) with rfl | rfl <;> simp [a6]
  · obtain ⟨b1, b2, b3, b4⟩ := a7 u hu
    refine ⟨?_, ?_, ?_, ?_⟩ <;> rw [if_neg (by omega), if_neg (by omega)] <;> assumption
theorem x0_liftR {τ : St} {r : Nat → Int32} (h : HR τ r) (v : Int32) : HR (up2 τ 0 0 v) (fun i => if i = 2 then v else r i) := by
  obtain ⟨a1, a2, a3, a4, a5, a6, a7⟩ := h
  unfold HR
  simp only [up2_a]
  refine ⟨by simp, by simpa using a2, by simpa using a3, by simpa using a4, by simpa using a5, by simpa using a6, fun u hu => ?_⟩
  obtain ⟨b1, b2, b3, b4⟩ := a7 u hu
  refine ⟨?_, ?_, ?_, ?_⟩ <;> rw [if_neg (by omega), if_neg (by omega)] <;> assumption
theorem x0_doorR {τ : St} {r : Nat → Int32} (h : HR τ r) (v : Int32) : HR (up2 τ 0 1 v) (fun i => if i = 3 then v else r i) := by
  obtain ⟨a1, a2, a3, a4, a5, a6, a7⟩ := h
  unfold HR
  simp only [up2_a]
  refine ⟨by simpa using a1, by simp, by simpa using a3, by simpa using a4, by simpa using a5, by simpa using a6, fun u hu => ?_⟩
  obtain ⟨b1, b2, b3, b4⟩ := a7 u hu
  refine ⟨?_, ?_, ?_, ?_⟩ <;> rw [if_neg (by omega), if_neg (by omega)] <;> assumption
theorem x0_dayR {τ : St} {r : Nat → Int32} (h : HR τ r) (v : Int32) : HR (up2 τ 0 2 v) (fun i => if i = 1 then v else r i) := by
  obtain ⟨a1, a2, a3, a4, a5, a6, a7⟩ := h
  unfold HR
  simp only [up2_a]
  refine ⟨by simpa using a1, by simpa using a2, by simp, by simpa using a4, by simpa using a5, by simpa using a6, fun u hu => ?_⟩
  obtain ⟨b1, b2, b3, b4⟩ := a7 u hu
  refine ⟨?_, ?_, ?_, ?_⟩ <;> rw [if_neg (by omega), if_neg (by omega)] <;> assumption
theorem x0_cntR {τ : St} {r : Nat → Int32} (h : HR τ r) (v : Int32) : HR (up2 τ 0 3 v) (fun i => if i = 0 then v else r i) := by
  obtain ⟨a1, a2, a3, a4, a5, a6, a7⟩ := h
  unfold HR
  simp only [up2_a]
  refine ⟨by simpa using a1, by simpa using a2, by simpa using a3, by simp, by simpa using a5, by simpa using a6, fun u hu => ?_⟩
  obtain ⟨b1, b2, b3, b4⟩ := a7 u hu
  refine ⟨?_, ?_, ?_, ?_⟩ <;> rw [if_neg (by omega), if_neg (by omega)] <;> assumption
/-- the floor stays between -/
theorem clp_b (x : Int32) : 0 ≤ clp x ∧ clp x ≤ 20 := by unfold clp; grind
theorem fla_b {M : Nat} {r : Nat → Int32} (hI : Inv M r) : ∀ k, 0 ≤ fla r k ∧ fla r k ≤ 20
  | 0 => hI.2.2.1
  | _ + 1 => clp_b _
theorem adv_Inv {M : Nat} {r : Nat → Int32} (hI : Inv M r) {k : Nat} (hk : M + k < 2 ^ 31) : Inv (M + k) (adv r k) := by
  obtain ⟨h1, ⟨d, h2, h2'⟩, h3, h4, h5, h6, h7⟩ := id hI
  have e1 : adv r k 1 = nI (d + k) := by show r 1 + nI k = _; rw [h2', nI_add]
  refine ⟨h1, ⟨d + k, by omega, e1⟩, fla_b hI k, h4, h5, h6, fun t ht => ?_⟩
  obtain ⟨g1, g2, g3, g4⟩ := h7 t ht
  have ea : ∀ i, 2 < i → adv r k i = r i := fun i hi => by unfold adv; rw [if_neg (by omega), if_neg (by omega)]
  rw [ea _ (by omega), ea _ (by omega), ea _ (by omega), ea _ (by omega), e1]
  refine ⟨g1, g2, g3, g4.1, ?_⟩
  have : nI d ≤ nI (d + k) := nI_le (by omega) (by omega)
  have g5 := g4.2
  rw [h2'] at g5
  grind
theorem x0_passL {N : Nat} (hN : 8 < N) {r : Nat → Int32} (hI : Inv 999 r) {m : Nat} (hm : m ≤ 100) : ∀ (k n i : Nat) (z : St), i + k = m → k < n → HR z (adv r i) → ∃ z', fX0_pass_L12 N n z (nI m) (nI i) = some (1, z') ∧ HR z' (adv r m) := by
  intro k
  induction k with
  | zero =>
    intro n i z hi hn h
    obtain ⟨n, rfl⟩ : ∃ m, n = m + 1 := ⟨n - 1, by omega⟩
    rw [fX0_pass_L12, if_pos (nI_le (by omega) (by omega)), zr1, bo_s]
    exact ⟨z, rfl, by rw [show m = i by omega]; exact h⟩
  | succ k ih =>
    intro n i z hi hn h
    obtain ⟨n, rfl⟩ : ∃ m, n = m + 1 := ⟨n - 1, by omega⟩
    rw [fX0_pass_L12, if_neg (nI_ge (by omega) (by omega)), lt_s_, lt_s_]
    have hI2 := adv_Inv hI (k := i) (by omega)
    obtain ⟨d, hd, hd2⟩ := hI2.2.1
    have h2 := x0_dayR h (z 0 2 + 1)
    have e1 : z 0 2 = nI d := h.2.2.1.trans hd2
    have hI3 : Inv (999 + i + 1) (fun j => if j = 1 then z 0 2 + 1 else adv r i j) := by
      obtain ⟨q1, q2, q3, q4, q5, q6, q7⟩ := hI2
      refine ⟨q1, ⟨d + 1, by omega, by show z 0 2 + 1 = _; rw [e1, nI_1]⟩, q3, q4, q5, q6, fun t ht => ?_⟩
      obtain ⟨g1, g2, g3, g4⟩ := q7 t ht
      simp only [if_neg (show ¬ 4 * t + 6 = 1 by omega), if_neg (show ¬ 4 * t + 7 = 1 by omega), if_neg (show ¬ 4 * t + 8 = 1 by omega), if_neg (show ¬ 4 * t + 9 = 1 by omega), if_true]
      refine ⟨g1, g2, g3, g4.1, ?_⟩
      have g5 := g4.2
      rw [hd2] at g5
      have : nI d ≤ nI (d + 1) := nI_le (by omega) (by omega)
      rw [e1, nI_1]
      grind
    have hp := x0_pull (a := 0) hN h2 hI3 (by simp)
    rw [hp, bo_s, x0_moved, bo_s, lt_s_, lt_s_, nI_1]
    refine ih n (i + 1) _ (by omega) (by omega) ((x0_liftR h2 _).c (fun k hk => ?_))
    rw [← adv_s]
    unfold dayR
    have ep : pl (fun j => if j = 1 then z 0 2 + 1 else adv r i j) ((fun j => if j = 1 then z 0 2 + 1 else adv r i j) 1 + 0) = pl (adv r i) (adv r i 1 + 1) := by
      rw [pl_c (r := adv r i) (r' := fun j => if j = 1 then z 0 2 + 1 else adv r i j) rfl (fun i hi => if_neg (by omega))]
      congr 1
      show z 0 2 + 1 + 0 = _
      rw [h.2.2.1]
      grind
    rw [ep]
    have e5 : up2 z 0 2 (z 0 2 + 1) 0 0 = adv r i 2 := by rw [up2_a]; simpa using h.1
    rw [e5, h.2.2.1]
    by_cases k2 : k = 2
    · subst k2; simp
    · by_cases k1 : k = 1
      · subst k1; simp
      · simp [k1, k2]
theorem x0_pass {N : Nat} (hN : 100 < N) {τ : St} {r : Nat → Int32} (h : HR τ r) (hI : Inv 999 r) {m : Nat} (h1 : 1 ≤ m) (hm : m ≤ 60) (hd : r 1 + nI m ≤ 999) : ∃ z', fX0_pass N τ (nI m) = some (1, z') ∧ HR z' (adv r m) := by
  have hp : fX0_hasDays N τ (nI m) = some 1 := by
    unfold fX0_hasDays
    rw [if_neg (show ¬ nI m < 1 from nI_nlt (b := 1) h1 (by omega)), if_neg (show ¬ (60 : Int32) < nI m from nI_nlt (a := 60) hm (by omega)), h.2.2.1, if_neg (by grind)]
    rfl
  unfold fX0_pass
  rw [hp, bo_s, if_neg (by decide)]
  exact x0_passL (by omega) hI (by omega) m N 0 τ (by omega) (by omega) (h.c (fun i _ => (adv_0 r i).symm))
