/-! what there is, of class and reference alike: A 0 the row of now, A 1 THE IMAGE's, A 2 the letters, A 3 the ROW, A 4 the REFUSALS, A 5: imaged, how many letters, how many in the ROW -/
abbrev nowL : List Nat := [1, 2, 3, 4, 5, 6]
abbrev mindL : List Nat := [7, 8, 9, 10, 11, 12]
def nL (A : St) : Nat := (A 5 1).toNatClampNeg
def nK (A : St) : Nat := (A 5 2).toNatClampNeg
def CS (σ A : St) : Prop := HR (sb [1, 2, 3, 4, 5, 6] σ) (A 0) ∧ (A 5 0 = 1 → HR (sb [13, 14, 15, 16, 17, 18] σ) (A 1)) ∧ σ 0 13 = A 5 0 ∧ σ 19 0 = A 5 1 ∧ (∀ k, k < nL A → σ 20 k = A 2 k) ∧ σ 0 12 = A 5 2 ∧ (∀ k, k < nK A → σ 27 k = A 3 k) ∧ ∀ k, k < 7 → σ 28 k = A 4 k
def MS (ρ A : St) : Prop := RR ρ 1 (A 0) ∧ (A 5 0 = 1 → RR ρ 3 (A 1)) ∧ ρ 0 4 = A 5 0 ∧ ρ 0 8 = A 5 1 ∧ (∀ k, k < nL A → ρ 5 k = A 2 k) ∧ ρ 0 9 = A 5 2 ∧ (∀ k, k < nK A → ρ 6 k = A 3 k) ∧ ∀ k, k < 7 → ρ 7 k = A 4 k
def AI (A : St) : Prop := Inv 999 (A 0) ∧ (A 5 0 = 0 ∨ A 5 0 = 1) ∧ (A 5 0 = 1 → Inv 999 (A 1)) ∧ (nL A ≤ 96 ∧ A 5 1 = nI (nL A)) ∧ (∀ k, k < nL A → 0 ≤ A 2 k ∧ A 2 k ≤ 255) ∧ (nK A ≤ 16 ∧ A 5 2 = nI (nK A)) ∧ ∀ k, k < nK A → 0 ≤ A 3 k ∧ A 3 k ≤ 99
def rf (A : St) (k : Nat) : St := up2 A 4 k (A 4 k + 1)
theorem rf_0 (A : St) (k : Nat) : rf A k 0 = A 0 := by funext j; unfold rf; rw [up2_a]; simp
theorem rf_1 (A : St) (k : Nat) : rf A k 1 = A 1 := by funext j; unfold rf; rw [up2_a]; simp
theorem rf_2 (A : St) (k : Nat) : rf A k 2 = A 2 := by funext j; unfold rf; rw [up2_a]; simp
theorem rf_3 (A : St) (k : Nat) : rf A k 3 = A 3 := by funext j; unfold rf; rw [up2_a]; simp
theorem rf_5 (A : St) (k : Nat) : rf A k 5 = A 5 := by funext j; unfold rf; rw [up2_a]; simp
theorem rf_nL (A : St) (k : Nat) : nL (rf A k) = nL A := by unfold nL; rw [rf_5]
theorem rf_nK (A : St) (k : Nat) : nK (rf A k) = nK A := by unfold nK; rw [rf_5]
theorem rf_AI {A : St} (h : AI A) (k : Nat) : AI (rf A k) := by
  unfold AI
  rw [rf_nL, rf_nK, rf_0, rf_1, rf_2, rf_3, rf_5]
  exact h
theorem rf_CS {σ A : St} (h : CS σ A) {k : Nat} (hk : k < 7) : CS (up2 σ 28 k (σ 28 k + 1)) (rf A k) := by
  obtain ⟨h1, h2, h3, h4, h5, h6, h7, h8⟩ := h
  unfold CS
  rw [rf_nL, rf_nK, rf_0, rf_1, rf_2, rf_3, rf_5]
  refine ⟨h1, h2, h3, h4, h5, h6, h7, fun j hj => ?_⟩
  unfold rf
  rw [up2_a, up2_a, h8 k hk, h8 j hj]
  simp
theorem rf_MS {ρ A : St} (h : MS ρ A) {k : Nat} (hk : k < 7) : MS (up2 ρ 7 k (ρ 7 k + 1)) (rf A k) := by
  obtain ⟨h1, h2, h3, h4, h5, h6, h7, h8⟩ := h
  unfold MS
  rw [rf_nL, rf_nK, rf_0, rf_1, rf_2, rf_3, rf_5]
  refine ⟨h1, h2, h3, h4, h5, h6, h7, fun j hj => ?_⟩
  unfold rf
  rw [up2_a, up2_a, h8 k hk, h8 j hj]
  simp
theorem c_refuse (N : Nat) {σ A : St} (h : CS σ A) {k : Nat} (h1 : 1 ≤ k) (hk : k < 7) {w : Int32} (hw : -w = nI k) : ∃ z, fX2_refuse N σ w = some (w, z) ∧ CS z (rf A k) := by
  unfold fX2_refuse
  rw [lt_s_, hw, if_neg (show ¬ nI k < 1 from nI_nlt (b := 1) h1 (by omega)), if_neg (show ¬ (7 : Int32) ≤ nI k from nI_ge (b := 7) hk (by omega)), rdI_n (by omega) (by omega), bo_s, lt_s_, wrI_n (by omega) (by omega), bo_s]
  exact ⟨_, rfl, rf_CS h hk⟩
theorem m_no (N : Nat) {ρ A : St} (h : MS ρ A) {k : Nat} (hk : k < 7) {w : Int32} (hw : -w = nI k) : ∃ z, fX3_no N ρ w = some (w, z) ∧ MS z (rf A k) := by
  unfold fX3_no
  rw [hw, rdI_n (by omega) (by omega), bo_s, lt_s_, wrI_n (by omega) (by omega), bo_s]
  exact ⟨_, rfl, rf_MS h hk⟩
/-! the tests -/
theorem i_side (N : Nat) (p : Int32) : fX0_isSide N p = some (if 0 ≤ p ∧ p ≤ 1 then 1 else 0) := by unfold fX0_isSide; rw [zr0, zr1]; grind
theorem i_floor (N : Nat) (p : Int32) : fX0_isFloor N p = some (if 0 ≤ p ∧ p ≤ 20 then 1 else 0) := by unfold fX0_isFloor; rw [zr0, zr1]; grind
theorem i_place (N : Nat) (p : Int32) : fX0_isPlace N p = some (if 0 ≤ p ∧ p ≤ 2 then 1 else 0) := by unfold fX0_isPlace; rw [zr0, zr1]; grind
theorem i_kind (N : Nat) (p : Int32) : fX0_isKind N p = some (if 0 ≤ p ∧ p ≤ 5 then 1 else 0) := by unfold fX0_isKind; rw [zr0, zr1]; grind
theorem i_fault (N : Nat) (p l g : Int32) : fX2_faultOf N p l g = some (if p < l then -4 else if g < p then -6 else 0) := by unfold fX2_faultOf; grind
theorem zr_if (c : Prop) (hc : Decidable c) : zr (if c then 1 else 0) = some (if c then 1 else 0) := by
  by_cases q : c
  · rw [if_pos q]; rfl
  · rw [if_neg q]; rfl
theorem j_in (N : Nat) (p l g : Int32) : fX3_isIn N p l g = some (if l ≤ p ∧ p ≤ g then 1 else 0) := by unfold fX3_isIn; rw [zr0, zr1]; grind
theorem j_side (N : Nat) (p : Int32) : fX3_isSide N p = some (if 0 ≤ p ∧ p ≤ 1 then 1 else 0) := by unfold fX3_isSide; rw [j_in, bo_s, zr_if]
theorem j_floor (N : Nat) (p : Int32) : fX3_isFloor N p = some (if 0 ≤ p ∧ p ≤ 20 then 1 else 0) := by unfold fX3_isFloor; rw [j_in, bo_s, zr_if]
theorem j_wrong (N : Nat) (p l g : Int32) : fX3_wrongBy N p l g = some (if p < l then -4 else if g < p then -6 else 0) := by unfold fX3_wrongBy; grind
theorem j_thing (N : Nat) {ρ : St} {r : Nat → Int32} {M : Nat} (h : RR ρ 1 r) (hI : Inv M r) (p : Int32) : fX3_isThing N ρ p = some (if 0 ≤ p ∧ p < r 0 then 1 else 0) := by
  obtain ⟨h2, h3⟩ := hI.n
  have h4 : 0 ≤ r 0 := by rw [h3]; exact nI_pos' (by omega)
  unfold fX3_isThing
  rw [h.rd0, bo_s, j_in, bo_s, zr_if]
  grind
theorem side_of {p : Int32} (h : 0 ≤ p ∧ p ≤ 1) : ∃ s, s < 2 ∧ p = nI s := by
  obtain ⟨j, hj, e⟩ := nI_of2 (x := p) (M := 1) (n := 1) (by decide) (by grind) h.2
  exact ⟨j, by omega, e⟩
theorem upto_of {p : Int32} {g : Nat} (hg : g < 2 ^ 31) (h0 : ¬ p < 0) (h1 : ¬ nI g < p) : ∃ k, k ≤ g ∧ p = nI k := by
  obtain ⟨j, hj, rfl⟩ := nI_of h0
  refine ⟨j, ?_, rfl⟩
  rcases Nat.lt_or_ge g j with q | q
  · exact absurd (nI_lt q hj) h1
  · exact q
/-! floorThen, as a try of how these go -/
def hgt (s f : Int32) : Int32 := if s = 0 then f else 20 - f
theorem x0_height (N : Nat) (s f : Int32) : fX0_heightOf N s f = some (hgt s f) := by unfold fX0_heightOf hgt; grind
theorem m_floorOf (N : Nat) {ρ : St} {r : Nat → Int32} (h : RR ρ 0 r) (s : Int32) : fX3_floorOf N ρ s = some (hgt s (r 2)) := by
  unfold fX3_floorOf hgt
  rw [h.rd2, bo_s, bo_s]
  grind
/-- what a call of the class, of the reference comes to -/
def CO (o : Option (Int32 × St)) (s : Int32 × St) : Prop := ∃ z, o = some (s.1, z) ∧ CS z s.2
def MO (o : Option (Int32 × St)) (s : Int32 × St) : Prop := ∃ z, o = some (s.1, z) ∧ MS z s.2
theorem CO_t {c : Prop} {hc : Decidable c} {o1 o2 : Option (Int32 × St)} {s1 s2 : Int32 × St} (h1 : c → CO o1 s1) (h2 : ¬ c → CO o2 s2) : CO (if (if c then (1 : Int32) else 0) = 0 then o2 else o1) (if c then s1 else s2) := by
  by_cases q : c
  · rw [if_pos q, if_pos q, if_neg (by decide)]; exact h1 q
  · rw [if_neg q, if_neg q, if_pos rfl]; exact h2 q
theorem MO_t {c : Prop} {hc : Decidable c} {o1 o2 : Option (Int32 × St)} {s1 s2 : Int32 × St} (h1 : c → MO o1 s1) (h2 : ¬ c → MO o2 s2) : MO (if (if c then (1 : Int32) else 0) = 0 then o2 else o1) (if c then s1 else s2) := by
  by_cases q : c
  · rw [if_pos q, if_pos q, if_neg (by decide)]; exact h1 q
  · rw [if_neg q, if_neg q, if_pos rfl]; exact h2 q
theorem CO_i {c : Prop} {hc : Decidable c} {o1 o2 : Option (Int32 × St)} {s1 s2 : Int32 × St} (h1 : c → CO o1 s1) (h2 : ¬ c → CO o2 s2) : CO (if c then o1 else o2) (if c then s1 else s2) := by
  by_cases q : c
  · rw [if_pos q, if_pos q]; exact h1 q
  · rw [if_neg q, if_neg q]; exact h2 q
theorem MO_i {c : Prop} {hc : Decidable c} {o1 o2 : Option (Int32 × St)} {s1 s2 : Int32 × St} (h1 : c → MO o1 s1) (h2 : ¬ c → MO o2 s2) : MO (if c then o1 else o2) (if c then s1 else s2) := by
  by_cases q : c
  · rw [if_pos q, if_pos q]; exact h1 q
  · rw [if_neg q, if_neg q]; exact h2 q
theorem CO_f {p l g : Int32} {ok : Option (Int32 × St)} (bad : Int32 → Option (Int32 × St)) {s4 s6 s0 : Int32 × St} (h4 : CO (bad (-4)) s4) (h6 : CO (bad (-6)) s6) (h0 : ¬ p < l → ¬ g < p → CO ok s0) : CO (if (if p < l then (-4 : Int32) else if g < p then -6 else 0) = 0 then ok else bad (if p < l then (-4 : Int32) else if g < p then -6 else 0)) (if p < l then s4 else if g < p then s6 else s0) := by
  by_cases q : p < l
  · rw [if_pos q, if_pos q, if_neg (by decide)]; exact h4
  · rw [if_neg q, if_neg q]
    by_cases q2 : g < p
    · rw [if_pos q2, if_pos q2, if_neg (by decide)]; exact h6
    · rw [if_neg q2, if_neg q2, if_pos rfl]; exact h0 q q2
theorem MO_f {p l g : Int32} (ok : Int32 → Option (Int32 × St)) {s4 s6 s0 : Int32 × St} (h4 : MO (ok (-4)) s4) (h6 : MO (ok (-6)) s6) (h0 : ¬ p < l → ¬ g < p → MO (ok 0) s0) : MO (ok (if p < l then (-4 : Int32) else if g < p then -6 else 0)) (if p < l then s4 else if g < p then s6 else s0) := by
  by_cases q : p < l
  · rw [if_pos q, if_pos q]; exact h4
  · rw [if_neg q, if_neg q]
    by_cases q2 : g < p
    · rw [if_pos q2, if_pos q2]; exact h6
    · rw [if_neg q2, if_neg q2]; exact h0 q q2
theorem CO_s {v : Int32} {σ A : St} (h : CS σ A) : CO (some (v, σ)) (v, A) := ⟨σ, rfl, h⟩
theorem MO_s {v : Int32} {σ A : St} (h : MS σ A) : MO (some (v, σ)) (v, A) := ⟨σ, rfl, h⟩
abbrev badC (N : Nat) (σ : St) (w : Int32) : Option (Int32 × St) := bx (fX2_refuse N σ w) (fun uq => uq) (fun v z => some (v, z))
abbrev badM (N : Nat) (σ : St) (w : Int32) : Option (Int32 × St) := bx (fX3_no N σ w) (fun uq => uq) (fun v z => some (v, z))
theorem c_b1 (N : Nat) {σ A : St} (h : CS σ A) : CO (badC N σ (-1)) (-1, rf A 1) := by obtain ⟨z, e1, e2⟩ := c_refuse N h (k := 1) (w := -1) (by omega) (by omega) (by decide); exact ⟨z, by unfold badC; rw [e1, bx_s], e2⟩
theorem c_b2 (N : Nat) {σ A : St} (h : CS σ A) : CO (badC N σ (-2)) (-2, rf A 2) := by obtain ⟨z, e1, e2⟩ := c_refuse N h (k := 2) (w := -2) (by omega) (by omega) (by decide); exact ⟨z, by unfold badC; rw [e1, bx_s], e2⟩
theorem c_b3 (N : Nat) {σ A : St} (h : CS σ A) : CO (badC N σ (-3)) (-3, rf A 3) := by obtain ⟨z, e1, e2⟩ := c_refuse N h (k := 3) (w := -3) (by omega) (by omega) (by decide); exact ⟨z, by unfold badC; rw [e1, bx_s], e2⟩
theorem c_b4 (N : Nat) {σ A : St} (h : CS σ A) : CO (badC N σ (-4)) (-4, rf A 4) := by obtain ⟨z, e1, e2⟩ := c_refuse N h (k := 4) (w := -4) (by omega) (by omega) (by decide); exact ⟨z, by unfold badC; rw [e1, bx_s], e2⟩
theorem c_b6 (N : Nat) {σ A : St} (h : CS σ A) : CO (badC N σ (-6)) (-6, rf A 6) := by obtain ⟨z, e1, e2⟩ := c_refuse N h (k := 6) (w := -6) (by omega) (by omega) (by decide); exact ⟨z, by unfold badC; rw [e1, bx_s], e2⟩
theorem m_b1 (N : Nat) {σ A : St} (h : MS σ A) : MO (badM N σ (-1)) (-1, rf A 1) := by obtain ⟨z, e1, e2⟩ := m_no N h (k := 1) (w := -1) (by omega) (by decide); exact ⟨z, by unfold badM; rw [e1, bx_s], e2⟩
theorem m_b2 (N : Nat) {σ A : St} (h : MS σ A) : MO (badM N σ (-2)) (-2, rf A 2) := by obtain ⟨z, e1, e2⟩ := m_no N h (k := 2) (w := -2) (by omega) (by decide); exact ⟨z, by unfold badM; rw [e1, bx_s], e2⟩
theorem m_b3 (N : Nat) {σ A : St} (h : MS σ A) : MO (badM N σ (-3)) (-3, rf A 3) := by obtain ⟨z, e1, e2⟩ := m_no N h (k := 3) (w := -3) (by omega) (by decide); exact ⟨z, by unfold badM; rw [e1, bx_s], e2⟩
theorem m_b4 (N : Nat) {σ A : St} (h : MS σ A) : MO (badM N σ (-4)) (-4, rf A 4) := by obtain ⟨z, e1, e2⟩ := m_no N h (k := 4) (w := -4) (by omega) (by decide); exact ⟨z, by unfold badM; rw [e1, bx_s], e2⟩
theorem m_b6 (N : Nat) {σ A : St} (h : MS σ A) : MO (badM N σ (-6)) (-6, rf A 6) := by obtain ⟨z, e1, e2⟩ := m_no N h (k := 6) (w := -6) (by omega) (by decide); exact ⟨z, by unfold badM; rw [e1, bx_s], e2⟩
/-! the reference's mind: what is there but the cell 2 -/
theorem MS_pb2 {ρ A z : St} (h : MS ρ A) : MS (pb [2] z ρ) A := h
theorem MS_cop {ρ A z : St} (h : MS ρ A) (hz : RR z 0 (A 0)) : MS (pb [1, 2] z ρ) A := by
  obtain ⟨h1, h2⟩ := h
  exact ⟨hz, h2⟩
theorem m_cop {N : Nat} (hN : 300 < N) {ρ A : St} (h : MS ρ A) : ∃ z, fX3_copies N (sb [1, 2] ρ) = some z ∧ MS (pb [1, 2] z ρ) A ∧ RR (sb [2] (pb [1, 2] z ρ)) 0 (A 0) := by
  obtain ⟨z, e1, e2, e3⟩ := m_copies (N := N) (by omega) (ρ := sb [1, 2] ρ) h.1
  exact ⟨z, e1, MS_cop h e2, e3⟩
theorem AI.cn {A : St} (h : AI A) : Cn (A 0) := h.1.n
theorem m_takes {N : Nat} (hN : 300 < N) {ρ A : St} (h : MS ρ A) (hI : AI A) {k : Nat} (hk : k ≤ 60) : ∃ z, fX3_takes N ρ (nI k) = some z ∧ MS z A ∧ RR (sb [2] z) 0 (adv (A 0) k) := by
  unfold fX3_takes
  obtain ⟨z, e1, e2, e3⟩ := m_cop hN h
  obtain ⟨z2, e4, e5⟩ := m_days (by omega : 100 < N) hI.cn (m := k) (by omega) e3
  rw [e1, by_s, e4, by_s]
  exact ⟨_, rfl, e2, e5⟩
def S_floorThen (A : St) (p1 p2 : Int32) : Int32 × St := if 0 ≤ p1 ∧ p1 ≤ 1 then if p2 < 0 then (-4, rf A 4) else if 60 < p2 then (-6, rf A 6) else (hgt p1 (fla (A 0) p2.toNatClampNeg), A) else (-1, rf A 1)
theorem c_floorThen {N : Nat} (hN : 300 < N) {σ A : St} (h : CS σ A) (hI : AI A) (p1 p2 : Int32) : CO (fX2_floorThen N σ p1 p2) (S_floorThen A p1 p2) := by
  unfold fX2_floorThen S_floorThen
  rw [i_side, bo_s]
  refine CO_t (fun c1 => ?_) (fun _ => c_b1 N h)
  rw [i_fault, bo_s]
  refine CO_f (badC N σ) (c_b4 N h) (c_b6 N h) (fun c2 c3 => ?_)
  obtain ⟨k, hk, rfl⟩ := upto_of (g := 60) (by omega) c2 c3
  rw [nI_clamp (by omega), x0_floor (by omega) h.1 hI.1 (by omega) (by omega), bo_s, x0_height, bo_s]
  exact CO_s h
theorem m_floorThen {N : Nat} (hN : 300 < N) {ρ A : St} (h : MS ρ A) (hI : AI A) (p1 p2 : Int32) : MO (fX3_floorThen N ρ p1 p2) (S_floorThen A p1 p2) := by
  unfold fX3_floorThen S_floorThen
  rw [j_side, bo_s]
  refine MO_t (fun c1 => ?_) (fun _ => m_b1 N h)
  rw [j_wrong, bo_s]
  refine MO_f (fX3_floorThen_L18 N ρ p1 p2) (m_b4 N h) (m_b6 N h) (fun c2 c3 => ?_)
  obtain ⟨k, hk, rfl⟩ := upto_of (g := 60) (by omega) c2 c3
  obtain ⟨z, e1, e2, e3⟩ := m_takes hN h hI hk
  unfold fX3_floorThen_L18
  rw [if_pos rfl, nI_clamp (by omega), e1, by_s, m_floorOf N e3, bo_s]
  exact MO_s e2
