/-! the telling: the reference -/
def RP (z ρ : St) (p : Nat) : Prop := z 0 10 = nI p ∧ z 0 8 = ρ 0 8 ∧ z 0 4 = ρ 0 4 ∧ z 0 9 = ρ 0 9 ∧ z 1 = ρ 1 ∧ z 3 = ρ 3 ∧ z 4 = ρ 4 ∧ z 5 = ρ 5 ∧ z 6 = ρ 6 ∧ z 7 = ρ 7
def LB (ρ A : St) : Prop := ρ 0 8 = nI (nL A) ∧ ∀ k, k < nL A → ρ 5 k = A 2 k
theorem RP.w8 {z ρ : St} {p : Nat} (h : RP z ρ p) (k : Nat) (v : Int32) : RP (up2 z 8 k v) ρ p := h
theorem RP.up {z ρ : St} {p : Nat} (h : RP z ρ p) {v : Int32} {q : Nat} (hv : v = nI q) : RP (up2 z 0 10 v) ρ q := ⟨hv, h.2⟩
theorem m_here {N : Nat} {z ρ A : St} {p : Nat} (h : RP z ρ p) (hB : LB ρ A) (hA : AI A) (hp : p < 2 ^ 30) : fX3_here N z = some (lx A p) := by
  have h96 := hA.2.2.2.1.1
  unfold fX3_here lx
  rw [h.2.1, h.1, hB.1]
  by_cases c : p < nL A
  · rw [if_neg (nI_ge c (by omega)), if_pos c, rdI_n (by omega) (by omega), bo_s, h.2.2.2.2.2.2.2.1, hB.2 p c]
  · rw [if_pos (nI_le (by omega) (by omega)), if_neg c]
theorem m_digS {N : Nat} {z ρ A : St} {p : Nat} (h : RP z ρ p) (hB : LB ρ A) (hA : AI A) (hp : p < 2 ^ 30) {k d j : Nat} (hk : k < 3) (hj : j < d) (hd : d < 5) (n : Nat) : fX3_readsNumber_L9 N (n + 1) z (nI k) (nI d) (nI j) = if dg (lx A p) then fX3_readsNumber_L9 N n (up2 (up2 z 8 k (10 * z 8 k + lx A p - 48)) 0 10 (z 0 10 + 1)) (nI k) (nI d) (nI (j + 1)) else some (0, z) := by
  rw [fX3_readsNumber_L9, if_neg (nI_ge hj (by omega)), m_here h hB hA hp, bo_s, j_in, bo_s]
  by_cases c : dg (lx A p)
  · rw [if_pos c, if_neg (by decide), if_pos c, rdI_n hk (by omega), bo_s, bo_s, lt_s_, wrI_n hk (by omega), bo_s, lt_s_, lt_s_, lt_s_, nI_1]
    rfl
  · rw [if_neg c, if_pos rfl, if_neg c, zr0, bo_s]
theorem m_n1 {N : Nat} (hN : 300 < N) {z ρ A : St} {p : Nat} (h : RP z ρ p) (hB : LB ρ A) (hA : AI A) (hp : p < 2 ^ 29) {k : Nat} (hk : k < 3) {K : Int32} (hK : K = nI k) : (dg (lx A p) → ∃ z', fX3_readsNumber N z K 1 = some (1, z') ∧ RP z' ρ (p + 1) ∧ z' 8 k = dj A p ∧ ∀ j, j ≠ k → z' 8 j = z 8 j) ∧ (¬ dg (lx A p) → ∃ z', fX3_readsNumber N z K 1 = some (0, z') ∧ RP z' ρ p) := by
  subst hK
  obtain ⟨N, rfl⟩ : ∃ m, N = m + 2 := ⟨N - 2, by omega⟩
  have e : fX3_readsNumber (N + 2) z (nI k) 1 = fX3_readsNumber_L9 (N + 2) (N + 1 + 1) (up2 z 8 k 0) (nI k) (nI 1) (nI 0) := by
    unfold fX3_readsNumber
    rw [wrI_n hk (by omega), bo_s]
    rfl
  rw [e, m_digS (h.w8 k 0) hB hA (by omega) hk (by omega) (by omega)]
  refine ⟨fun c => ?_, fun c => ?_⟩
  · rw [if_pos c, fX3_readsNumber_L9, if_pos (Int32.le_refl _), zr1, bo_s]
    refine ⟨_, rfl, ((h.w8 k 0).w8 k _).up (by show z 0 10 + 1 = _; rw [h.1, nI_1]), ?_, fun j hj => ?_⟩
    · show upd (upd (z 8) k 0) k _ k = _
      rw [pk_us]
      show 10 * upd (z 8) k 0 k + lx A p - 48 = _
      rw [pk_us]
      unfold dj
      grind
    · show upd (upd (z 8) k 0) k _ j = _
      rw [pk_un hj, pk_un hj]
  · rw [if_neg c]
    exact ⟨_, rfl, h.w8 k 0⟩
theorem m_n2 {N : Nat} (hN : 300 < N) {z ρ A : St} {p : Nat} (h : RP z ρ p) (hB : LB ρ A) (hA : AI A) (hp : p < 2 ^ 29) {k : Nat} (hk : k < 3) {K : Int32} (hK : K = nI k) : (dg (lx A p) → dg (lx A (p + 1)) → ∃ z', fX3_readsNumber N z K 2 = some (1, z') ∧ RP z' ρ (p + 2) ∧ z' 8 k = nj A p ∧ ∀ j, j ≠ k → z' 8 j = z 8 j) ∧ (dg (lx A p) → ¬ dg (lx A (p + 1)) → ∃ z', fX3_readsNumber N z K 2 = some (0, z') ∧ RP z' ρ (p + 1)) ∧ (¬ dg (lx A p) → ∃ z', fX3_readsNumber N z K 2 = some (0, z') ∧ RP z' ρ p) := by
  subst hK
  obtain ⟨N, rfl⟩ : ∃ m, N = m + 3 := ⟨N - 3, by omega⟩
  have e : fX3_readsNumber (N + 3) z (nI k) 2 = fX3_readsNumber_L9 (N + 3) (N + 1 + 1 + 1) (up2 z 8 k 0) (nI k) (nI 2) (nI 0) := by
    unfold fX3_readsNumber
    rw [wrI_n hk (by omega), bo_s]
    rfl
  rw [e, m_digS (h.w8 k 0) hB hA (by omega) hk (by omega) (by omega)]
  have h2 : RP (up2 (up2 (up2 z 8 k 0) 8 k (10 * up2 z 8 k 0 8 k + lx A p - 48)) 0 10 (up2 z 8 k 0 0 10 + 1)) ρ (p + 1) := ((h.w8 k 0).w8 k _).up (by show z 0 10 + 1 = _; rw [h.1, nI_1])
  have e8 : up2 (up2 (up2 z 8 k 0) 8 k (10 * up2 z 8 k 0 8 k + lx A p - 48)) 0 10 (up2 z 8 k 0 0 10 + 1) 8 k = dj A p := by
    show upd (upd (z 8) k 0) k _ k = _
    rw [pk_us]
    show 10 * upd (z 8) k 0 k + lx A p - 48 = _
    rw [pk_us]
    unfold dj
    grind
  have e9 : ∀ j, j ≠ k → up2 (up2 (up2 z 8 k 0) 8 k (10 * up2 z 8 k 0 8 k + lx A p - 48)) 0 10 (up2 z 8 k 0 0 10 + 1) 8 j = z 8 j := by
    intro j hj
    show upd (upd (z 8) k 0) k _ j = _
    rw [pk_un hj, pk_un hj]
  generalize up2 (up2 (up2 z 8 k 0) 8 k (10 * up2 z 8 k 0 8 k + lx A p - 48)) 0 10 (up2 z 8 k 0 0 10 + 1) = z2 at h2 e8 e9 ⊢
  have e3 := m_digS (N := N + 3) h2 hB hA (by omega) hk (show 0 + 1 < 2 by omega) (by omega) (N + 1)
  refine ⟨fun c c2 => ?_, fun c c2 => ?_, fun c => ?_⟩
  · rw [if_pos c, e3, if_pos c2, fX3_readsNumber_L9, if_pos (Int32.le_refl _), zr1, bo_s]
    refine ⟨_, rfl, (h2.w8 k _).up (by rw [h2.1, nI_1]), ?_, fun j hj => ?_⟩
    · show upd (z2 8) k _ k = _
      rw [pk_us, e8]
      unfold nj
      show 10 * dj A p + lx A (p + 1) - 48 = 10 * dj A p + (lx A (p + 1) - 48)
      grind
    · show upd (z2 8) k _ j = _
      rw [pk_un hj, e9 j hj]
  · rw [if_pos c, e3, if_neg c2]
    exact ⟨_, rfl, h2⟩
  · rw [if_neg c]
    exact ⟨_, rfl, h.w8 k 0⟩
/-! where a statement breaks -/
theorem stG_stop {A : St} {i j : Nat} : ∀ k j0, (∀ t, j0 ≤ t → t < j → pP A i t = true) → ¬ pP A i j = true → j0 ≤ j → j < j0 + k → stG A i k j0 = j := by
  intro k
  induction k with
  | zero => intro j0 _ _ h1 h2; omega
  | succ k ih =>
    intro j0 ha hn h1 h2
    unfold stG
    rcases Nat.eq_or_lt_of_le h1 with e | e
    · rw [e, if_neg hn]
    · rw [if_pos (ha j0 (Nat.le_refl _) e)]
      exact ih (j0 + 1) (fun t h3 h4 => ha t (by omega) h4) hn e (by omega)
theorem stG_f {A : St} {i : Nat} : ∀ k j0, (∀ t, j0 ≤ t → t < j0 + k → pP A i t = true) → stG A i k j0 = j0 + k := by
  intro k
  induction k with
  | zero => intro j0 _; rfl
  | succ k ih =>
    intro j0 ha
    unfold stG
    rw [if_pos (ha j0 (Nat.le_refl _) (by omega)), ih (j0 + 1) (fun t h3 h4 => ha t (by omega) (by omega))]
    omega
theorem pP_0 {A : St} {i : Nat} : pP A i 0 = true ↔ hd (lx A i) := by
  unfold pP okB
  rw [if_pos rfl, decide_eq_true_eq, Nat.add_zero]
theorem pP_d {A : St} {i j : Nat} (h0 : 0 < j) (h1 : j < ln (lx A i)) (h2 : ¬ (j = 1 ∧ lx A i = 116)) : pP A i j = true ↔ dg (lx A (i + j)) := by
  unfold pP okB
  rw [if_neg (by omega), if_neg (by omega), if_neg h2, decide_eq_true_eq]
theorem pP_k {A : St} {i : Nat} (h2 : lx A i = 116) : pP A i 1 = true ↔ 0 ≤ kdV (lx A (i + 1)) := by
  unfold pP okB
  rw [if_neg (by omega), if_neg (by have := ln_34 (lx A i); omega), if_pos ⟨rfl, h2⟩, decide_eq_true_eq]
theorem pP_e {A : St} {i : Nat} : pP A i (ln (lx A i)) = true ↔ lx A (i + ln (lx A i)) = 59 := by
  unfold pP okB
  rw [if_neg (by have := ln_34 (lx A i); omega), if_pos rfl, decide_eq_true_eq]
/-- the numbers read -/
def NU (z A : St) (i : Nat) : Prop := (lx A i = 98 → z 8 0 = dj A (i + 1) ∧ z 8 1 = nj A (i + 2)) ∧ (lx A i = 100 ∨ lx A i = 102 ∨ lx A i = 110 → z 8 0 = nj A (i + 1)) ∧ (lx A i = 104 → z 8 0 = dj A (i + 1) ∧ z 8 1 = dj A (i + 2)) ∧ (lx A i = 116 → z 8 0 = kdV (lx A (i + 1)) ∧ z 8 1 = dj A (i + 2) ∧ z 8 2 = dj A (i + 3))
def RSo (A ρ : St) (i : Nat) (o : Option (Int32 × St)) : Prop := (full A i ∧ ∃ z, o = some (1, z) ∧ RP z ρ (i + sl A i) ∧ NU z A i) ∨ (¬ full A i ∧ ∃ z, o = some (0, z) ∧ RP z ρ (i + stG A i (sl A i) 0))
theorem RS_f {A ρ z : St} {i j : Nat} (ha : ∀ t, t < j → pP A i t = true) (hn : ¬ pP A i j = true) (hj : j ≤ ln (lx A i)) (h : RP z ρ (i + j)) : RSo A ρ i (some (0, z)) := by
  have e := stG_stop (A := A) (i := i) (j := j) (sl A i) 0 (fun t _ h2 => ha t h2) hn (Nat.zero_le _) (by unfold sl; omega)
  refine Or.inr ⟨fun q => ?_, z, rfl, by rw [e]; exact h⟩
  unfold full at q
  rw [e] at q
  unfold sl at q
  omega
theorem pltA {P : Nat → Prop} (h0 : P 0) : ∀ t, t < 1 → P t := fun t ht => by
  obtain rfl : t = 0 := (by omega)
  exact h0
theorem pltB {P : Nat → Prop} {j : Nat} (h : ∀ t, t < j → P t) (hj : P j) : ∀ t, t < j + 1 → P t := fun t ht => by
  rcases Nat.eq_or_lt_of_le (Nat.le_of_lt_succ ht) with e | e
  · rw [e]; exact hj
  · exact h t e
theorem m_218 {N : Nat} {A ρ z : St} (hB : LB ρ A) (hA : AI A) {i : Nat} (hi : i < 1000) (ha : ∀ t, t < ln (lx A i) → pP A i t = true) (h : RP z ρ (i + ln (lx A i))) (hU : NU z A i) : RSo A ρ i (fX3_readsStatement_L218 N z 1) := by
  have hl := ln_34 (lx A i)
  unfold fX3_readsStatement_L218
  rw [if_neg (by decide), m_here h hB hA (by omega), bo_s]
  by_cases c : lx A (i + ln (lx A i)) = 59
  · rw [if_pos c, lt_s_, lt_s_, zr1, bo_s]
    refine Or.inl ⟨?_, _, rfl, h.up (by rw [h.1, nI_1]; rfl), hU⟩
    have := stG_f (A := A) (i := i) (sl A i) 0 (fun t _ h2 => ?_)
    · rw [Nat.zero_add] at this; exact this
    · rcases Nat.eq_or_lt_of_le (show t ≤ ln (lx A i) by unfold sl at h2; omega) with e | e
      · rw [e]; exact pP_e.mpr c
      · exact ha t e
  · rw [if_neg c, zr0, bo_s]
    exact RS_f ha (fun q => c (pP_e.mp q)) (Nat.le_refl _) h
theorem m_218z (N : Nat) (z : St) : fX3_readsStatement_L218 N z 0 = some (0, z) := by
  unfold fX3_readsStatement_L218
  rw [if_pos rfl, zr0, bo_s]
theorem m_kindBy (N : Nat) (c : Int32) : fX3_kindBy N c = some (kdV c) := by
  unfold fX3_kindBy kdV
  simp only [apply_ite some]
theorem m_kind {N : Nat} {z ρ A : St} {p : Nat} (h : RP z ρ p) (hB : LB ρ A) (hA : AI A) (hp : p < 2 ^ 29) : (0 ≤ kdV (lx A p) → ∃ z', fX3_readsKind N z = some (1, z') ∧ RP z' ρ (p + 1) ∧ z' 8 0 = kdV (lx A p)) ∧ (¬ 0 ≤ kdV (lx A p) → ∃ z', fX3_readsKind N z = some (0, z') ∧ RP z' ρ p) := by
  have w : ∀ v, wrI z 8 3 (0 : Int32) v = some (up2 z 8 0 v) := fun v => wrI_n (t := 0) (by omega) (by omega)
  have r1 : ∀ v, rdI (up2 z 8 0 v) 8 3 (0 : Int32) = some v := fun v => (rdI_n (t := 0) (by omega) (by omega)).trans (congrArg some (show upd (z 8) 0 v 0 = v from pk_us))
  have r2 : ∀ v y, rdI (up2 (up2 z 8 0 v) 0 10 y) 8 3 (0 : Int32) = some v := fun v y => (rdI_n (t := 0) (by omega) (by omega)).trans (congrArg some (show upd (z 8) 0 v 0 = v from pk_us))
  unfold fX3_readsKind
  rw [m_here h hB hA (by omega), bo_s, m_kindBy, bo_s, w, bo_s, r1, bo_s]
  unfold fX3_readsKind_L32
  simp only [lt_s_, r2, bo_s]
  refine ⟨fun c => ?_, fun c => ?_⟩
  · rw [if_pos c, if_neg (by grind), zr1, bo_s]
    exact ⟨_, rfl, (h.w8 0 _).up (by show z 0 10 + 1 = _; rw [h.1, nI_1]), (show upd (z 8) 0 (kdV (lx A p)) 0 = _ from pk_us)⟩
  · rw [if_neg c, if_pos (by grind), zr0, bo_s]
    exact ⟨_, rfl, (h.w8 0 _).up (by show z 0 10 + 0 = _; rw [h.1]; simp)⟩
theorem m_rS {N : Nat} (hN : 300 < N) {z ρ A : St} {i : Nat} (h : RP z ρ i) (hB : LB ρ A) (hA : AI A) (hi : i < 1000) : RSo A ρ i (fX3_readsStatement N z) := by
  have h1 : RP (up2 z 0 10 (z 0 10 + 1)) ρ (i + 1) := h.up (by rw [h.1, nI_1])
  unfold fX3_readsStatement fX3_readsStatement_L191 fX3_readsStatement_L192 fX3_readsStatement_L164 fX3_readsStatement_L165 fX3_readsStatement_L137 fX3_readsStatement_L138
  rw [m_here h hB hA (by omega), bo_s, lt_s_, lt_s_]
  generalize hz : up2 z 0 10 (z 0 10 + 1) = z1 at h1 ⊢
  -- two digits and the end
  have two : ln (lx A i) = 3 → hd (lx A i) → ¬ lx A i = 116 → ¬ lx A i = 98 → ¬ lx A i = 104 → RSo A ρ i (bx (fX3_readsNumber N z1 0 2) (fun uq => uq) (fun v13 z12 => fX3_readsStatement_L218 N z12 v13)) := by
    intro hl hh n1 n2 n3
    have p0 : ∀ t, t < 1 → pP A i t = true := pltA (pP_0.mpr hh)
    obtain ⟨f1, f2, f3⟩ := m_n2 hN h1 hB hA (by omega) (k := 0) (by omega) (K := 0) rfl
    by_cases c1 : dg (lx A (i + 1))
    · have p1 : ∀ t, t < 2 → pP A i t = true := pltB p0 ((pP_d (by omega) (by omega) (fun q => n1 q.2)).mpr c1)
      by_cases c2 : dg (lx A (i + 1 + 1))
      · obtain ⟨z2, g1, g2, g3, g4⟩ := f1 c1 c2
        rw [g1, bx_s]
        refine m_218 hB hA hi ?_ (by rw [hl]; exact g2) ⟨fun q => absurd q n2, fun _ => g3, fun q => absurd q n3, fun q => absurd q n1⟩
        rw [hl]
        exact pltB p1 ((pP_d (by omega) (by omega) (fun q => n1 q.2)).mpr c2)
      · obtain ⟨z2, g1, g2⟩ := f2 c1 c2
        rw [g1, bx_s, m_218z]
        exact RS_f p1 (fun q => c2 ((pP_d (by omega) (by omega) (fun q => n1 q.2)).mp q)) (by omega) g2
    · obtain ⟨z2, g1, g2⟩ := f3 c1
      rw [g1, bx_s, m_218z]
      exact RS_f p0 (fun q => c1 ((pP_d (by omega) (by omega) (fun q => n1 q.2)).mp q)) (by omega) g2
  by_cases k98 : lx A i = 98
  · rw [if_pos k98]
    have hl : ln (lx A i) = 4 := by rw [k98]; rfl
    have n1 : ¬ lx A i = 116 := by rw [k98]; decide
    have p0 : ∀ t, t < 1 → pP A i t = true := pltA (pP_0.mpr (by rw [k98]; decide))
    obtain ⟨f1, f2⟩ := m_n1 hN h1 hB hA (by omega) (k := 0) (by omega) (K := 0) rfl
    by_cases c1 : dg (lx A (i + 1))
    · obtain ⟨z2, g1, g2, g3, g4⟩ := f1 c1
      rw [g1, bx_s, if_neg (by decide)]
      have p1 : ∀ t, t < 2 → pP A i t = true := pltB p0 ((pP_d (by omega) (by omega) (fun q => n1 q.2)).mpr c1)
      obtain ⟨e1, e2, e3⟩ := m_n2 hN g2 hB hA (by omega) (k := 1) (by omega) (K := 1) rfl
      by_cases c2 : dg (lx A (i + 1 + 1))
      · have p2 : ∀ t, t < 3 → pP A i t = true := pltB p1 ((pP_d (by omega) (by omega) (fun q => n1 q.2)).mpr c2)
        by_cases c3 : dg (lx A (i + 1 + 1 + 1))
        · obtain ⟨z3, d1, d2, d3, d4⟩ := e1 c2 c3
          rw [d1, bx_s, if_neg (by decide)]
          refine m_218 hB hA hi ?_ (by rw [hl]; exact d2) ⟨fun _ => ⟨(d4 0 (by omega)).trans g3, d3⟩, fun q => by rcases q with q | q | q <;> rw [k98] at q <;> exact absurd q (by decide), fun q => by rw [k98] at q; exact absurd q (by decide), fun q => absurd q n1⟩
          rw [hl]
          exact pltB p2 ((pP_d (by omega) (by omega) (fun q => n1 q.2)).mpr c3)
        · obtain ⟨z3, d1, d2⟩ := e2 c2 c3
          rw [d1, bx_s, if_pos rfl, m_218z]
          exact RS_f p2 (fun q => c3 ((pP_d (by omega) (by omega) (fun q => n1 q.2)).mp q)) (by omega) d2
      · obtain ⟨z3, d1, d2⟩ := e3 c2
        rw [d1, bx_s, if_pos rfl, m_218z]
        exact RS_f p1 (fun q => c2 ((pP_d (by omega) (by omega) (fun q => n1 q.2)).mp q)) (by omega) d2
    · obtain ⟨z2, g1, g2⟩ := f2 c1
      rw [g1, bx_s, if_pos rfl, m_218z]
      exact RS_f p0 (fun q => c1 ((pP_d (by omega) (by omega) (fun q => n1 q.2)).mp q)) (by omega) g2
  · rw [if_neg k98]
    by_cases k100 : lx A i = 100
    · rw [if_pos k100]
      exact two (by rw [k100]; rfl) (by rw [k100]; decide) (by rw [k100]; decide) k98 (by rw [k100]; decide)
    · rw [if_neg k100]
      by_cases k102 : lx A i = 102
      · rw [if_pos k102]
        exact two (by rw [k102]; rfl) (by rw [k102]; decide) (by rw [k102]; decide) k98 (by rw [k102]; decide)
      · rw [if_neg k102]
        by_cases k104 : lx A i = 104
        · rw [if_pos k104]
          have hl : ln (lx A i) = 3 := by rw [k104]; rfl
          have n1 : ¬ lx A i = 116 := by rw [k104]; decide
          have p0 : ∀ t, t < 1 → pP A i t = true := pltA (pP_0.mpr (by rw [k104]; decide))
          obtain ⟨f1, f2⟩ := m_n1 hN h1 hB hA (by omega) (k := 0) (by omega) (K := 0) rfl
          by_cases c1 : dg (lx A (i + 1))
          · obtain ⟨z2, g1, g2, g3, g4⟩ := f1 c1
            rw [g1, bx_s, if_neg (by decide)]
            have p1 : ∀ t, t < 2 → pP A i t = true := pltB p0 ((pP_d (by omega) (by omega) (fun q => n1 q.2)).mpr c1)
            obtain ⟨e1, e2⟩ := m_n1 hN g2 hB hA (by omega) (k := 1) (by omega) (K := 1) rfl
            by_cases c2 : dg (lx A (i + 1 + 1))
            · obtain ⟨z3, d1, d2, d3, d4⟩ := e1 c2
              rw [d1, bx_s, if_neg (by decide)]
              refine m_218 hB hA hi ?_ (by rw [hl]; exact d2) ⟨fun q => absurd q k98, fun q => by rcases q with q | q | q <;> rw [k104] at q <;> exact absurd q (by decide), fun _ => ⟨(d4 0 (by omega)).trans g3, d3⟩, fun q => absurd q n1⟩
              rw [hl]
              exact pltB p1 ((pP_d (by omega) (by omega) (fun q => n1 q.2)).mpr c2)
            · obtain ⟨z3, d1, d2⟩ := e2 c2
              rw [d1, bx_s, if_pos rfl, m_218z]
              exact RS_f p1 (fun q => c2 ((pP_d (by omega) (by omega) (fun q => n1 q.2)).mp q)) (by omega) d2
          · obtain ⟨z2, g1, g2⟩ := f2 c1
            rw [g1, bx_s, if_pos rfl, m_218z]
            exact RS_f p0 (fun q => c1 ((pP_d (by omega) (by omega) (fun q => n1 q.2)).mp q)) (by omega) g2
        · rw [if_neg k104]
          by_cases k110 : lx A i = 110
          · rw [if_pos k110]
            exact two (by rw [k110]; rfl) (by rw [k110]; decide) (by rw [k110]; decide) k98 (by rw [k110]; decide)
          · rw [if_neg k110]
            by_cases k116 : lx A i = 116
            · rw [if_pos k116]
              have hl : ln (lx A i) = 4 := by rw [k116]; rfl
              have p0 : ∀ t, t < 1 → pP A i t = true := pltA (pP_0.mpr (by rw [k116]; decide))
              obtain ⟨f1, f2⟩ := m_kind (N := N) h1 hB hA (by omega)
              by_cases c1 : 0 ≤ kdV (lx A (i + 1))
              · obtain ⟨z2, g1, g2, g3⟩ := f1 c1
                rw [g1, bx_s, if_neg (by decide)]
                have p1 : ∀ t, t < 2 → pP A i t = true := pltB p0 ((pP_k k116).mpr c1)
                obtain ⟨e1, e2⟩ := m_n1 hN g2 hB hA (by omega) (k := 1) (by omega) (K := 1) rfl
                by_cases c2 : dg (lx A (i + 1 + 1))
                · obtain ⟨z3, d1, d2, d3, d4⟩ := e1 c2
                  rw [d1, bx_s, if_neg (by decide)]
                  have p2 : ∀ t, t < 3 → pP A i t = true := pltB p1 ((pP_d (by omega) (by omega) (fun q => by omega)).mpr c2)
                  obtain ⟨b1, b2⟩ := m_n1 hN d2 hB hA (by omega) (k := 2) (by omega) (K := 2) rfl
                  by_cases c3 : dg (lx A (i + 1 + 1 + 1))
                  · obtain ⟨z4, a1, a2, a3, a4⟩ := b1 c3
                    rw [a1, bx_s, if_neg (by decide)]
                    refine m_218 hB hA hi ?_ (by rw [hl]; exact a2) ⟨fun q => absurd q k98, fun q => by rcases q with q | q | q <;> rw [k116] at q <;> exact absurd q (by decide), fun q => absurd q k104, fun _ => ⟨(a4 0 (by omega)).trans ((d4 0 (by omega)).trans g3), (a4 1 (by omega)).trans d3, a3⟩⟩
                    rw [hl]
                    exact pltB p2 ((pP_d (by omega) (by omega) (fun q => by omega)).mpr c3)
                  · obtain ⟨z4, a1, a2⟩ := b2 c3
                    rw [a1, bx_s, if_pos rfl, m_218z]
                    exact RS_f p2 (fun q => c3 ((pP_d (i := i) (j := 3) (by omega) (by omega) (fun q => by omega)).mp q)) (by omega) a2
                · obtain ⟨z3, d1, d2⟩ := e2 c2
                  rw [d1, bx_s, if_pos rfl, m_218z]
                  exact RS_f p1 (fun q => c2 ((pP_d (i := i) (j := 2) (by omega) (by omega) (fun q => by omega)).mp q)) (by omega) d2
              · obtain ⟨z2, g1, g2⟩ := f2 c1
                rw [g1, bx_s, if_pos rfl, m_218z]
                exact RS_f p0 (fun q => c1 ((pP_k k116).mp q)) (by omega) g2
            · rw [if_neg k116, lt_s_, lt_s_, zr0, bo_s]
              have hn : ¬ pP A i 0 = true := fun q => by have := pP_0.mp q; unfold hd at this; grind
              refine RS_f (j := 0) (fun t ht => by omega) hn (Nat.zero_le _) (h1.up (q := i + 0) (by rw [h1.1, nI_pred]; rfl))
