/-! the telling, as numbers: what both sides read -/
def lx (A : St) (i : Nat) : Int32 := if i < nL A then A 2 i else -1
abbrev hd (c : Int32) : Prop := c = 116 ∨ c = 104 ∨ c = 98 ∨ c = 102 ∨ c = 100 ∨ c = 110
abbrev dg (x : Int32) : Prop := 48 ≤ x ∧ x ≤ 57
def kdV (x : Int32) : Int32 := if x = 98 then 4 else if x = 104 then 0 else if x = 108 then 1 else if x = 115 then 3 else if x = 116 then 2 else if x = 119 then 5 else -9
def ln (c : Int32) : Nat := if c = 116 then 4 else if c = 98 then 4 else 3
def okB (c : Int32) (j : Nat) (x : Int32) : Bool := if j = 0 then decide (hd x) else if j = ln c then decide (x = 59) else if j = 1 ∧ c = 116 then decide (0 ≤ kdV x) else decide (dg x)
def pP (A : St) (i j : Nat) : Bool := okB (lx A i) j (lx A (i + j))
def stG (A : St) (i : Nat) : Nat → Nat → Nat
  | 0, j => j
  | k + 1, j => if pP A i j = true then stG A i k (j + 1) else j
def sl (A : St) (i : Nat) : Nat := ln (lx A i) + 1
def pz (A : St) : Nat → Nat → Option Nat
  | 0, _ => none
  | k + 1, i => if i < nL A then (if stG A i (sl A i) 0 = sl A i then pz A k (i + sl A i) else some (i + stG A i (sl A i) 0)) else none
def cS (A : St) : Nat → Nat → Nat
  | 0, _ => 0
  | k + 1, i => if i < nL A then 1 + cS A k (i + sl A i) else 0
def dj (A : St) (i : Nat) : Int32 := lx A i - 48
def nj (A : St) (i : Nat) : Int32 := 10 * dj A i + dj A (i + 1)
def addR (r : Nat → Int32) (k f w : Int32) : Nat → Int32 := fun i => if i = 0 then r 0 + 1 else if i = 4 * cnt r + 6 then k else if i = 4 * cnt r + 7 then f else if i = 4 * cnt r + 8 then w else if i = 4 * cnt r + 9 then r 1 else r i
def ex (A : St) (i : Nat) (r : Nat → Int32) : Option (Nat → Int32) :=
  if lx A i = 98 then (if 0 ≤ dj A (i + 1) ∧ dj A (i + 1) ≤ 1 then (if nj A (i + 2) ≤ 50 then some (fun k => if k = 4 + (dj A (i + 1)).toNatClampNeg then nj A (i + 2) else r k) else none) else none)
  else if lx A i = 100 then (if 0 ≤ nj A (i + 1) ∧ nj A (i + 1) ≤ 20 then some (fun k => if k = 3 then r 3 ^^^ ((1 : Int32) <<< (nj A (i + 1) &&& 31)) else r k) else none)
  else if lx A i = 102 then (if 0 ≤ nj A (i + 1) ∧ nj A (i + 1) ≤ 20 then some (fun k => if k = 2 then nj A (i + 1) else r k) else none)
  else if lx A i = 104 then (if 0 ≤ dj A (i + 1) ∧ dj A (i + 1) < r 0 then (if dj A (i + 2) ≤ 2 then some (hangR r (dj A (i + 1)).toNatClampNeg (dj A (i + 2))) else none) else none)
  else if lx A i = 110 then (if 1 ≤ nj A (i + 1) ∧ nj A (i + 1) ≤ 60 then (if r 1 + nj A (i + 1) ≤ 999 then some (adv r (nj A (i + 1)).toNatClampNeg) else none) else none)
  else (if dj A (i + 3) ≤ 2 then (if r 0 = 8 then none else some (addR r (kdV (lx A (i + 1))) (dj A (i + 2)) (dj A (i + 3)))) else none)
def rn (A : St) : Nat → Nat → (Nat → Int32) → Nat → Int32 × Option (Nat → Int32)
  | 0, _, r, m => (nI m, some r)
  | k + 1, i, r, m => if i < nL A then (match ex A i r with | none => (-2000 - nI i, none) | some r' => rn A k (i + sl A i) r' (m + 1)) else (nI m, some r)
def z0 (A : St) : St := fun c => if c = 5 then (fun j => if j = 1 then 0 else A 5 j) else A c
def S_hoist (A : St) : Int32 × St := if nL A = 0 then (-1000, z0 A) else match pz A 96 0 with
  | some p => (-1000 - nI p, z0 A)
  | none => ((rn A 96 0 (A 0) 0).1, match (rn A 96 0 (A 0) 0).2 with | none => z0 A | some r => wR (z0 A) r)
/-! of letters -/
theorem lx_in {A : St} (hI : AI A) {i : Nat} (hi : i < nL A) : ∃ j, j < 256 ∧ lx A i = nI j ∧ A 2 i = nI j := by
  obtain ⟨h1, h2⟩ := hI.2.2.2.2.1 i hi
  obtain ⟨j, hj, e⟩ := nI_of2 (x := A 2 i) (M := 255) (n := 255) (by decide) (by grind) h2
  exact ⟨j, by omega, by unfold lx; rw [if_pos hi, e], e⟩
theorem lx_out {A : St} {i : Nat} (hi : ¬ i < nL A) : lx A i = -1 := if_neg hi
theorem ok_m1 (c : Int32) (j : Nat) : okB c j (-1) = false := by
  unfold okB
  by_cases h1 : j = 0
  · rw [if_pos h1]; decide
  · rw [if_neg h1]
    by_cases h2 : j = ln c
    · rw [if_pos h2]; decide
    · rw [if_neg h2]
      by_cases h3 : j = 1 ∧ c = 116
      · rw [if_pos h3]; decide
      · rw [if_neg h3]; decide
theorem pP_in {A : St} {i j : Nat} (h : pP A i j = true) : i + j < nL A := by
  by_cases q : i + j < nL A
  · exact q
  · unfold pP at h; rw [lx_out q, ok_m1] at h; cases h
theorem ln_34 (c : Int32) : ln c = 3 ∨ ln c = 4 := by
  unfold ln
  by_cases h1 : c = 116
  · rw [if_pos h1]; exact Or.inr rfl
  · rw [if_neg h1]
    by_cases h2 : c = 98
    · rw [if_pos h2]; exact Or.inr rfl
    · rw [if_neg h2]; exact Or.inl rfl
theorem ok_59 {c : Int32} {j : Nat} {x : Int32} (h : okB c j x = true) (hj : j < ln c) : ¬ x = 59 := by
  intro e
  subst e
  unfold okB at h
  by_cases h1 : j = 0
  · rw [if_pos h1] at h; revert h; decide
  · rw [if_neg h1, if_neg (by omega)] at h
    by_cases h3 : j = 1 ∧ c = 116
    · rw [if_pos h3] at h; revert h; decide
    · rw [if_neg h3] at h; revert h; decide
theorem ok_end {c : Int32} {x : Int32} (h : okB c (ln c) x = true) : x = 59 := by
  unfold okB at h
  rw [if_neg (by have := ln_34 c; omega), if_pos rfl] at h
  exact of_decide_eq_true h
theorem stG_le (A : St) (i : Nat) : ∀ k j, j ≤ stG A i k j ∧ stG A i k j ≤ j + k := by
  intro k
  induction k with
  | zero => intro j; exact ⟨Nat.le_refl _, Nat.le_refl _⟩
  | succ k ih =>
    intro j
    unfold stG
    by_cases h : pP A i j = true
    · rw [if_pos h]; have := ih (j + 1); omega
    · rw [if_neg h]; omega
theorem stG_all {A : St} {i : Nat} : ∀ k j, stG A i k j = j + k → ∀ t, j ≤ t → t < j + k → pP A i t = true := by
  intro k
  induction k with
  | zero => intro j _ t h1 h2; omega
  | succ k ih =>
    intro j h t h1 h2
    unfold stG at h
    by_cases q : pP A i j = true
    · rw [if_pos q] at h
      rcases Nat.eq_or_lt_of_le h1 with e | e
      · rw [← e]; exact q
      · exact ih (j + 1) (by omega) t (by omega) (by omega)
    · rw [if_neg q] at h; omega
def full (A : St) (i : Nat) : Prop := stG A i (sl A i) 0 = sl A i
theorem full_all {A : St} {i : Nat} (h : full A i) : ∀ t, t ≤ ln (lx A i) → pP A i t = true := fun t ht => stG_all (sl A i) 0 (by rw [Nat.zero_add]; exact h) t (by omega) (by unfold sl; omega)
theorem full_in {A : St} {i : Nat} (h : full A i) : i + sl A i ≤ nL A := by
  have := pP_in (full_all h (ln (lx A i)) (Nat.le_refl _))
  unfold sl; omega
theorem hd_ix : ∀ j, j < 256 → ((ixS 0 ((nI j).toUInt32 % 65536).toInt32 < 0) ↔ ¬ hd (nI j)) := by decide +kernel
theorem kd_ix : ∀ j, j < 256 → ((ixS 1 ((nI j).toUInt32 % 65536).toInt32 < 0) ↔ ¬ 0 ≤ kdV (nI j)) ∧ (0 ≤ kdV (nI j) → ixS 1 ((nI j).toUInt32 % 65536).toInt32 = kdV (nI j) ∧ kdV (nI j) ≤ 5) := by decide +kernel
/-! the class's letters -/
def TE (τ A : St) : Prop := τ 0 0 = nI (nL A) ∧ ∀ k, k < nL A → τ 1 k = A 2 k
theorem x1_let {N : Nat} {τ A : St} (h : TE τ A) (hI : AI A) {k : Nat} (hk : k < nL A) : fX1_letterAt N τ (nI k) = some (lx A k) := by
  have h96 := hI.2.2.2.1.1
  unfold fX1_letterAt
  rw [if_neg (nI_pos (by omega)), h.1, if_neg (nI_ge hk (by omega)), if_neg (show ¬ (96 : Int32) ≤ nI k from nI_ge (b := 96) (by omega) (by omega)), rdI_n (by omega) (by omega), bo_s, h.2 k hk]
  unfold lx
  rw [if_pos hk]
theorem x1_len (N : Nat) (c : Int32) : fX1_lengthOf N c = some (nI (ln c)) := by
  unfold fX1_lengthOf ln
  by_cases h1 : c = 116
  · rw [if_pos h1, if_pos h1]; rfl
  · rw [if_neg h1, if_neg h1]
    by_cases h2 : c = 98
    · rw [if_pos h2, if_pos h2]; rfl
    · rw [if_neg h2, if_neg h2]; rfl
theorem b01 (b : Bool) (c : Prop) [Decidable c] (h : c ↔ ¬ b = true) : (if c then zr 0 else zr 1) = some (if b = true then (1 : Int32) else 0) := by
  by_cases q : b = true
  · rw [if_pos q, if_neg (fun p => h.mp p q)]; rfl
  · rw [if_neg q, if_pos (h.mpr q)]; rfl
theorem x1_dig (N : Nat) (τ : St) (x : Int32) : fX1_goesOn_L88 N τ x = some (if decide (dg x) = true then 1 else 0) := by
  unfold fX1_goesOn_L88
  by_cases h1 : x < 48
  · rw [if_pos h1, if_neg (by simp only [decide_eq_true_eq]; exact fun q => by have := q.1; grind)]; rfl
  · rw [if_neg h1]
    by_cases h2 : 57 < x
    · rw [if_pos h2, if_neg (by simp only [decide_eq_true_eq]; exact fun q => by have := q.2; grind)]; rfl
    · rw [if_neg h2, if_pos (by simp only [decide_eq_true_eq]; exact ⟨by grind, by grind⟩)]; rfl
theorem x1_on {N : Nat} {τ A : St} (h : TE τ A) (hI : AI A) {i j : Nat} (hj : i + j < nL A) : fX1_goesOn N τ (nI i) (nI (i + j)) = some (if pP A i j = true then 1 else 0) := by
  have h96 := hI.2.2.2.1.1
  have hl := ln_34 (lx A i)
  obtain ⟨b, hb, e1, _⟩ := lx_in hI hj
  unfold fX1_goesOn
  rw [x1_let h hI (by omega : i < nL A), bo_s, x1_let h hI hj, bo_s, x1_len, bo_s, nI_add, lt_s_, lt_s_, show nI i + 1 = nI (i + 1) from nI_1 i]
  unfold pP okB
  by_cases c1 : j = 0
  · subst c1
    rw [if_pos (by rfl), if_pos rfl, e1]
    refine b01 _ _ ?_
    rw [hd_ix b hb, decide_eq_true_eq]
  · rw [if_neg (fun q => c1 (by have := (nI_eq (by omega) (by omega)).mp q; omega)), if_neg c1]
    by_cases c2 : j = ln (lx A i)
    · rw [if_pos (by rw [c2]), if_pos c2]
      by_cases c3 : lx A (i + j) = 59
      · rw [if_pos c3, if_pos (by rw [decide_eq_true_eq]; exact c3)]; rfl
      · rw [if_neg c3, if_neg (by rw [decide_eq_true_eq]; exact c3)]; rfl
    · rw [if_neg (fun q => c2 (by have := (nI_eq (by omega) (by omega)).mp q; omega)), if_neg c2]
      by_cases c3 : j = 1
      · subst c3
        rw [if_pos rfl]
        by_cases c4 : lx A i = 116
        · rw [if_pos c4, if_pos (show 1 = 1 ∧ lx A i = 116 from ⟨rfl, c4⟩), e1]
          refine b01 _ _ ?_
          rw [(kd_ix b hb).1, decide_eq_true_eq]
        · rw [if_neg c4, if_neg (show ¬ (1 = 1 ∧ lx A i = 116) from fun q => c4 q.2), x1_dig]
      · rw [if_neg (fun q => c3 (by have := (nI_eq (by omega) (by omega)).mp q; omega)), if_neg (show ¬ (j = 1 ∧ lx A i = 116) from fun q => c3 q.1), x1_dig]
/-! where it breaks: the class -/
theorem x1_brkS {N : Nat} {τ A : St} (h : TE τ A) (hI : AI A) (h0 : 0 < nL A) {i j : Nat} (hi : i < nL A) (hj : j ≤ ln (lx A i)) (hij : i + j ≤ nL A) (m : Nat) : fX1_brokenAt_L4 N τ (m + 1) (nI i) (nI (i + j)) = if pP A i j = true then (if j = ln (lx A i) then fX1_brokenAt_L4 N τ m (nI (i + j + 1)) (nI (i + j + 1)) else fX1_brokenAt_L4 N τ m (nI i) (nI (i + j + 1))) else some (nI (i + j)) := by
  have h96 := hI.2.2.2.1.1
  rw [fX1_brokenAt_L4, h.1]
  by_cases c1 : i + j < nL A
  · rw [if_neg (nI_ge c1 (by omega)), x1_on h hI c1, bo_s, x1_let h hI c1, bo_s]
    by_cases c2 : pP A i j = true
    · rw [if_pos c2, if_pos c2, if_neg (by decide)]
      unfold fX1_brokenAt_L37
      simp only [lt_s_, nI_1]
      by_cases c3 : j = ln (lx A i)
      · have := ok_end (c := lx A i) (x := lx A (i + j)) (by rw [← c3]; exact c2)
        rw [if_pos this, if_pos c3]
      · rw [if_neg (ok_59 c2 (by omega)), if_neg c3]
    · rw [if_neg c2, if_neg c2, if_pos rfl]
  · have e : i + j = nL A := by omega
    have c2 : ¬ pP A i j = true := fun q => c1 (pP_in q)
    rw [if_pos (nI_le (by omega) (by omega)), if_neg c2, if_neg (nI_ne0 h0 (by omega)), if_neg (nI_ge hi (by omega)), e]
theorem x1_brkI {N : Nat} {τ A : St} (h : TE τ A) (hI : AI A) (h0 : 0 < nL A) {i : Nat} (hi : i < nL A) : ∀ (k m j : Nat), j + k = ln (lx A i) → i + j ≤ nL A → fX1_brokenAt_L4 N τ (m + k + 1) (nI i) (nI (i + j)) = if stG A i (k + 1) j = sl A i then fX1_brokenAt_L4 N τ m (nI (i + sl A i)) (nI (i + sl A i)) else some (nI (i + stG A i (k + 1) j)) := by
  intro k
  induction k with
  | zero =>
    intro m j hj hij
    rw [x1_brkS h hI h0 hi (by omega) hij]
    have e : stG A i 1 j = if pP A i j = true then j + 1 else j := rfl
    rw [e]
    by_cases c : pP A i j = true
    · rw [if_pos c, if_pos c, if_pos (by omega), if_pos (by unfold sl; omega), show i + j + 1 = i + sl A i by unfold sl; omega]
    · rw [if_neg c, if_neg c, if_neg (by unfold sl; omega)]
  | succ k ih =>
    intro m j hj hij
    rw [show m + (k + 1) + 1 = (m + k + 1) + 1 by omega, x1_brkS h hI h0 hi (by omega) hij]
    have e : stG A i (k + 1 + 1) j = if pP A i j = true then stG A i (k + 1) (j + 1) else j := rfl
    rw [e]
    by_cases c : pP A i j = true
    · have := pP_in c
      rw [if_pos c, if_pos c, if_neg (by omega)]
      exact ih m (j + 1) (by omega) (by omega)
    · rw [if_neg c, if_neg c, if_neg (by unfold sl; omega)]
theorem x1_brkL {N : Nat} {τ A : St} (h : TE τ A) (hI : AI A) (h0 : 0 < nL A) : ∀ (k n i : Nat), i ≤ nL A → nL A ≤ i + k → 5 * k < n → fX1_brokenAt_L4 N τ n (nI i) (nI i) = some (match pz A k i with | none => -1 | some p => nI p) := by
  have h96 := hI.2.2.2.1.1
  have ebase : ∀ n i, ¬ i < nL A → i ≤ nL A → 0 < n → fX1_brokenAt_L4 N τ n (nI i) (nI i) = some (-1) := by
    intro n i h1 h2 hn
    obtain ⟨n, rfl⟩ : ∃ m, n = m + 1 := ⟨n - 1, by omega⟩
    rw [fX1_brokenAt_L4, h.1, if_pos (nI_le (by omega) (by omega)), if_neg (nI_ne0 h0 (by omega)), if_pos (nI_le (by omega) (by omega))]
  intro k
  induction k with
  | zero =>
    intro n i h1 h2 hn
    exact ebase n i (by omega) h1 (by omega)
  | succ k ih =>
    intro n i h1 h2 hn
    unfold pz
    by_cases c : i < nL A
    · rw [if_pos c]
      have hl := ln_34 (lx A i)
      obtain ⟨m, rfl⟩ : ∃ m, n = m + ln (lx A i) + 1 := ⟨n - ln (lx A i) - 1, by omega⟩
      have this : fX1_brokenAt_L4 N τ (m + ln (lx A i) + 1) (nI i) (nI i) = if stG A i (sl A i) 0 = sl A i then fX1_brokenAt_L4 N τ m (nI (i + sl A i)) (nI (i + sl A i)) else some (nI (i + stG A i (sl A i) 0)) := x1_brkI (N := N) h hI h0 c (ln (lx A i)) m 0 (by omega) (by omega)
      rw [this]
      by_cases c2 : stG A i (sl A i) 0 = sl A i
      · rw [if_pos c2, if_pos c2]
        have := full_in (A := A) (i := i) c2
        exact ih m (i + sl A i) this (by unfold sl; omega) (by omega)
      · rw [if_neg c2, if_neg c2]
    · rw [if_neg c]
      exact ebase n i c h1 (by omega)
theorem pz_le {A : St} : ∀ (k i p : Nat), i ≤ nL A → pz A k i = some p → p ≤ nL A := by
  intro k
  induction k with
  | zero => intro i p _ h; cases h
  | succ k ih =>
    intro i p hi h
    unfold pz at h
    by_cases c : i < nL A
    · rw [if_pos c] at h
      by_cases c2 : stG A i (sl A i) 0 = sl A i
      · rw [if_pos c2] at h; exact ih _ p (full_in (A := A) (i := i) c2) h
      · rw [if_neg c2] at h
        cases h
        have key : ∀ k j, j ≤ nL A - i → stG A i k j ≤ nL A - i := by
          intro k
          induction k with
          | zero => intro j hj; exact hj
          | succ k ih2 =>
            intro j hj
            unfold stG
            by_cases q : pP A i j = true
            · rw [if_pos q]; have := pP_in q; exact ih2 (j + 1) (by omega)
            · rw [if_neg q]; exact hj
        have := key (sl A i) 0 (by omega)
        omega
    · rw [if_neg c] at h; cases h
theorem pz_full {A : St} {k i : Nat} (h : pz A (k + 1) i = none) (c : i < nL A) : full A i ∧ pz A k (i + sl A i) = none := by
  unfold pz at h
  rw [if_pos c] at h
  by_cases c2 : stG A i (sl A i) 0 = sl A i
  · rw [if_pos c2] at h; exact ⟨c2, h⟩
  · rw [if_neg c2] at h; cases h
