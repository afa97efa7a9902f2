/-! draught: the numbers -/
def stN (f : Nat) (p : Int32) : Nat := (stp (nI f) p).toNatClampNeg
theorem stp_b (f p : Int32) : 0 ≤ stp f p ∧ stp f p ≤ 20 := clp_b _
theorem stN_e (f : Nat) (p : Int32) : stp (nI f) p = nI (stN f p) ∧ stN f p < 21 := by
  obtain ⟨g, hg, e⟩ := floor_of (stp_b (nI f) p)
  unfold stN
  rw [e, nI_clamp (by omega)]
  exact ⟨rfl, by omega⟩
/-- of all cases, those that end at v or above: m days are left, day i is next -/
def ED (P : Nat → Int32) (t v : Nat) : Nat → Nat → Nat → Nat
  | 0, _, f => if v ≤ f then 1 else 0
  | m + 1, i, f => (t - 1) * ED P t v m (i + 1) (stN f (P i)) + ED P t v m (i + 1) (stN f (P i - 8))
theorem ED_s (P : Nat → Int32) (t v m i f : Nat) : ED P t v (m + 1) i f = (t - 1) * ED P t v m (i + 1) (stN f (P i)) + ED P t v m (i + 1) (stN f (P i - 8)) := rfl
theorem ED_le (P : Nat → Int32) {t : Nat} (ht : 1 ≤ t) (v : Nat) : ∀ (m i f : Nat), ED P t v m i f ≤ t ^ m
  | 0, i, f => by
    unfold ED
    by_cases c : v ≤ f
    · rw [if_pos c]; simp
    · rw [if_neg c]; simp
  | m + 1, i, f => by
    rw [ED_s, Nat.pow_succ]
    have h1 := ED_le P ht v m (i + 1) (stN f (P i))
    have h2 := ED_le P ht v m (i + 1) (stN f (P i - 8))
    have h3 : (t - 1) * ED P t v m (i + 1) (stN f (P i)) ≤ (t - 1) * t ^ m := Nat.mul_le_mul_left _ h1
    have h4 : t ^ m * t = (t - 1) * t ^ m + t ^ m := by
      obtain ⟨u, rfl⟩ : ∃ u, t = u + 1 := ⟨t - 1, by omega⟩
      rw [Nat.add_sub_cancel, Nat.mul_comm, Nat.succ_mul]
    omega
/-! sums -/
def SE (X e : Nat → Nat) : Nat → Nat
  | 0 => 0
  | n + 1 => SE X e n + X n * e n
theorem SE_s (X e : Nat → Nat) (n : Nat) : SE X e (n + 1) = SE X e n + X n * e n := rfl
def upN (X : Nat → Nat) (g c : Nat) : Nat → Nat := fun j => if j = g then X g + c else X j
theorem SE_up (X e : Nat → Nat) (g c : Nat) : ∀ n, SE (upN X g c) e n = SE X e n + (if g < n then c * e g else 0)
  | 0 => by rw [if_neg (by omega)]; rfl
  | n + 1 => by
    rw [SE_s, SE_s, SE_up X e g c n]
    by_cases h : n = g
    · subst h
      rw [if_neg (by omega), if_pos (by omega)]
      have e1 : upN X n c n = X n + c := if_pos rfl
      rw [e1, Nat.add_mul]
      omega
    · have e1 : upN X g c n = X n := if_neg h
      rw [e1]
      by_cases h2 : g < n
      · rw [if_pos h2, if_pos (by omega)]; omega
      · rw [if_neg h2, if_neg (by omega)]; omega
theorem SE_c {X X' e e' : Nat → Nat} : ∀ n, (∀ j, j < n → X j = X' j) → (∀ j, j < n → e j = e' j) → SE X e n = SE X' e' n
  | 0, _, _ => rfl
  | n + 1, h, h' => by rw [SE_s, SE_s, SE_c n (fun j hj => h j (by omega)) (fun j hj => h' j (by omega)), h n (by omega), h' n (by omega)]
theorem SE_0 (e : Nat → Nat) : ∀ n, SE (fun _ => 0) e n = 0
  | 0 => rfl
  | n + 1 => by rw [SE_s, SE_0 e n, Nat.zero_mul]
/-- what the class has after floors below f are spread -/
def spr (D : Nat → Nat) (t : Nat) (p : Int32) : Nat → (Nat → Nat)
  | 0 => fun _ => 0
  | f + 1 => upN (upN (spr D t p f) (stN f p) (D f * (t - 1))) (stN f (p - 8)) (D f)
theorem spr_s (D : Nat → Nat) (t : Nat) (p : Int32) (f : Nat) : spr D t p (f + 1) = upN (upN (spr D t p f) (stN f p) (D f * (t - 1))) (stN f (p - 8)) (D f) := rfl
theorem spr_SE (D : Nat → Nat) (t : Nat) (p : Int32) (e : Nat → Nat) : ∀ n, SE (spr D t p n) e 21 = SE D (fun f => (t - 1) * e (stN f p) + e (stN f (p - 8))) n
  | 0 => SE_0 e 21
  | n + 1 => by
    rw [spr_s, SE_up, SE_up, spr_SE D t p e n, if_pos (stN_e n p).2, if_pos (stN_e n (p - 8)).2, SE_s, Nat.mul_add, ← Nat.mul_assoc, Nat.add_assoc]
def odd (P : Nat → Int32) (t f0 : Nat) : Nat → (Nat → Nat)
  | 0 => fun f => if f = f0 then 1 else 0
  | i + 1 => spr (odd P t f0 i) t (P (i + 1)) 21
theorem odd_s (P : Nat → Int32) (t f0 i : Nat) : odd P t f0 (i + 1) = spr (odd P t f0 i) t (P (i + 1)) 21 := rfl
theorem odd_one (f0 : Nat) (e : Nat → Nat) : ∀ n, SE (fun f => if f = f0 then 1 else 0) e n = if f0 < n then e f0 else 0
  | 0 => by rw [if_neg (by omega)]; rfl
  | n + 1 => by
    rw [SE_s, odd_one f0 e n]
    by_cases h : n = f0
    · subst h; rw [if_neg (by omega), if_pos rfl, if_pos (by omega)]; omega
    · rw [if_neg h]
      by_cases h2 : f0 < n
      · rw [if_pos h2, if_pos (by omega)]; omega
      · rw [if_neg h2, if_neg (by omega)]; omega
theorem odd_ED (P : Nat → Int32) (t v f0 : Nat) (hf : f0 < 21) : ∀ (i m : Nat), SE (odd P t f0 i) (ED P t v m (i + 1)) 21 = ED P t v (i + m) 1 f0
  | 0, m => by
    show SE (fun f => if f = f0 then 1 else 0) _ 21 = _
    rw [odd_one, if_pos hf, Nat.zero_add, Nat.zero_add]
  | i + 1, m => by
    rw [odd_s, spr_SE]
    have := odd_ED P t v f0 hf i (m + 1)
    rw [show i + 1 + m = i + (m + 1) by omega, ← this]
    rfl
/-- from v on, k places -/
def hgh (X : Nat → Nat) (v : Nat) : Nat → Nat
  | 0 => 0
  | k + 1 => hgh X v k + X (v + k)
theorem hgh_lo (X : Nat → Nat) (v : Nat) : ∀ n, n ≤ v → SE X (fun f => if v ≤ f then 1 else 0) n = 0
  | 0, _ => rfl
  | n + 1, h => by rw [SE_s, hgh_lo X v n (by omega), if_neg (by omega), Nat.mul_zero]
theorem hgh_SE (X : Nat → Nat) (v : Nat) : ∀ k, SE X (fun f => if v ≤ f then 1 else 0) (v + k) = hgh X v k
  | 0 => hgh_lo X v v (Nat.le_refl _)
  | k + 1 => by
    rw [show v + (k + 1) = (v + k) + 1 by omega, SE_s, hgh_SE X v k, if_pos (by omega), Nat.mul_one]
    rfl
theorem hgh_ED (P : Nat → Int32) (t v f0 : Nat) (hf : f0 < 21) (hv : v ≤ 20) (n : Nat) : hgh (odd P t f0 n) v (21 - v) = ED P t v n 1 f0 := by
  rw [← hgh_SE, show v + (21 - v) = 21 by omega]
  exact odd_ED P t v f0 hf n 0
/-! all sets -/
def TD (P : Nat → Int32) (t v : Nat) : Nat → Nat → Nat → Nat → Nat
  | 0, _, f, _ => if v ≤ f then 1 else 0
  | m + 1, i, f, s => if s % 2 = 1 then TD P t v m (i + 1) (stN f (P i - 8)) (s / 2) else (t - 1) * TD P t v m (i + 1) (stN f (P i)) (s / 2)
theorem TD_s (P : Nat → Int32) (t v m i f s : Nat) : TD P t v (m + 1) i f s = if s % 2 = 1 then TD P t v m (i + 1) (stN f (P i - 8)) (s / 2) else (t - 1) * TD P t v m (i + 1) (stN f (P i)) (s / 2) := rfl
def sumN (g : Nat → Nat) : Nat → Nat
  | 0 => 0
  | n + 1 => sumN g n + g n
theorem sumN_s (g : Nat → Nat) (n : Nat) : sumN g (n + 1) = sumN g n + g n := rfl
theorem sumN_2 (g : Nat → Nat) : ∀ n, sumN g (2 * n) = sumN (fun s => g (2 * s)) n + sumN (fun s => g (2 * s + 1)) n
  | 0 => rfl
  | n + 1 => by
    rw [show 2 * (n + 1) = (2 * n + 1) + 1 by omega, sumN_s, sumN_s, sumN_2 g n, sumN_s, sumN_s]
    omega
theorem sumN_c {g g' : Nat → Nat} : ∀ n, (∀ j, g j = g' j) → sumN g n = sumN g' n
  | 0, _ => rfl
  | n + 1, h => by rw [sumN_s, sumN_s, sumN_c n h, h n]
theorem sumN_m (c : Nat) (g : Nat → Nat) : ∀ n, sumN (fun s => c * g s) n = c * sumN g n
  | 0 => rfl
  | n + 1 => by rw [sumN_s, sumN_s, sumN_m c g n, Nat.mul_add]
theorem TD_sum (P : Nat → Int32) (t v : Nat) : ∀ (m i f : Nat), sumN (TD P t v m i f) (2 ^ m) = ED P t v m i f
  | 0, i, f => by show 0 + (if v ≤ f then 1 else 0) = _; rw [Nat.zero_add]; rfl
  | m + 1, i, f => by
    rw [Nat.pow_succ, Nat.mul_comm, sumN_2, ED_s, ← TD_sum P t v m (i + 1) (stN f (P i)), ← TD_sum P t v m (i + 1) (stN f (P i - 8)), ← sumN_m]
    congr 1
    · refine sumN_c _ (fun j => ?_)
      rw [TD_s, if_neg (by omega), show 2 * j / 2 = j by omega]
    · refine sumN_c _ (fun j => ?_)
      rw [TD_s, if_pos (by omega), show (2 * j + 1) / 2 = j by omega]
