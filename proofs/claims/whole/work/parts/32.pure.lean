/-! draught: the loops -/
theorem upL_a (τ : LSt) (c i d j : Nat) (v : Int64) : up2L τ c i v d j = if d = c ∧ j = i then v else τ d j := by
  unfold up2L vp_updL
  by_cases h : d = c
  · subst h
    simp only [Nat.beq_refl, cond_true, true_and]
  · have : Nat.beq d c = false := by
      cases q : Nat.beq d c with
      | false => rfl
      | true => exact absurd (Nat.eq_of_beq_eq_true q) h
    simp only [this, cond_false, h, false_and, if_false]
def LH (z : LSt) (c : Nat) (X : Nat → Nat) : Prop := ∀ f, f < 21 → z c f = lN (X f)
theorem LH_up {z : LSt} {c : Nat} {X : Nat → Nat} (h : LH z c X) {g : Nat} (k : Nat) {v : Int64} (hv : v = lN (X g + k)) : LH (up2L z c g v) c (upN X g k) := by
  intro f hf
  rw [upL_a]
  unfold upN
  by_cases q : f = g
  · rw [if_pos ⟨rfl, q⟩, if_pos q, hv]
  · rw [if_neg (fun w => q w.2), if_neg q]; exact h f hf
theorem LH_o {z : LSt} {c d g : Nat} {X : Nat → Nat} (h : LH z c X) (hd : c ≠ d) (v : Int64) : LH (up2L z d g v) c X := by
  intro f hf
  rw [upL_a, if_neg (fun w => hd w.1)]
  exact h f hf
theorem c_sp2 {N : Nat} {σ : St} : ∀ (k n i : Nat) (z : LSt) (X : Nat → Nat), i + k = 21 → k < n → LH z 1 X → (∀ f, f < i → z 0 f = lN (X f)) → ∃ z', fX2_spreadOdds_L81 N σ n z (nI i) = some z' ∧ LH z' 0 X := by
  intro k
  induction k with
  | zero =>
    intro n i z X hi hn h h0
    obtain ⟨n, rfl⟩ : ∃ m, n = m + 1 := ⟨n - 1, by omega⟩
    rw [fX2_spreadOdds_L81, if_pos (show (21 : Int32) ≤ nI i from nI_le (a := 21) (by omega) (by omega))]
    exact ⟨z, rfl, fun f hf => h0 f (by omega)⟩
  | succ k ih =>
    intro n i z X hi hn h h0
    obtain ⟨n, rfl⟩ : ∃ m, n = m + 1 := ⟨n - 1, by omega⟩
    have hq : ¬ (21 : Int32) ≤ nI i := nI_ge (b := 21) (by omega) (by omega)
    rw [fX2_spreadOdds_L81, if_neg hq, if_neg hq, rdL_n (by omega) (by omega), bo_s, wrL_n (by omega) (by omega), bo_s, lt_s_, nI_1]
    refine ih n (i + 1) _ X (by omega) (by omega) (LH_o h (by omega) _) (fun f hf => ?_)
    rw [upL_a]
    by_cases q : f = i
    · rw [if_pos ⟨rfl, q⟩, q]; exact h i (by omega)
    · rw [if_neg (fun w => q w.2)]; exact h0 f (by omega)
theorem c_addOdds {N : Nat} {σ : St} {z : LSt} {g : Nat} (hg : g < 21) (v : Int64) : fX2_addOdds N σ z (nI g) v = some (up2L z 1 g (z 1 g + v)) := by
  unfold fX2_addOdds
  rw [if_neg (show ¬ nI g < (0 : Int32) from nI_nlt (b := 0) (by omega) (by omega)), if_neg (show ¬ (21 : Int32) ≤ nI g from nI_ge (b := 21) (by omega) (by omega)), rdL_n hg (by omega), bo_s, lt_s_, wrL_n hg (by omega), bo_s]
theorem c_sp1 {N : Nat} (hN : 300 < N) {σ : St} {t : Nat} (ht : 2 ≤ t ∧ t ≤ 20) (p : Int32) {D : Nat → Nat} : ∀ (k n i : Nat) (z : LSt), i + k = 21 → k < n → LH z 0 D → LH z 1 (spr D t p i) → ∃ z', fX2_spreadOdds_L26 N σ n z p (nI t) (nI i) = some z' ∧ LH z' 0 (spr D t p 21) := by
  have et : (nI t - 1).toInt64 = lN (t - 1) := by
    rw [show nI t - 1 = nI (t - 1) from by obtain ⟨u, rfl⟩ : ∃ u, t = u + 1 := ⟨t - 1, by omega⟩; exact nI_pred u]
    exact nI_l (by omega)
  intro k
  induction k with
  | zero =>
    intro n i z hi hn h0 h1
    obtain ⟨n, rfl⟩ : ∃ m, n = m + 1 := ⟨n - 1, by omega⟩
    rw [fX2_spreadOdds_L26, if_pos (show (21 : Int32) ≤ nI i from nI_le (a := 21) (by omega) (by omega))]
    have e : i = 21 := by omega
    subst e
    exact c_sp2 21 N 0 z _ (by omega) (by omega) h1 (fun f hf => by omega)
  | succ k ih =>
    intro n i z hi hn h0 h1
    obtain ⟨n, rfl⟩ : ∃ m, n = m + 1 := ⟨n - 1, by omega⟩
    obtain ⟨a1, a2⟩ := stN_e i p
    obtain ⟨b1, b2⟩ := stN_e i (p - 8)
    rw [fX2_spreadOdds_L26, if_neg (show ¬ (21 : Int32) ≤ nI i from nI_ge (b := 21) (by omega) (by omega)), x0_moved, bo_s, a1, rdL_n (by omega) (by omega), bo_s, c_addOdds a2, by_s, x0_moved, bo_s, b1, rdL_n (by omega) (by omega), bo_s, c_addOdds b2, by_s, lt_s_, nI_1, et]
    have g1 : LH (up2L z 1 (stN i p) (z 1 (stN i p) + z 0 i * lN (t - 1))) 1 (upN (spr D t p i) (stN i p) (D i * (t - 1))) := LH_up h1 _ (by rw [h1 _ a2, h0 _ (by omega), lN_mul, lN_add])
    have g0 : LH (up2L z 1 (stN i p) (z 1 (stN i p) + z 0 i * lN (t - 1))) 0 D := LH_o h0 (by omega) _
    refine ih n (i + 1) _ (by omega) (by omega) (LH_o g0 (by omega) _) ?_
    rw [spr_s]
    exact LH_up g1 _ (by rw [g1 _ b2, g0 _ (by omega), lN_add])
theorem c_sp0 {N : Nat} (hN : 300 < N) {σ : St} {t : Nat} (ht : 2 ≤ t ∧ t ≤ 20) (p : Int32) {D : Nat → Nat} : ∀ (k n i : Nat) (z : LSt), i + k = 21 → k < n → LH z 0 D → (∀ f, f < i → z 1 f = lN 0) → ∃ z', fX2_spreadOdds_L2 N σ n z p (nI t) (nI i) = some z' ∧ LH z' 0 (spr D t p 21) := by
  intro k
  induction k with
  | zero =>
    intro n i z hi hn h0 h1
    obtain ⟨n, rfl⟩ : ∃ m, n = m + 1 := ⟨n - 1, by omega⟩
    rw [fX2_spreadOdds_L2, if_pos (show (21 : Int32) ≤ nI i from nI_le (a := 21) (by omega) (by omega))]
    exact c_sp1 hN ht p 21 N 0 z (by omega) (by omega) h0 (fun f hf => h1 f (by omega))
  | succ k ih =>
    intro n i z hi hn h0 h1
    obtain ⟨n, rfl⟩ : ∃ m, n = m + 1 := ⟨n - 1, by omega⟩
    rw [fX2_spreadOdds_L2, if_neg (show ¬ (21 : Int32) ≤ nI i from nI_ge (b := 21) (by omega) (by omega)), wrL_n (by omega) (by omega), bo_s, lt_s_, nI_1]
    refine ih n (i + 1) _ (by omega) (by omega) (LH_o h0 (by omega) _) (fun f hf => ?_)
    rw [upL_a]
    by_cases q : f = i
    · rw [if_pos ⟨rfl, q⟩]; rfl
    · rw [if_neg (fun w => q w.2)]; exact h1 f (by omega)
abbrev PA (A : St) : Nat → Int32 := fun i => pl (A 0) (A 0 1 + nI i)
theorem c_ro1 {N : Nat} (hN : 300 < N) {σ A : St} (h : CS σ A) (hI : AI A) {t : Nat} (ht : 2 ≤ t ∧ t ≤ 20) {m : Nat} (hm : m ≤ 7) (f0 : Nat) : ∀ (k n i : Nat) (z : LSt), i + k = m → k < n → LH z 0 (odd (PA A) t f0 i) → ∃ z', fX2_reckonOdds_L44 N σ n z (nI m) (nI t) (lN (t ^ i)) (nI (i + 1)) = some (lN (t ^ m), z') ∧ LH z' 0 (odd (PA A) t f0 m) := by
  intro k
  induction k with
  | zero =>
    intro n i z hi hn h0
    obtain ⟨n, rfl⟩ : ∃ m, n = m + 1 := ⟨n - 1, by omega⟩
    rw [fX2_reckonOdds_L44, if_pos (nI_lt (by omega) (by omega))]
    have e : i = m := by omega
    subst e
    exact ⟨z, rfl, h0⟩
  | succ k ih =>
    intro n i z hi hn h0
    obtain ⟨n, rfl⟩ : ∃ m, n = m + 1 := ⟨n - 1, by omega⟩
    have es : ∃ z', fX2_spreadOdds N σ z (pl (A 0) (A 0 1 + nI (i + 1))) (nI t) = some z' ∧ LH z' 0 (spr (odd (PA A) t f0 i) t (pl (A 0) (A 0 1 + nI (i + 1))) 21) := c_sp0 hN ht _ 21 N 0 z (by omega) (by omega) h0 (fun f hf => by omega)
    obtain ⟨z', e1, e2⟩ := es
    rw [fX2_reckonOdds_L44, if_neg (nI_nlt (by omega) (by omega)), x0_pull (by omega : 8 < N) h.1 hI.1 (day_le hI.1 (k := i + 1) (by omega)), bo_s, e1, by_s, lt_s_, lt_s_, nI_1, nI_l (by omega), lN_mul]
    exact ih n (i + 1) z' (by omega) (by omega) e2
theorem c_ro0 {N : Nat} (hN : 300 < N) {σ A : St} (h : CS σ A) (hI : AI A) {t : Nat} (ht : 2 ≤ t ∧ t ≤ 20) {m : Nat} (hm : m ≤ 7) {f0 : Nat} (hf : f0 < 21) (ef : A 0 2 = nI f0) : ∀ (k n i : Nat) (z : LSt), i + k = 21 → k < n → (∀ f, f < i → z 0 f = lN (if f = f0 then 1 else 0)) → ∃ z', fX2_reckonOdds_L2 N σ n z (nI m) (nI t) (nI i) = some (lN (t ^ m), z') ∧ LH z' 0 (odd (PA A) t f0 m) := by
  intro k
  induction k with
  | zero =>
    intro n i z hi hn h0
    obtain ⟨n, rfl⟩ : ∃ m, n = m + 1 := ⟨n - 1, by omega⟩
    rw [fX2_reckonOdds_L2, if_pos (show (21 : Int32) ≤ nI i from nI_le (a := 21) (by omega) (by omega))]
    exact c_ro1 hN h hI ht hm f0 m N 0 z (by omega) (by omega) (fun f hf => h0 f (by omega))
  | succ k ih =>
    intro n i z hi hn h0
    obtain ⟨n, rfl⟩ : ∃ m, n = m + 1 := ⟨n - 1, by omega⟩
    rw [fX2_reckonOdds_L2, if_neg (show ¬ (21 : Int32) ≤ nI i from nI_ge (b := 21) (by omega) (by omega)), show σ 1 0 = nI f0 from h.1.1.trans ef]
    unfold fX2_reckonOdds_L32
    rw [wrL_n (by omega) (by omega), wrL_n (by omega) (by omega), bo_s, bo_s, lt_s_, nI_1]
    have step : ∀ v : Int64, v = lN (if i = f0 then 1 else 0) → ∃ z', fX2_reckonOdds_L2 N σ n (up2L z 0 i v) (nI m) (nI t) (nI (i + 1)) = some (lN (t ^ m), z') ∧ LH z' 0 (odd (PA A) t f0 m) := fun v hv => by
      refine ih n (i + 1) _ (by omega) (by omega) (fun f hf => ?_)
      rw [upL_a]
      by_cases q : f = i
      · rw [if_pos ⟨rfl, q⟩, q, hv]
      · rw [if_neg (fun w => q w.2)]; exact h0 f (by omega)
    by_cases c : i = f0
    · rw [if_pos (by rw [c])]; exact step 1 (by rw [if_pos c]; rfl)
    · rw [if_neg (fun q => c ((nI_eq (by omega) (by omega)).mp q))]; exact step 0 (by rw [if_neg c]; rfl)
theorem c_hiL {N : Nat} (hN : 300 < N) {X : Nat → Nat} {v : Nat} (hv : v ≤ 20) {z : St × LSt} (hz : LH z.2 0 X) (w : Int32) (all : Nat) {S : Int64 × (St × LSt)} (hS : fX2_partOf N (lN (hgh X v (21 - v))) (lN all) w = some S.1) (hS2 : S.2 = z) : ∀ (k n i : Nat), v + i + k = 21 → k < n → fX2_draught_L92 N n z w (lN all) (lN (hgh X v i)) (nI (v + i)) = some S := by
  intro k
  induction k with
  | zero =>
    intro n i hi hn
    obtain ⟨n, rfl⟩ : ∃ m, n = m + 1 := ⟨n - 1, by omega⟩
    rw [fX2_draught_L92, if_pos (show (21 : Int32) ≤ nI (v + i) from nI_le (a := 21) (by omega) (by omega)), show i = 21 - v by omega, hS, bo_s, ← hS2]
  | succ k ih =>
    intro n i hi hn
    obtain ⟨n, rfl⟩ : ∃ m, n = m + 1 := ⟨n - 1, by omega⟩
    rw [fX2_draught_L92, if_neg (show ¬ (21 : Int32) ≤ nI (v + i) from nI_ge (b := 21) (by omega) (by omega)), rdL_n (by omega) (by omega), bo_s, lt_s_, lt_s_, nI_1, hz _ (by omega), lN_add]
    exact ih n (i + 1) (by omega) (by omega)
def wid (k : Int32) : Int64 := (4000000000000000000 : Int64) - k.toInt64
def drV (A : St) (p1 p2 p3 p4 : Int32) : Int64 := PV (ED (PA A) p2.toNatClampNeg p3.toNatClampNeg p1.toNatClampNeg 1 (A 0 2).toNatClampNeg) (p2.toNatClampNeg ^ p1.toNatClampNeg) p4
def S_draught (A : St) (p1 p2 p3 p4 : Int32) : Int64 × St := if p1 < 0 then (wid (-4), rf A 4) else if p3 < 0 then (wid (-4), rf A 4) else if 2 ≤ p2 then (if 7 < p1 then (wid (-6), rf A 6) else if 20 < p2 then (wid (-6), rf A 6) else if p3 ≤ 20 then (if 0 ≤ p4 ∧ p4 ≤ 1 then (drV A p1 p2 p3 p4, A) else (wid (-2), rf A 2)) else (wid (-6), rf A 6)) else (wid (-4), rf A 4)
theorem pow_b {t m : Nat} (ht : t ≤ 20) (hm : m ≤ 7) : t ^ m < 2 ^ 31 := by
  have h1 : t ^ m ≤ 20 ^ m := Nat.pow_le_pow_left ht m
  have h2 : 20 ^ m ≤ 20 ^ 7 := Nat.pow_le_pow_right (n := 20) (by omega) hm
  have h3 : 20 ^ 7 < 2 ^ 31 := by decide
  omega
def DL (o : Option (Int64 × (St × LSt))) (s : Int64 × St) : Prop := ∃ z, o = some (s.1, z) ∧ CS z.1 s.2
theorem c_draught78 {N : Nat} (hN : 300 < N) {z : St × LSt} {A : St} (h : CS z.1 A) (hI : AI A) {m t v : Nat} (hm : m ≤ 7) (ht : 2 ≤ t ∧ t ≤ 20) (hv : v ≤ 20) (p4 : Int32) : DL (fX2_draught_L78 N z (nI m) (nI t) (nI v) p4) (drV A (nI m) (nI t) (nI v) p4, A) := by
  obtain ⟨f0, hf, ef⟩ := floor_of hI.1.2.2.1
  unfold fX2_draught_L78 drV
  have er : ∃ z', fX2_reckonOdds N z.1 z.2 (nI m) (nI t) = some (lN (t ^ m), z') ∧ LH z' 0 (odd (PA A) t f0 m) := c_ro0 hN h hI ht hm (by omega) ef 21 N 0 z.2 (by omega) (by omega) (fun f hf => by omega)
  obtain ⟨z', e1, e2⟩ := er
  have hb := pow_b ht.2 hm
  have he := ED_le (PA A) (t := t) (by omega) v m 1 f0
  rw [e1, bx_s, nI_clamp (by omega), nI_clamp (by omega), nI_clamp (by omega), ef, nI_clamp (by omega)]
  refine ⟨(z.1, z'), c_hiL hN hv (z := (z.1, z')) e2 p4 (t ^ m) (S := (PV (ED (PA A) t v m 1 f0) (t ^ m) p4, (z.1, z'))) ?_ rfl (21 - v) N 0 (by omega) (by omega), h⟩
  rw [hgh_ED (PA A) t v f0 (by omega) hv m]
  exact c_part hN (by omega) hb p4
theorem c_wide (N : Nat) {z : St × LSt} {A : St} (h : CS z.1 A) {k : Nat} (h1 : 1 ≤ k) (hk : k < 7) {w : Int32} (hw : -w = nI k) : DL (bx (fX2_refuse N z.1 w) (fun uq => (uq, z.2)) (fun v2 z1 => some ((4000000000000000000 : Int64) - v2.toInt64, z1))) (wid w, rf A k) := by
  obtain ⟨z', e1, e2⟩ := c_refuse N h h1 hk hw
  rw [e1, bx_s]
  exact ⟨(z', z.2), rfl, e2⟩
theorem DL_i {c : Prop} {hc : Decidable c} {o1 o2 : Option (Int64 × (St × LSt))} {s1 s2 : Int64 × St} (h1 : c → DL o1 s1) (h2 : ¬ c → DL o2 s2) : DL (if c then o1 else o2) (if c then s1 else s2) := by
  by_cases q : c
  · rw [if_pos q, if_pos q]; exact h1 q
  · rw [if_neg q, if_neg q]; exact h2 q
theorem ML_i {c : Prop} {hc : Decidable c} {o1 o2 : Option (Int64 × St)} {s1 s2 : Int64 × St} (h1 : c → ML o1 s1) (h2 : ¬ c → ML o2 s2) : ML (if c then o1 else o2) (if c then s1 else s2) := by
  by_cases q : c
  · rw [if_pos q, if_pos q]; exact h1 q
  · rw [if_neg q, if_neg q]; exact h2 q
theorem btw {p : Int32} {a b : Nat} (hb : b < 2 ^ 31) (h0 : ¬ p < nI a) (h1 : ¬ nI b < p) (ha : a ≤ b) : ∃ k, a ≤ k ∧ k ≤ b ∧ p = nI k := by
  have hp := nI_pos' (n := a) (by omega)
  obtain ⟨j, hj, rfl⟩ := nI_of (x := p) (by grind)
  refine ⟨j, ?_, ?_, rfl⟩
  · exact Nat.le_of_not_lt (fun q => h0 ((nI_ltI hj (by omega)).mpr q))
  · exact Nat.le_of_not_lt (fun q => h1 ((nI_ltI (by omega) hj).mpr q))
theorem c_draught {N : Nat} (hN : 300 < N) {z : St × LSt} {A : St} (h : CS z.1 A) (hI : AI A) (p1 p2 p3 p4 : Int32) : DL (fX2_draught N z p1 p2 p3 p4) (S_draught A p1 p2 p3 p4) := by
  have b4 : DL (fX2_draught_L13 N z) (wid (-4), rf A 4) := c_wide N h (by omega) (by omega) (by decide)
  have b6 : DL (fX2_draught_L43 N z) (wid (-6), rf A 6) := c_wide N h (by omega) (by omega) (by decide)
  unfold fX2_draught S_draught
  refine DL_i (fun _ => b4) (fun c1 => DL_i (fun _ => b4) (fun c3 => DL_i (fun c2 => DL_i (fun _ => b6) (fun c4 => DL_i (fun _ => b6) (fun c5 => DL_i (fun c6 => ?_) (fun _ => b6)))) (fun _ => b4)))
  obtain ⟨m, _, hm, rfl⟩ := btw (a := 0) (b := 7) (by omega) c1 c4 (by omega)
  obtain ⟨v, _, hv, rfl⟩ := btw (a := 0) (b := 20) (by omega) c3 (by show ¬ (20 : Int32) < _; grind) (by omega)
  obtain ⟨t, ht1, ht2, rfl⟩ := btw (a := 2) (b := 20) (by omega) (show ¬ p2 < 2 by grind) c5 (by omega)
  have key := c_draught78 hN h hI hm ⟨ht1, ht2⟩ hv p4
  by_cases c : p4 = 0
  · rw [if_pos c, if_pos (by subst c; decide)]; exact key
  · rw [if_neg c]
    by_cases c1 : p4 = 1
    · rw [if_pos c1, if_pos (by subst c1; decide)]; exact key
    · rw [if_neg c1, if_neg (by grind)]
      exact c_wide N h (by omega) (by omega) (by decide)
