/-! draught: the reference -/
def rwK (r : Nat → Int32) (k f : Nat) : Nat → Int32 := fun i => if i = 1 then r 1 + nI k else if i = 2 then nI f else r i
theorem rwK_pl (r : Nat → Int32) (k f : Nat) (d : Int32) : pl (rwK r k f) d = pl r d := pl_c (r := r) (r' := rwK r k f) rfl (fun i hi => by unfold rwK; rw [if_neg (by omega), if_neg (by omega)]) d
theorem rwK_cn {r : Nat → Int32} (hc : Cn r) (k f : Nat) : Cn (rwK r k f) := hc
theorem day_k (r : Nat → Int32) (k : Nat) : r 1 + nI k + 1 = r 1 + nI (k + 1) := by rw [← nI_1]; grind
theorem rwK_day (r : Nat → Int32) (k f : Nat) (m p : Int32) (hp : pl r (r 1 + nI (k + 1)) + m = p) : ∀ i, dayR (rwK r k f) m i = rwK r (k + 1) (stN f p) i := by
  intro i
  unfold dayR
  by_cases c1 : i = 1
  · subst c1
    rw [if_pos rfl]
    show r 1 + nI k + 1 = r 1 + nI (k + 1)
    exact day_k r k
  · rw [if_neg c1]
    by_cases c2 : i = 2
    · subst c2
      rw [if_pos rfl, rwK_pl]
      show stp (nI f) (pl r (r 1 + nI k + 1) + m) = nI (stN f p)
      rw [day_k, hp, (stN_e f p).1]
    · rw [if_neg c2]
      unfold rwK
      rw [if_neg c1, if_neg c2, if_neg c1, if_neg c2]
theorem bit_s {s i : Nat} (hs : s < 2 ^ 31) (hi : i < 31) : bitAt (nI s) (nI i) = 1 ↔ s / 2 ^ i % 2 = 1 := by
  rw [bit_n hs hi]
  have h2 : s / 2 ^ i % 2 < 2 := Nat.mod_lt _ (by omega)
  exact nI_eq (b := 1) (by omega) (by omega)
theorem m_drI {N : Nat} (hN : 300 < N) {A : St} (hI : AI A) {m t v s : Nat} (hm : m ≤ 7) (ht : 2 ≤ t ∧ t ≤ 20) (hv : v ≤ 20) (hs : s < 128) (p4 : Int32) (kk : St → Int32 → Int32 → Int32 → Int32 → Int64 → Int64 → Int32 → Option (Int64 × St)) (x5 x7 : Int64) {S : Int64 × St} : ∀ (k n i : Nat) (z : St) (f W : Nat), i + k = m → k < n → MS z A → RR (sb [2] z) 0 (rwK (A 0) i f) → f < 21 →
    (∀ z', MS z' A → ML (kk z' (nI m) (nI t) (nI v) p4 (x5 + lN (W * TD (PA A) t v k (i + 1) f (s / 2 ^ i))) x7 (nI s + 1)) S) → ML (fX3_draught_L118 N kk n z (nI m) (nI t) (nI v) p4 x5 x7 (nI s) (lN W) (nI i)) S := by
  have et : (nI t - 1).toInt64 = lN (t - 1) := by
    rw [show nI t - 1 = nI (t - 1) from by obtain ⟨u, rfl⟩ : ∃ u, t = u + 1 := ⟨t - 1, by omega⟩; exact nI_pred u]
    exact nI_l (by omega)
  intro k
  induction k with
  | zero =>
    intro n i z f W hi hn h hr hf hk
    obtain ⟨n, rfl⟩ : ∃ m, n = m + 1 := ⟨n - 1, by omega⟩
    have hr2 : RR z 2 (rwK (A 0) i f) := hr
    have := hk z h
    rw [fX3_draught_L118, if_pos (nI_le (by omega) (by omega)), hr2.rd2, bo_s, show rwK (A 0) i f 2 = nI f from rfl]
    unfold fX3_draught_L194
    rw [lt_s_, lt_s_, lt_s_, lt_s_]
    unfold TD at this
    by_cases c : v ≤ f
    · rw [if_pos c, Nat.mul_one] at this
      rw [if_neg (nI_nlt (by omega) (by omega))]
      exact this
    · rw [if_neg c, Nat.mul_zero] at this
      rw [if_pos (nI_lt (by omega) (by omega))]
      exact this
  | succ k ih =>
    intro n i z f W hi hn h hr hf hk
    obtain ⟨n, rfl⟩ : ∃ m, n = m + 1 := ⟨n - 1, by omega⟩
    rw [fX3_draught_L118, if_neg (nI_ge (by omega) (by omega)), m_has, bo_s]
    unfold fX3_draught_L144
    rw [m_has, et]
    simp only [bo_s, lt_s_]
    unfold fX3_draught_L167
    have ed : s / 2 ^ i / 2 = s / 2 ^ (i + 1) := by rw [Nat.div_div_eq_div_mul, Nat.pow_succ]
    by_cases c : bitAt (nI s) (nI i) = 1
    · have c' := (bit_s (by omega) (by omega)).mp c
      rw [if_pos c, if_neg (by decide), if_neg (by decide)]
      obtain ⟨z2, e1, e2⟩ := m_day (by omega : 8 < N) hr (rwK_cn hI.cn i f) (-8)
      rw [e1, by_s, lt_s_, nI_1, show lN W * (1 : Int64) = lN (W * 1) from lN_mul W 1, Nat.mul_one]
      refine ih n (i + 1) _ (stN f (PA A (i + 1) - 8)) W (by omega) (by omega) (MS_pb2 h) (RR.c e2 (fun j _ => rwK_day (A 0) i f (-8) _ (by grind) j)) (stN_e f _).2 (fun z' h' => ?_)
      have := hk z' h'
      rw [TD_s, if_pos c', ed] at this
      exact this
    · have c' : ¬ s / 2 ^ i % 2 = 1 := fun q => c ((bit_s (by omega) (by omega)).mpr q)
      rw [if_neg c, if_pos rfl, if_pos rfl]
      obtain ⟨z2, e1, e2⟩ := m_day (by omega : 8 < N) hr (rwK_cn hI.cn i f) 0
      rw [e1, by_s, lt_s_, nI_1, lN_mul]
      refine ih n (i + 1) _ (stN f (PA A (i + 1))) (W * (t - 1)) (by omega) (by omega) (MS_pb2 h) (RR.c e2 (fun j _ => rwK_day (A 0) i f 0 _ (by grind) j)) (stN_e f _).2 (fun z' h' => ?_)
      have := hk z' h'
      rw [TD_s, if_neg c', ed, ← Nat.mul_assoc] at this
      exact this
theorem m_drS {N : Nat} (hN : 300 < N) {A : St} (hI : AI A) {m t v f0 : Nat} (hm : m ≤ 7) (ht : 2 ≤ t ∧ t ≤ 20) (hv : v ≤ 20) (hf : f0 < 21) (ef : A 0 2 = nI f0) (p4 : Int32) : ∀ (k n s : Nat) (z : St), s + k = 2 ^ m → k < n → MS z A → ML (fX3_draught_L93 N n z (nI m) (nI t) (nI v) p4 (lN (sumN (TD (PA A) t v m 1 f0) s)) (lN (t ^ m)) (nI s)) (PV (ED (PA A) t v m 1 f0) (t ^ m) p4, A) := by
  have hp : 2 ^ m ≤ 128 := Nat.pow_le_pow_right (n := 2) (j := 7) (by omega) hm
  have hb := pow_b ht.2 hm
  have he := ED_le (PA A) (t := t) (by omega) v m 1 f0
  intro k
  induction k with
  | zero =>
    intro n s z hi hn h
    obtain ⟨n, rfl⟩ : ∃ m, n = m + 1 := ⟨n - 1, by omega⟩
    have es : s = 2 ^ m := by omega
    subst es
    rw [fX3_draught_L93, shl1 m (by omega), if_pos (nI_le (by omega) (by omega)), TD_sum, m_part hN (by omega) hb, bo_s]
    exact ⟨z, rfl, h⟩
  | succ k ih =>
    intro n s z hi hn h
    obtain ⟨n, rfl⟩ : ∃ m, n = m + 1 := ⟨n - 1, by omega⟩
    obtain ⟨z2, e1, e2, e3⟩ := m_cop hN h
    rw [fX3_draught_L93, shl1 m (by omega), if_neg (nI_ge (by omega) (by omega)), e1, by_s]
    refine m_drI hN hI hm ht hv (by omega) p4 _ _ _ m N 0 _ f0 1 (by omega) (by omega) e2 (RR.c e3 (fun j _ => ?_)) hf (fun z' h' => ?_)
    · unfold rwK
      by_cases c1 : j = 1
      · rw [if_pos c1, c1]; show A 0 1 = A 0 1 + 0; grind
      · rw [if_neg c1]
        by_cases c2 : j = 2
        · rw [if_pos c2, c2, ef]
        · rw [if_neg c2]
    · rw [nI_1, lN_add, Nat.one_mul, Nat.pow_zero, Nat.div_one]
      exact ih n (s + 1) z' (by omega) (by omega) h'
theorem m_drB {N : Nat} (hN : 300 < N) {A : St} (hI : AI A) {m t v f0 : Nat} (hm : m ≤ 7) (ht : 2 ≤ t ∧ t ≤ 20) (hv : v ≤ 20) (hf : f0 < 21) (ef : A 0 2 = nI f0) (p4 : Int32) : ∀ (k n i : Nat) (z : St), i + k = m → k < n → MS z A → ML (fX3_draught_L71 N n z (nI m) (nI t) (nI v) p4 0 (lN (t ^ i)) (nI i)) (PV (ED (PA A) t v m 1 f0) (t ^ m) p4, A) := by
  have hp : 2 ^ m ≤ 128 := Nat.pow_le_pow_right (n := 2) (j := 7) (by omega) hm
  intro k
  induction k with
  | zero =>
    intro n i z hi hn h
    obtain ⟨n, rfl⟩ : ∃ m, n = m + 1 := ⟨n - 1, by omega⟩
    have es : i = m := by omega
    subst es
    rw [fX3_draught_L71, if_pos (nI_le (by omega) (by omega))]
    exact m_drS hN hI hm ht hv hf ef p4 (2 ^ i) N 0 z (by omega) (by omega) h
  | succ k ih =>
    intro n i z hi hn h
    obtain ⟨n, rfl⟩ : ∃ m, n = m + 1 := ⟨n - 1, by omega⟩
    rw [fX3_draught_L71, if_neg (nI_ge (by omega) (by omega)), lt_s_, lt_s_, nI_1, nI_l (by omega), lN_mul]
    exact ih n (i + 1) z (by omega) (by omega) h
theorem m_draught {N : Nat} (hN : 300 < N) {ρ A : St} (h : MS ρ A) (hI : AI A) (p1 p2 p3 p4 : Int32) : ML (fX3_draught N ρ p1 p2 p3 p4) (S_draught A p1 p2 p3 p4) := by
  have bw : ∀ {k : Nat} {w : Int32}, k < 7 → -w = nI k → ML (bx (fX3_noWide N ρ w) (fun uq => uq) (fun v z => some (v, z))) (wid w, rf A k) := fun hk hw => by
    obtain ⟨z, e1, e2⟩ := m_wide N h hk hw
    rw [e1, bx_s]
    exact ⟨z, rfl, e2⟩
  have b4 : ML (fX3_draught_L13 N ρ) (wid (-4), rf A 4) := bw (by omega) (by decide)
  have b6 : ML (fX3_draught_L38 N ρ) (wid (-6), rf A 6) := bw (by omega) (by decide)
  unfold fX3_draught S_draught
  refine ML_i (fun _ => b4) (fun c1 => ML_i (fun _ => b4) (fun c3 => ML_i (fun c2 => ML_i (fun _ => b6) (fun c4 => ML_i (fun _ => b6) (fun c5 => ML_i (fun c6 => ?_) (fun _ => b6)))) (fun _ => b4)))
  obtain ⟨m, _, hm, rfl⟩ := btw (a := 0) (b := 7) (by omega) c1 c4 (by omega)
  obtain ⟨v, _, hv, rfl⟩ := btw (a := 0) (b := 20) (by omega) c3 (by show ¬ (20 : Int32) < _; grind) (by omega)
  obtain ⟨t, ht1, ht2, rfl⟩ := btw (a := 2) (b := 20) (by omega) (show ¬ p2 < 2 by grind) c5 (by omega)
  obtain ⟨f0, hf, ef⟩ := floor_of hI.1.2.2.1
  rw [j_in, bo_s]
  by_cases c : 0 ≤ p4 ∧ p4 ≤ 1
  · rw [if_pos c, if_neg (by decide), if_pos c]
    unfold drV
    rw [nI_clamp (by omega), nI_clamp (by omega), nI_clamp (by omega), ef, nI_clamp (by omega)]
    exact m_drB hN hI hm ⟨ht1, ht2⟩ hv (by omega) ef p4 m N 0 ρ (by omega) (by omega) h
  · rw [if_neg c, if_pos rfl, if_neg c]
    exact bw (by omega) (by decide)
