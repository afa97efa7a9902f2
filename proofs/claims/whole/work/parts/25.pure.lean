/-! lots -/
def bc (p1 : Int32) : Int32 :=
  (fun v1 : Int32 => (fun v2 : Int32 => (fun v3 : Int32 => (fun v4 : Int32 => (fun v5 : Int32 => v5 &&& 63) (v4 + (v4.toUInt32 >>> ((16 : Int32).toUInt32 &&& Int32.toUInt32 31)).toInt32)) (v3 + (v3.toUInt32 >>> ((8 : Int32).toUInt32 &&& Int32.toUInt32 31)).toInt32)) ((v2 + (v2.toUInt32 >>> ((4 : Int32).toUInt32 &&& Int32.toUInt32 31)).toInt32) &&& 252645135)) ((v1 &&& 858993459) + ((v1.toUInt32 >>> ((2 : Int32).toUInt32 &&& Int32.toUInt32 31)).toInt32 &&& 858993459))) (p1 - ((p1.toUInt32 >>> ((1 : Int32).toUInt32 &&& Int32.toUInt32 31)).toInt32 &&& 1431655765))
theorem bitc (N : Nat) (x : Int32) : fJ6_bitCount_0f7a4 N x = some (bc x) := rfl
def o2 (w f : Int32) : Int32 := (if bitAt w f = 1 then 1 else 0) + (if bitAt w (20 - f) = 1 then 1 else 0)
theorem bc_0 : bc (0 + 0) = 0 + 0 := by decide +kernel
theorem bc_1 : bc (1 + 0) = 1 + 0 := by decide +kernel
theorem bc_2 : bc (0 + 2) = 0 + 1 := by decide +kernel
theorem bc_3 : bc (1 + 2) = 1 + 1 := by decide +kernel
theorem bc_opn (w f : Int32) : bc (opn w f) = o2 w f := by
  unfold opn o2
  by_cases c : bitAt w f = 1
  · by_cases c2 : bitAt w (20 - f) = 1
    · simp only [if_pos c, if_pos c2]; exact bc_3
    · simp only [if_pos c, if_neg c2]; exact bc_1
  · by_cases c2 : bitAt w (20 - f) = 1
    · simp only [if_neg c, if_pos c2]; exact bc_2
    · simp only [if_neg c, if_neg c2]; exact bc_0
def nxt (z : Int32) : Int32 := z * 1664525 + 1013904223
def drw (z : Int32) : Int32 := (z &&& 2147483647) / 256 - (z &&& 2147483647) / 256 / 3 * 3
theorem drw_b (z : Int32) : 0 ≤ drw z ∧ drw z ≤ 2 := by
  obtain ⟨j, hj, e⟩ := pk_andE z (m := 2147483647) 31 (by decide)
  unfold drw
  rw [e, show (256 : Int32) = nI 256 from rfl, pk_div hj (by omega) (by omega), show (3 : Int32) = nI 3 from rfl, pk_rem (by omega) (by omega) (by omega)]
  exact ⟨nI_pos' (by omega), nI_le (b := 2) (by omega) (by omega)⟩
theorem c_next (N : Nat) (z : Int32) : fX2_nextSeed N z = some (nxt z) := by unfold fX2_nextSeed nxt; rfl
theorem c_draw (N : Nat) (z : Int32) : fX2_drawPlace N z = some (drw z) := by unfold fX2_drawPlace drw; rfl
def ssG (nx dw : Int32 → Int32) : Nat → Nat → (Nat → Int32) → Int32 → (Nat → Int32) × Int32
  | 0, _, r, z => (r, z)
  | k + 1, t, r, z => ssG nx dw k (t + 1) (hangR r t (dw (nx z))) (nx z)
theorem ssG_s (nx dw : Int32 → Int32) (k t : Nat) (r : Nat → Int32) (z : Int32) : ssG nx dw (k + 1) t r z = ssG nx dw k (t + 1) (hangR r t (dw (nx z))) (nx z) := rfl
def ssn (k t : Nat) (r : Nat → Int32) (z : Int32) : (Nat → Int32) × Int32 := ssG nxt drw k t r z
theorem ssn_s (k t : Nat) (r : Nat → Int32) (z : Int32) : ssn (k + 1) t r z = ssn k (t + 1) (hangR r t (drw (nxt z))) (nxt z) := ssG_s nxt drw k t r z
theorem ssn_0 (t : Nat) (r : Nat → Int32) (z : Int32) : ssn 0 t r z = (r, z) := rfl
def inc (w : Int32) (r : Nat → Int32) (d : Int32) : Int32 := if w = 0 then (if fla r 12 = 10 then 1 else 0) else o2 d (fla r 12)
def ltS (r : Nat → Int32) (w : Int32) : Nat → Int32 → Int32 → Int32
  | 0, _, acc => acc
  | k + 1, z, acc => ltS r w k (ssn (cnt r) 0 r z).2 (acc + inc w (ssn (cnt r) 0 r z).1 (r 3))
theorem hangR_3 (r : Nat → Int32) (t : Nat) (w : Int32) : hangR r t w 3 = r 3 := by unfold hangR; rw [if_neg (by omega), if_neg (by omega)]
theorem ssn_3 : ∀ (k t : Nat) (r : Nat → Int32) (z : Int32), (ssn k t r z).1 3 = r 3
  | 0, _, _, _ => rfl
  | k + 1, t, r, z => by rw [ssn_s, ssn_3 k, hangR_3]
theorem c_lotI {N : Nat} (hN : 300 < N) {A : St} (hI : AI A) (kk : St → Int32 → Int32 → Int32 → Int32 → Int32 → Int32 → Option (Int32 × St)) (x1 x3 x5 x6 x8 : Int32) {S : Int32 × St} : ∀ (k n i : Nat) (z : St) (r : Nat → Int32) (sd : Int32), i + k = cnt (A 0) → k < n → CS z A → HR (sb [7, 8, 9, 10, 11, 12] z) r → Inv 999 r → cnt r = cnt (A 0) →
    (∀ z', CS z' A → CO (kk z' x1 x3 (x5 + (if fla (ssn k i r sd).1 12 = 10 then 1 else 0)) (x6 + o2 ((ssn k i r sd).1 3) (fla (ssn k i r sd).1 12)) (ssn k i r sd).2 (x8 + 1)) S) → CO (fX2_lots_L69 N kk n z x1 x3 x5 x6 sd x8 (nI i)) S := by
  intro k
  induction k with
  | zero =>
    intro n i z r sd hi hn h hr hIr hc hk
    obtain ⟨n, rfl⟩ : ∃ m, n = m + 1 := ⟨n - 1, by omega⟩
    have e0 : z 7 3 = nI (cnt (A 0)) := by
      have e : z 7 3 = r 0 := hr.2.2.2.1
      rw [e, hIr.n.2, hc]
    have e12 : fX0_floorAfter N (sb [7, 8, 9, 10, 11, 12] z) 12 = some (fla r 12) := x0_floor (by omega : 100 < N) hr hIr (by omega) (m := 12) (by omega)
    have h8 := hI.1.n.1
    rw [fX2_lots_L69, e0, if_pos (nI_le (by omega) (by omega)), e12, bo_s]
    have this : CO (kk z x1 x3 (x5 + (if fla r 12 = 10 then 1 else 0)) (x6 + o2 (r 3) (fla r 12)) sd (x8 + 1)) S := hk z h
    unfold fX2_lots_L134
    simp only [lt_s_, x0_open hN hr (fla_b hIr 12), bo_s, bitc, bc_opn]
    by_cases c : fla r 12 = 10
    · rw [if_pos c]; rw [if_pos c] at this; exact this
    · rw [if_neg c]; rw [if_neg c] at this; exact this
  | succ k ih =>
    intro n i z r sd hi hn h hr hIr hc hk
    obtain ⟨n, rfl⟩ : ∃ m, n = m + 1 := ⟨n - 1, by omega⟩
    have h8 := hI.1.n.1
    have e0 : z 7 3 = nI (cnt (A 0)) := by
      have e : z 7 3 = r 0 := hr.2.2.2.1
      rw [e, hIr.n.2, hc]
    obtain ⟨z', e1, e2⟩ := x0_put N hr hIr (t := i) (by rw [hc]; omega) (drw_b (nxt sd)).1 (drw_b (nxt sd)).2
    rw [fX2_lots_L69, e0, if_neg (nI_ge (by omega) (by omega)), c_next, bo_s, c_draw, bo_s, e1, bx_s, lt_s_, nI_1]
    rw [ssn_s] at hk
    exact ih n (i + 1) _ (hangR r i (drw (nxt sd))) (nxt sd) (by omega) (by omega) (CS_mind h) e2 (Inv_hang hIr (by omega) (drw_b (nxt sd)).1 (drw_b (nxt sd)).2) hc hk
theorem c_lotL {N : Nat} (hN : 300 < N) {A : St} (hI : AI A) {m : Nat} (hm : m ≤ 20) (w : Int32) : ∀ (k n i : Nat) (z : St) (sd x5 x6 : Int32), i + k = m → k < n → CS z A → CO (fX2_lots_L49 N n z (nI m) w x5 x6 sd (nI i)) (ltS (A 0) w k sd (if w = 0 then x5 else x6), A) := by
  have h8 := hI.1.n.1
  intro k
  induction k with
  | zero =>
    intro n i z sd x5 x6 hi hn h
    obtain ⟨n, rfl⟩ : ∃ m, n = m + 1 := ⟨n - 1, by omega⟩
    rw [fX2_lots_L49, if_pos (nI_le (by omega) (by omega))]
    show CO _ ((if w = 0 then x5 else x6), A)
    by_cases c : w = 0
    · rw [if_pos c, if_pos c]; exact CO_s h
    · rw [if_neg c, if_neg c]; exact CO_s h
  | succ k ih =>
    intro n i z sd x5 x6 hi hn h
    obtain ⟨n, rfl⟩ : ∃ m, n = m + 1 := ⟨n - 1, by omega⟩
    obtain ⟨z1, e1, e2, e3⟩ := c_cop hN h
    rw [fX2_lots_L49, if_neg (nI_ge (by omega) (by omega)), e1, by_s]
    refine c_lotI hN hI _ _ _ _ _ _ (cnt (A 0)) N 0 _ (A 0) sd (by omega) (by omega) e2 e3 hI.1 rfl (fun z' h' => ?_)
    rw [nI_1]
    have := ih n (i + 1) z' (ssn (cnt (A 0)) 0 (A 0) sd).2 (x5 + (if fla (ssn (cnt (A 0)) 0 (A 0) sd).1 12 = 10 then 1 else 0)) (x6 + o2 ((ssn (cnt (A 0)) 0 (A 0) sd).1 3) (fla (ssn (cnt (A 0)) 0 (A 0) sd).1 12)) (by omega) (by omega) h'
    have e : ltS (A 0) w (k + 1) sd (if w = 0 then x5 else x6) = ltS (A 0) w k (ssn (cnt (A 0)) 0 (A 0) sd).2 (if w = 0 then x5 + (if fla (ssn (cnt (A 0)) 0 (A 0) sd).1 12 = 10 then 1 else 0) else x6 + o2 ((ssn (cnt (A 0)) 0 (A 0) sd).1 3) (fla (ssn (cnt (A 0)) 0 (A 0) sd).1 12)) := by
      show ltS (A 0) w k _ _ = _
      congr 1
      unfold inc
      rw [ssn_3]
      by_cases c : w = 0
      · simp only [if_pos c]
      · simp only [if_neg c]
    rw [e]
    exact this
def S_lots (A : St) (p1 p2 p3 : Int32) : Int32 × St := if p1 < 1 then (-4, rf A 4) else if 20 < p1 then (-6, rf A 6) else (if 0 ≤ p3 ∧ p3 ≤ 1 then (ltS (A 0) p3 p1.toNatClampNeg p2 0, A) else (-2, rf A 2))
theorem c_lots {N : Nat} (hN : 300 < N) {σ A : St} (h : CS σ A) (hI : AI A) (p1 p2 p3 : Int32) : CO (fX2_lots N σ p1 p2 p3) (S_lots A p1 p2 p3) := by
  unfold fX2_lots S_lots
  rw [i_fault, bo_s]
  refine CO_f (badC N σ) (c_b4 N h) (c_b6 N h) (fun c2 c3 => ?_)
  refine CO_w (fun c4 => ?_) (c_b2 N h)
  obtain ⟨k, hk, rfl⟩ := upto_of (p := p1) (g := 20) (by omega) (by grind) c3
  unfold fX2_lots_L37
  rw [nI_clamp (by omega)]
  have := c_lotL hN hI hk p3 k N 0 σ p2 0 0 (by omega) (by omega) h
  rw [show (if p3 = 0 then (0 : Int32) else 0) = 0 by by_cases c : p3 = 0 <;> simp [c]] at this
  exact this
theorem m_drawn (N : Nat) (z : St) : fX3_drawn N z 3 = some (drw (nxt (z 0 12)), up2 z 0 12 (nxt (z 0 12))) := by
  unfold fX3_drawn
  rw [lt_s_, lt_s_]
  have e : z 0 12 * 1664525 + 1013904223 = nxt (z 0 12) := by unfold nxt; rfl
  rw [e, up2_a, if_pos ⟨rfl, rfl⟩]
  unfold rmI
  rw [if_neg (show ¬ (3 : Int32) = 0 by decide), bo_s]
  unfold drw
  rfl
theorem m_lotI {N : Nat} (hN : 300 < N) {A : St} (hI : AI A) (kk : St → Int32 → Int32 → Int32 → Int32 → Option (Int32 × St)) (x1 w x4 x5 : Int32) {S : Int32 × St} : ∀ (k n i : Nat) (z : St) (r : Nat → Int32) (sd : Int32), i + k = cnt (A 0) → k < n → MS z A → z 0 12 = sd → RR (sb [2] z) 0 r → Cn r →
    (∀ z', MS z' A → z' 0 12 = (ssn k i r sd).2 → MO (kk z' x1 w (x4 + inc w (ssn k i r sd).1 ((ssn k i r sd).1 3)) (x5 + 1)) S) → MO (fX3_lots_L72 N kk n z x1 w x4 x5 (nI i)) S := by
  have hc0 := hI.cn
  intro k
  induction k with
  | zero =>
    intro n i z r sd hi hn h hsd hr hc hk
    obtain ⟨n, rfl⟩ : ∃ m, n = m + 1 := ⟨n - 1, by omega⟩
    obtain ⟨h8, h9⟩ := hc0
    obtain ⟨z5, e1, e2⟩ := m_days (by omega : 100 < N) hc (m := 12) (by omega) hr
    have e2' : RR (pb [2] z5 z) 2 (adv r 12) := e2
    rw [fX3_lots_L72, h.1.rd0, bo_s, h9, if_pos (nI_le (by omega) (by omega)), show (12 : Int32) = nI 12 from rfl, e1, by_s, e2'.rd2, bo_s, m_isAtDoor N (ρ := sb [2] (pb [2] z5 z)) e2, bo_s]
    have := hk (pb [2] z5 z) (MS_pb2 h) hsd
    unfold fX3_lots_L153 fX3_lots_L169 fX3_lots_L170
    rw [m_isAtDoor N (ρ := sb [2] (pb [2] z5 z)) e2, bo_s, bo_s]
    simp only [lt_s_]
    have f1 : adv r 12 2 = fla r 12 := rfl
    have f2 : adv r 12 3 = r 3 := rfl
    simp only [ssn_0] at this
    rw [f1, f2, show hgt 0 (fla r 12) = fla r 12 from rfl, show hgt 1 (fla r 12) = 20 - fla r 12 from rfl]
    unfold inc o2 at this
    by_cases c : w = 0
    · rw [if_pos c]
      rw [if_pos c] at this
      by_cases c2 : fla r 12 = 10
      · rw [if_pos c2]; rw [if_pos c2] at this; exact this
      · rw [if_neg c2]; rw [if_neg c2] at this; exact this
    · rw [if_neg c]
      rw [if_neg c] at this
      by_cases d0 : bitAt (r 3) (fla r 12) = 1
      · rw [if_pos d0, if_neg (by decide)]
        by_cases d1 : bitAt (r 3) (20 - fla r 12) = 1
        · rw [if_pos d1, if_neg (by decide)]; rw [if_pos d0, if_pos d1] at this; exact this
        · rw [if_neg d1, if_pos rfl]; rw [if_pos d0, if_neg d1] at this; exact this
      · rw [if_neg d0, if_pos rfl]
        by_cases d1 : bitAt (r 3) (20 - fla r 12) = 1
        · rw [if_pos d1, if_neg (by decide)]; rw [if_neg d0, if_pos d1] at this; exact this
        · rw [if_neg d1, if_pos rfl]; rw [if_neg d0, if_neg d1] at this; exact this
  | succ k ih =>
    intro n i z r sd hi hn h hsd hr hc hk
    obtain ⟨n, rfl⟩ : ∃ m, n = m + 1 := ⟨n - 1, by omega⟩
    obtain ⟨h8, h9⟩ := hc0
    have ed := m_drawn N z
    rw [hsd] at ed
    obtain ⟨z', e1, e2⟩ := m_hangsIn N (ρ := sb [2] (up2 z 0 12 (nxt sd))) (r := r) hr (t := i) (by omega) (drw (nxt sd))
    rw [fX3_lots_L72, h.1.rd0, bo_s, h9, if_neg (nI_ge (by omega) (by omega)), ed, bx_s, e1, by_s, lt_s_, nI_1]
    rw [ssn_s] at hk
    exact ih n (i + 1) _ (hangR r i (drw (nxt sd))) (nxt sd) (by omega) (by omega) h rfl e2 hc hk
theorem m_lotL {N : Nat} (hN : 300 < N) {A : St} (hI : AI A) {m : Nat} (hm : m ≤ 20) (w : Int32) : ∀ (k n i : Nat) (z : St) (sd x4 : Int32), i + k = m → k < n → MS z A → z 0 12 = sd → MO (fX3_lots_L52 N n z (nI m) w x4 (nI i)) (ltS (A 0) w k sd x4, A) := by
  have h8 := hI.1.n.1
  intro k
  induction k with
  | zero =>
    intro n i z sd x4 hi hn h hsd
    obtain ⟨n, rfl⟩ : ∃ m, n = m + 1 := ⟨n - 1, by omega⟩
    rw [fX3_lots_L52, if_pos (nI_le (by omega) (by omega))]
    exact MO_s h
  | succ k ih =>
    intro n i z sd x4 hi hn h hsd
    obtain ⟨n, rfl⟩ : ∃ m, n = m + 1 := ⟨n - 1, by omega⟩
    obtain ⟨z1, e1, e2, e3⟩ := m_cop hN h
    rw [fX3_lots_L52, if_neg (nI_ge (by omega) (by omega)), e1, by_s]
    refine m_lotI hN hI _ _ _ _ _ (cnt (A 0)) N 0 _ (A 0) sd (by omega) (by omega) e2 hsd e3 hI.cn (fun z' h' hs' => ?_)
    rw [nI_1, ssn_3]
    exact ih n (i + 1) z' _ _ (by omega) (by omega) h' hs'
theorem m_lots {N : Nat} (hN : 300 < N) {ρ A : St} (h : MS ρ A) (hI : AI A) (p1 p2 p3 : Int32) : MO (fX3_lots N ρ p1 p2 p3) (S_lots A p1 p2 p3) := by
  unfold fX3_lots S_lots
  by_cases c1 : p1 < 1
  · rw [if_neg (show ¬ 1 ≤ p1 by grind), if_pos c1]; exact m_b4 N h
  · rw [if_pos (show 1 ≤ p1 by grind), if_neg c1]
    by_cases c2 : 20 < p1
    · rw [if_neg (show ¬ p1 ≤ 20 by grind), if_pos c2]; exact m_b6 N h
    · rw [if_pos (show p1 ≤ 20 by grind), if_neg c2, j_in, bo_s]
      refine MO_t (fun c3 => ?_) (fun _ => m_b2 N h)
      obtain ⟨k, hk, rfl⟩ := upto_of (p := p1) (g := 20) (by omega) (by grind) c2
      rw [lt_s_, nI_clamp (by omega)]
      exact m_lotL hN hI hk p3 k N 0 (up2 ρ 0 12 p2) p2 0 (by omega) (by omega) h rfl
