/-! what a statement does: the reference -/
def MF (z ρ : St) : Prop := z 0 = ρ 0 ∧ z 3 = ρ 3 ∧ z 4 = ρ 4 ∧ z 5 = ρ 5 ∧ z 6 = ρ 6 ∧ z 7 = ρ 7
def DNo (z : St) (o : Option (Int32 × St)) (e : Option (Nat → Int32)) : Prop := (e = none ∧ o = some (0, z)) ∨ ∃ r z', e = some r ∧ o = some (1, z') ∧ RR z' 1 r ∧ MF z' z
theorem MF.r (z : St) : MF z z := ⟨rfl, rfl, rfl, rfl, rfl, rfl⟩
theorem MF.t {a b c : St} (h : MF a b) (h2 : MF b c) : MF a c := ⟨h.1.trans h2.1, h.2.1.trans h2.2.1, h.2.2.1.trans h2.2.2.1, h.2.2.2.1.trans h2.2.2.2.1, h.2.2.2.2.1.trans h2.2.2.2.2.1, h.2.2.2.2.2.trans h2.2.2.2.2.2⟩
theorem MF.w {z : St} {k : Nat} {v : Int32} : MF (up2 z 1 k v) z := ⟨rfl, rfl, rfl, rfl, rfl, rfl⟩
theorem MF.p {z τ : St} : MF (pb [1] τ z) z := ⟨rfl, rfl, rfl, rfl, rfl, rfl⟩
theorem DN_n {z : St} : DNo z (some (0, z)) none := Or.inl ⟨rfl, rfl⟩
theorem DN_y {z z' : St} {r : Nat → Int32} (h : RR z' 1 r) (hF : MF z' z) : DNo z (some (1, z')) (some r) := Or.inr ⟨r, z', rfl, rfl, h, hF⟩
theorem rd8 {z : St} {v : Int32} {k : Nat} (hk : k < 3) (h : z 8 k = v) : rdI z 8 3 (nI k) = some v := by rw [rdI_n hk (by omega), h]
theorem m_dn {N : Nat} (hN : 300 < N) {z A : St} (hA : AI A) {i : Nat} (h : full A i) {r : Nat → Int32} (hI : Inv 999 r) (hR : RR z 1 r) (hU : NU z A i) : DNo z (fX3_isDone N z (lx A i)) (ex A i r) := by
  have hh := full_hd h
  obtain ⟨u1, u2, u3, u4⟩ := hU
  have w0 : rdI z 8 3 (0 : Int32) = some (z 8 0) := rdI_n (t := 0) (by omega) (by omega)
  have w1 : rdI z 8 3 (1 : Int32) = some (z 8 1) := rdI_n (t := 1) (by omega) (by omega)
  have w2 : rdI z 8 3 (2 : Int32) = some (z 8 2) := rdI_n (t := 2) (by omega) (by omega)
  unfold fX3_isDone ex
  rw [w0, bo_s, w1, bo_s]
  by_cases c1 : lx A i = 98
  · rw [if_pos c1, if_pos c1, (u1 c1).1, (u1 c1).2, j_side, bo_s]
    by_cases q1 : 0 ≤ dj A (i + 1) ∧ dj A (i + 1) ≤ 1
    · rw [if_pos q1, if_pos q1, if_neg (by decide)]
      by_cases q2 : nj A (i + 2) ≤ 50
      · rw [if_pos q2, if_pos q2]
        obtain ⟨s, hs, es⟩ := side_of q1
        rw [es, show (4 : Int32) + nI s = nI (4 + s) from nI_add 4 s, wrI_n (by omega) (by omega), bo_s, zr1, bo_s, nI_clamp (by omega)]
        exact DN_y (hR.wr (4 + s) _) MF.w
      · rw [if_neg q2, if_neg q2, zr0, bo_s]
        exact DN_n
    · rw [if_neg q1, if_neg q1, if_pos rfl, zr0, bo_s]
      exact DN_n
  · rw [if_neg c1, if_neg c1]
    by_cases c2 : lx A i = 100
    · rw [if_pos c2, if_pos c2, u2 (Or.inl c2), j_floor, bo_s]
      by_cases q1 : 0 ≤ nj A (i + 1) ∧ nj A (i + 1) ≤ 20
      · rw [if_pos q1, if_pos q1, if_neg (by decide), hR.rd3, bo_s, lt_s_, wr3, bo_s, zr1, bo_s]
        exact DN_y (hR.wr 3 _) MF.w
      · rw [if_neg q1, if_neg q1, if_pos rfl, zr0, bo_s]
        exact DN_n
    · rw [if_neg c2, if_neg c2]
      by_cases c3 : lx A i = 102
      · rw [if_pos c3, if_pos c3, u2 (Or.inr (Or.inl c3)), j_floor, bo_s]
        by_cases q1 : 0 ≤ nj A (i + 1) ∧ nj A (i + 1) ≤ 20
        · rw [if_pos q1, if_pos q1, if_neg (by decide), wr2, bo_s, zr1, bo_s]
          exact DN_y (hR.wr 2 _) MF.w
        · rw [if_neg q1, if_neg q1, if_pos rfl, zr0, bo_s]
          exact DN_n
      · rw [if_neg c3, if_neg c3]
        by_cases c4 : lx A i = 104
        · rw [if_pos c4, if_pos c4, (u3 c4).1, (u3 c4).2, j_thing N hR hI, bo_s]
          by_cases q1 : 0 ≤ dj A (i + 1) ∧ dj A (i + 1) < r 0
          · rw [if_pos q1, if_pos q1, if_neg (by decide)]
            by_cases q2 : dj A (i + 2) ≤ 2
            · rw [if_pos q2, if_pos q2]
              obtain ⟨t, ht, ht8, et⟩ := thing_of hI q1.1 q1.2
              obtain ⟨z2, g1, g2⟩ := m_hangsIn N (ρ := sb [1] z) (r := r) hR ht8 (dj A (i + 2))
              rw [et, g1, by_s, zr1, bo_s, nI_clamp (by omega)]
              exact DN_y g2 MF.p
            · rw [if_neg q2, if_neg q2, zr0, bo_s]
              exact DN_n
          · rw [if_neg q1, if_neg q1, if_pos rfl, zr0, bo_s]
            exact DN_n
        · rw [if_neg c4, if_neg c4]
          by_cases c5 : lx A i = 110
          · rw [if_pos c5, if_neg (by rw [c5]; decide), u2 (Or.inr (Or.inr c5)), j_in, bo_s]
            by_cases q1 : 1 ≤ nj A (i + 1) ∧ nj A (i + 1) ≤ 60
            · rw [if_pos q1, if_pos q1, if_neg (by decide), hR.rd1, bo_s]
              by_cases q2 : r 1 + nj A (i + 1) ≤ 999
              · rw [if_pos q2, if_pos q2]
                obtain ⟨k, h1, hk, e1⟩ := days_of (p := nj A (i + 1)) (by have := q1.1; grind) (by have := q1.2; grind)
                obtain ⟨z2, g1, g2⟩ := m_days (by omega : 100 < N) hI.n (m := k) (by omega) (ρ := sb [1] z) (r := r) hR
                rw [e1, g1, by_s, zr1, bo_s, nI_clamp (by omega)]
                exact DN_y g2 MF.p
              · rw [if_neg q2, if_neg q2, zr0, bo_s]
                exact DN_n
            · rw [if_neg q1, if_neg q1, if_pos rfl, zr0, bo_s]
              exact DN_n
          · have c6 : lx A i = 116 := by unfold hd at hh; grind
            obtain ⟨v1, v2, v3⟩ := u4 c6
            rw [if_neg c5, if_pos c6, w2, bo_s, v1, v2, v3]
            by_cases q1 : dj A (i + 3) ≤ 2
            · rw [if_pos q1, if_neg (by grind), hR.rd0, bo_s]
              by_cases q2 : r 0 = 8
              · rw [if_pos q2, if_pos q2, zr0, bo_s]
                exact DN_n
              · rw [if_neg q2, if_neg q2, bo_s]
                obtain ⟨d, hd, e2⟩ := full_dg h (j := 2) (by omega) (by rw [c6]; decide) (fun q => by omega)
                obtain ⟨d3, hd3, e3⟩ := full_dg h (j := 3) (by omega) (by rw [c6]; decide) (fun q => by omega)
                obtain ⟨hlt, _⟩ := Inv_add hI q2 (full_kd hA h c6) (f := dj A (i + 2)) ⟨by rw [e2]; exact nI_pos' (by omega), by rw [e2]; exact nI_le (b := 9) hd (by omega)⟩ (w := dj A (i + 3)) ⟨by rw [e3]; exact nI_pos' (by omega), q1⟩
                have e0 : r 0 = nI (cnt r) := hI.n.2
                have h1 := hR.wr (4 * cnt r + 6) (kdV (lx A (i + 1)))
                have h2 := h1.wr (4 * cnt r + 7) (dj A (i + 2))
                have k0 : ∀ j v, RR (up2 z 1 (4 * cnt r + 6) v) 1 j → up2 z 1 (4 * cnt r + 6) v 1 0 = j 0 := fun j v q => q 0 (by omega)
                have a1 : rdI (up2 z 1 (4 * cnt r + 6) (kdV (lx A (i + 1)))) 1 38 (0 : Int32) = some (nI (cnt r)) := by
                  rw [h1.rd0, if_neg (by omega), ← e0]
                have a2 : rdI (up2 (up2 z 1 (4 * cnt r + 6) (kdV (lx A (i + 1)))) 1 (4 * cnt r + 7) (dj A (i + 2))) 1 38 (0 : Int32) = some (nI (cnt r)) := by
                  rw [h2.rd0, if_neg (by omega), if_neg (by omega), ← e0]
                have a3 : rdI (up2 (up2 z 1 (4 * cnt r + 6) (kdV (lx A (i + 1)))) 1 (4 * cnt r + 7) (dj A (i + 2))) 8 3 (2 : Int32) = some (dj A (i + 3)) := (rdI_n (t := 2) (by omega) (by omega)).trans (congrArg some v3)
                rw [e0, m_of0, bo_s, wrI_n (by omega) (by omega), bo_s, a1, bo_s, m_of1, bo_s, wrI_n (by omega) (by omega), bo_s, a2, bo_s, a3, bo_s]
                obtain ⟨z3, g1, g2⟩ := m_hangsIn N (ρ := sb [1] (up2 (up2 z 1 (4 * cnt r + 6) (kdV (lx A (i + 1)))) 1 (4 * cnt r + 7) (dj A (i + 2)))) h2 hlt (dj A (i + 3))
                rw [g1, by_s]
                have h3 : RR (pb [1] z3 (up2 (up2 z 1 (4 * cnt r + 6) (kdV (lx A (i + 1)))) 1 (4 * cnt r + 7) (dj A (i + 2)))) 1 _ := g2
                have e5 : hangR (fun i_1 => if i_1 = 4 * cnt r + 7 then dj A (i + 2) else (fun i_2 => if i_2 = 4 * cnt r + 6 then kdV (lx A (i + 1)) else r i_2) i_1) (cnt r) (dj A (i + 3)) 0 = nI (cnt r) := by
                  unfold hangR
                  dsimp only
                  rw [if_neg (show ¬ 0 = 4 * cnt r + 9 by omega), if_neg (show ¬ 0 = 4 * cnt r + 8 by omega), if_neg (show ¬ 0 = 4 * cnt r + 7 by omega), if_neg (show ¬ 0 = 4 * cnt r + 6 by omega)]
                  exact e0
                rw [h3.rd0, e5, bo_s, lt_s_]
                have w9 : ∀ (y : St) v, wrI y 1 38 (0 : Int32) v = some (up2 y 1 0 v) := fun y v => wrI_n (t := 0) (by omega) (by omega)
                rw [w9, bo_s, zr1, bo_s]
                refine DN_y ((h3.wr 0 _).c (fun j hj => ?_)) (MF.w.t (MF.p.t (MF.w.t MF.w)))
                unfold hangR addR
                dsimp only
                by_cases q0 : j = 0
                · rw [if_pos q0, if_pos q0, ← e0]
                · rw [if_neg q0, if_neg q0]
                  by_cases q9 : j = 4 * cnt r + 9
                  · rw [if_pos q9, if_neg (show ¬ 1 = 4 * cnt r + 7 by omega), if_neg (show ¬ 1 = 4 * cnt r + 6 by omega), if_neg (show ¬ j = 4 * cnt r + 6 by omega), if_neg (show ¬ j = 4 * cnt r + 7 by omega), if_neg (show ¬ j = 4 * cnt r + 8 by omega), if_pos q9]
                  · rw [if_neg q9]
                    by_cases q8 : j = 4 * cnt r + 8
                    · rw [if_pos q8, if_neg (show ¬ j = 4 * cnt r + 6 by omega), if_neg (show ¬ j = 4 * cnt r + 7 by omega), if_pos q8]
                    · rw [if_neg q8]
                      by_cases q7 : j = 4 * cnt r + 7
                      · rw [if_pos q7, if_neg (show ¬ j = 4 * cnt r + 6 by omega), if_pos q7]
                      · rw [if_neg q7]
                        by_cases q6 : j = 4 * cnt r + 6
                        · rw [if_pos q6, if_pos q6]
                        · rw [if_neg q6, if_neg q6, if_neg q7, if_neg q8, if_neg q9]
            · rw [if_neg q1, if_pos (by grind), zr0, bo_s]
              exact DN_n
theorem n2_9 : ∀ i, i < 97 → ¬ (-2000 : Int32) - nI i = -9 := by decide +kernel
theorem n1_9 : ∀ i, i < 97 → ¬ (-1000 : Int32) - nI i = -9 := by decide +kernel
theorem n2_0 : ∀ i, i < 97 → (-2000 : Int32) - nI i ≤ 0 := by decide +kernel
theorem n1_0 : ∀ i, i < 97 → (-1000 : Int32) - nI i ≤ 0 := by decide +kernel
/-- what the walks leave of the reference's cells -/
def MG (z ρ : St) : Prop := z 0 4 = ρ 0 4 ∧ z 0 9 = ρ 0 9 ∧ z 3 = ρ 3 ∧ z 6 = ρ 6 ∧ z 7 = ρ 7
theorem m_tellE {N n : Nat} (hn : 0 < n) {z : St} {x1 x2 : Int32} (h : ¬ x2 = -9) : fX3_hoist_L62 N n z x1 x2 = some (x2, up2 z 0 8 0) := by
  obtain ⟨n, rfl⟩ : ∃ m, n = m + 1 := ⟨n - 1, by omega⟩
  rw [fX3_hoist_L62, if_neg h]
  unfold fX3_hoist_L128
  rw [lt_s_, if_neg h]
theorem m_tellL {N : Nat} (hN : 300 < N) {A ρ : St} (hA : AI A) (hB : LB ρ A) (h4 : RR ρ 4 (A 0)) (x1 : Int32) : ∀ (k n i m : Nat) (z : St) (r : Nat → Int32), i ≤ nL A → nL A ≤ i + k → k + 1 < n → pz A k i = none → z 0 10 = nI i → z 0 8 = ρ 0 8 → z 4 = ρ 4 → z 5 = ρ 5 → MG z ρ → RR z 1 r → Inv 999 r → ∃ z', fX3_hoist_L62 N n z x1 (-9) = some ((match (rn A k i r m).2 with | none => (rn A k i r m).1 | some _ => x1), z') ∧ z' 0 8 = 0 ∧ MG z' ρ ∧ RR z' 1 (match (rn A k i r m).2 with | none => A 0 | some r' => r') := by
  have h96 := hA.2.2.2.1.1
  have ebase : ∀ n i (z : St) (r : Nat → Int32), ¬ i < nL A → i ≤ nL A → 0 < n → z 0 10 = nI i → z 0 8 = ρ 0 8 → MG z ρ → RR z 1 r → ∃ z', fX3_hoist_L62 N n z x1 (-9) = some (x1, z') ∧ z' 0 8 = 0 ∧ MG z' ρ ∧ RR z' 1 r := by
    intro n i z r h1 h2 hn e1 e2 hG hR
    obtain ⟨n, rfl⟩ : ∃ m, n = m + 1 := ⟨n - 1, by omega⟩
    rw [fX3_hoist_L62, if_pos rfl, e1, e2, hB.1, if_pos (nI_le (by omega) (by omega))]
    unfold fX3_hoist_L128
    rw [lt_s_, if_pos rfl]
    exact ⟨_, rfl, rfl, hG, hR⟩
  intro k
  induction k with
  | zero =>
    intro n i m z r h1 h2 hn hp e1 e2 e3 e4 hG hR hI
    exact ebase n i z r (by omega) h1 (by omega) e1 e2 hG hR
  | succ k ih =>
    intro n i m z r h1 h2 hn hp e1 e2 e3 e4 hG hR hI
    by_cases c : i < nL A
    · obtain ⟨hf, hp2⟩ := pz_full hp c
      obtain ⟨n, rfl⟩ : ∃ m, n = m + 1 := ⟨n - 1, by omega⟩
      have hB2 : LB z A := ⟨e2.trans hB.1, by rw [e4]; exact hB.2⟩
      have hRP : RP z z i := ⟨e1, rfl, rfl, rfl, rfl, rfl, rfl, rfl, rfl, rfl⟩
      rw [fX3_hoist_L62, if_pos rfl, e1, e2, hB.1, if_neg (nI_ge c (by omega)), m_here hRP hB2 hA (by omega), bo_s]
      rcases m_rS hN hRP hB2 hA (by omega) with ⟨_, z2, g1, g2, g3⟩ | ⟨q, _⟩
      · rw [g1, bx_s]
        have hR2 : RR z2 1 r := fun j hj => by rw [g2.2.2.2.2.1]; exact hR j hj
        unfold rn
        rw [if_pos c]
        rcases m_dn hN hA hf hI hR2 g3 with ⟨f1, f2⟩ | ⟨r2, z3, f1, f2, f3, f4⟩
        · rw [f2, bx_s, if_pos rfl, lt_s_, f1]
          have h4' : RR (sb [4, 1] z2) 0 (A 0) := fun j hj => by
            show z2 4 j = _
            rw [g2.2.2.2.2.2.2.1, e3]; exact h4 j hj
          obtain ⟨z5, b1, b2, b3⟩ := m_copies (by omega : 38 < N) h4'
          rw [b1, by_s, m_tellE (by omega) (n2_9 i (by omega))]
          obtain ⟨a1, a2, a3, a4, a5⟩ := hG
          exact ⟨_, rfl, rfl, ⟨g2.2.2.1.trans a1, g2.2.2.2.1.trans a2, g2.2.2.2.2.2.1.trans a3, g2.2.2.2.2.2.2.2.2.1.trans a4, g2.2.2.2.2.2.2.2.2.2.trans a5⟩, b3⟩
        · rw [f2, bx_s, if_neg (by decide), f1]
          obtain ⟨a1, a2, a3, a4, a5⟩ := hG
          obtain ⟨d1, d2, d3, d4, d5, d6⟩ := f4
          refine ih n (i + sl A i) (m + 1) z3 r2 (full_in hf) (by unfold sl; omega) (by omega) hp2 (by rw [d1]; exact g2.1) (by rw [d1]; exact g2.2.1.trans e2) (by rw [d3, g2.2.2.2.2.2.2.1, e3]) (by rw [d4, g2.2.2.2.2.2.2.2.1, e4]) ⟨by rw [d1]; exact g2.2.2.1.trans a1, by rw [d1]; exact g2.2.2.2.1.trans a2, by rw [d2]; exact g2.2.2.2.2.2.1.trans a3, by rw [d5]; exact g2.2.2.2.2.2.2.2.2.1.trans a4, by rw [d6]; exact g2.2.2.2.2.2.2.2.2.2.trans a5⟩ f3 (ex_Inv hA hf hI f1)
      · exact absurd hf q
    · unfold rn
      rw [if_neg c]
      exact ebase n i z r c h1 (by omega) e1 e2 hG hR
theorem m_brkL {N : Nat} (hN : 300 < N) {A ρ : St} (hA : AI A) (hB : LB ρ A) : ∀ (k n i m : Nat) (z : St), i < nL A → nL A ≤ i + k → k < n → RP z ρ i → ∃ z' x1', fX3_hoist_L10 N n z (nI m) (-9) = fX3_hoist_L46 N z' x1' (match pz A k i with | none => -9 | some p => -1000 - nI p) ∧ (∃ q, RP z' ρ q) ∧ (pz A k i = none → x1' = nI (m + cS A k i)) := by
  have h96 := hA.2.2.2.1.1
  intro k
  induction k with
  | zero => intro n i m z h1 h2; omega
  | succ k ih =>
    intro n i m z h1 h2 hn hR
    obtain ⟨n, rfl⟩ : ∃ m, n = m + 1 := ⟨n - 1, by omega⟩
    rw [fX3_hoist_L10]
    unfold pz cS
    rw [if_pos h1, if_pos h1]
    rcases m_rS hN hR hB hA (by omega) with ⟨hf, z2, g1, g2, g3⟩ | ⟨hf, z2, g1, g2⟩
    · rw [g1, bx_s, if_neg (by decide), if_pos (show stG A i (sl A i) 0 = sl A i from hf)]
      have hin := full_in hf
      unfold fX3_hoist_L26
      rw [lt_s_, if_pos rfl, g2.1, g2.2.1, hB.1, nI_1]
      by_cases c : i + sl A i < nL A
      · rw [if_pos (nI_lt c (by omega))]
        obtain ⟨z', x1', e1, e2, e3⟩ := ih n (i + sl A i) (m + 1) z2 c (by unfold sl; omega) (by omega) g2
        exact ⟨z', x1', e1, e2, fun q => by rw [e3 q, Nat.add_assoc]⟩
      · rw [if_neg (nI_nlt (by omega) (by omega))]
        have ep : pz A k (i + sl A i) = none := by
          cases k with
          | zero => rfl
          | succ k => unfold pz; rw [if_neg c]
        have ec : cS A k (i + sl A i) = 0 := by
          cases k with
          | zero => rfl
          | succ k => unfold cS; rw [if_neg c]
        rw [ep, ec]
        exact ⟨z2, _, rfl, ⟨_, g2⟩, fun _ => rfl⟩
    · rw [g1, bx_s, if_pos rfl, lt_s_, if_neg (show ¬ stG A i (sl A i) 0 = sl A i from hf), g2.1]
      unfold fX3_hoist_L26
      have hle := pz_le (A := A) (k + 1) i (i + stG A i (sl A i) 0) (by omega) (by unfold pz; rw [if_pos h1, if_neg (show ¬ stG A i (sl A i) 0 = sl A i from hf)])
      rw [lt_s_, if_neg (n1_9 _ (by omega))]
      exact ⟨z2, _, rfl, ⟨_, g2⟩, fun q => by cases q⟩
theorem rn_cnt {A : St} : ∀ (k i : Nat) (r : Nat → Int32) (m : Nat) (r' : Nat → Int32), (rn A k i r m).2 = some r' → (rn A k i r m).1 = nI (m + cS A k i) := by
  intro k
  induction k with
  | zero => intro i r m r' _; rfl
  | succ k ih =>
    intro i r m r' h
    unfold rn at h ⊢
    unfold cS
    by_cases c : i < nL A
    · rw [if_pos c] at h ⊢
      rw [if_pos c]
      cases he : ex A i r with
      | none => rw [he] at h; cases h
      | some r2 =>
        rw [he] at h
        have := ih (i + sl A i) r2 (m + 1) r' h
        rw [Nat.add_assoc] at this
        exact this
    · rw [if_neg c, if_neg c]; rfl
theorem rn_Inv {A : St} (hA : AI A) : ∀ (k i : Nat) (r : Nat → Int32) (m : Nat) (r' : Nat → Int32), pz A k i = none → Inv 999 r → (rn A k i r m).2 = some r' → Inv 999 r' := by
  intro k
  induction k with
  | zero => intro i r m r' _ hI h; cases h; exact hI
  | succ k ih =>
    intro i r m r' hp hI h
    unfold rn at h
    by_cases c : i < nL A
    · obtain ⟨hf, hp2⟩ := pz_full hp c
      rw [if_pos c] at h
      cases he : ex A i r with
      | none => rw [he] at h; cases h
      | some r2 =>
        rw [he] at h
        exact ih (i + sl A i) r2 (m + 1) r' hp2 (ex_Inv hA hf hI he) h
    · rw [if_neg c] at h; cases h; exact hI
theorem rn_no {A : St} : ∀ (k i : Nat) (r : Nat → Int32) (m : Nat), nL A ≤ 96 → (rn A k i r m).2 = none → (rn A k i r m).1 ≤ 0 := by
  intro k
  induction k with
  | zero => intro i r m _ h; cases h
  | succ k ih =>
    intro i r m h96 h
    unfold rn at h ⊢
    by_cases c : i < nL A
    · rw [if_pos c] at h ⊢
      cases he : ex A i r with
      | none => exact n2_0 i (by omega)
      | some r2 => rw [he] at h; exact ih _ r2 (m + 1) h96 h
    · rw [if_neg c] at h; cases h
theorem cS_le {A : St} : ∀ (k i : Nat), cS A k i ≤ k := by
  intro k
  induction k with
  | zero => intro i; exact Nat.le_refl _
  | succ k ih =>
    intro i
    unfold cS
    by_cases c : i < nL A
    · rw [if_pos c]; have := ih (i + sl A i); omega
    · rw [if_neg c]; omega
theorem z0_AI {A : St} (h : AI A) : AI (z0 A) := ⟨h.1, h.2.1, h.2.2.1, ⟨Nat.zero_le _, rfl⟩, fun k hk => absurd hk (Nat.not_lt_zero k), h.2.2.2.2.2⟩
theorem a_hoist {A : St} (hA : AI A) : AI (S_hoist A).2 := by
  unfold S_hoist
  by_cases c : nL A = 0
  · rw [if_pos c]; exact z0_AI hA
  · rw [if_neg c]
    cases hp : pz A 96 0 with
    | some p => exact z0_AI hA
    | none =>
      show AI (match (rn A 96 0 (A 0) 0).2 with | none => z0 A | some r => wR (z0 A) r)
      cases hr : (rn A 96 0 (A 0) 0).2 with
      | none => exact z0_AI hA
      | some r => exact wR_AI (z0_AI hA) (rn_Inv hA 96 0 (A 0) 0 r hp hA.1 hr)
theorem m_hoist {N : Nat} (hN : 600 < N) {ρ A : St} (h : MS ρ A) (hA : AI A) : MO (fX3_hoist N ρ) (S_hoist A) := by
  have h96 := hA.2.2.2.1.1
  obtain ⟨h1, h2, h3, h4, h5, h6, h7, h8⟩ := id h
  have hB : LB ρ A := ⟨h4.trans hA.2.2.2.1.2, h5⟩
  have hR : RP (up2 ρ 0 10 0) ρ 0 := ⟨rfl, rfl, rfl, rfl, rfl, rfl, rfl, rfl, rfl, rfl⟩
  -- the end, by what was written
  have fin : ∀ (z : St), z 0 8 = 0 → MG z ρ → RR z 1 (A 0) → MS z (z0 A) := by
    intro z a1 a2 a3
    obtain ⟨b1, b2, b3, b4, b5⟩ := a2
    exact ⟨a3, fun q j hj => by rw [b3]; exact h2 q j hj, b1.trans h3, a1, fun k hk => absurd hk (Nat.not_lt_zero k), b2.trans h6, fun k hk => by rw [b4]; exact h7 k hk, fun k hk => by rw [b5]; exact h8 k hk⟩
  -- after the first walk
  have mid : ∀ (z : St) (x1 : Int32) (q : Nat), RP z ρ q → ∃ z6, (∀ x2, fX3_hoist_L46 N z x1 x2 = fX3_hoist_L62 N N z6 x1 x2) ∧ z6 0 10 = nI 0 ∧ z6 0 8 = ρ 0 8 ∧ z6 5 = ρ 5 ∧ MG z6 ρ ∧ RR z6 1 (A 0) ∧ RR z6 4 (A 0) := by
    intro z x1 q hz
    have h1' : RR (sb [1, 4] z) 0 (A 0) := fun j hj => by show z 1 j = _; rw [hz.2.2.2.2.1]; exact h1 j hj
    obtain ⟨z5, b1, b2, b3⟩ := m_copies (by omega : 38 < N) h1'
    refine ⟨up2 (pb [1, 4] z5 z) 0 10 0, fun x2 => ?_, rfl, hz.2.1, hz.2.2.2.2.2.2.2.1, ⟨hz.2.2.1, hz.2.2.2.1, hz.2.2.2.2.2.1, hz.2.2.2.2.2.2.2.2.1, hz.2.2.2.2.2.2.2.2.2⟩, b2, b3⟩
    unfold fX3_hoist_L46
    rw [b1, by_s, lt_s_]
  unfold fX3_hoist S_hoist
  rw [lt_s_]
  by_cases c : nL A = 0
  · rw [if_pos c]
    obtain ⟨N', hN'⟩ : ∃ m, N = m + 1 := ⟨N - 1, by omega⟩
    have e : fX3_hoist_L10 N N (up2 ρ 0 10 0) 0 (-9) = fX3_hoist_L10 N (N' + 1) (up2 ρ 0 10 0) 0 (-9) := by rw [← hN']
    rw [e, fX3_hoist_L10]
    have hl : lx A 0 = -1 := lx_out (by omega)
    have p0 : ¬ pP A 0 0 = true := fun q => by have := pP_0.mp q; rw [hl] at this; revert this; decide
    have nf : ¬ full A 0 := fun q => p0 (full_all q 0 (Nat.zero_le _))
    have es : stG A 0 (sl A 0) 0 = 0 := stG_stop (sl A 0) 0 (fun t _ h => by omega) p0 (Nat.le_refl _) (by unfold sl; omega)
    rcases m_rS (by omega : 300 < N) hR hB hA (by omega) with ⟨hf, _⟩ | ⟨_, z2, g1, g2⟩
    · exact absurd hf nf
    · rw [es] at g2
      rw [g1, bx_s, if_pos rfl, lt_s_]
      unfold fX3_hoist_L26
      rw [lt_s_, g2.1, if_neg (by decide)]
      obtain ⟨z6, e1, e2, e3, e4, e5, e6, e7⟩ := mid z2 (0 + 1) _ g2
      rw [e1, m_tellE (by omega) (by decide)]
      exact ⟨_, rfl, fin _ rfl e5 e6⟩
  · rw [if_neg c]
    obtain ⟨z', x1', e1, ⟨q, e2⟩, e3⟩ := m_brkL (by omega : 300 < N) hA hB 96 N 0 0 _ (by omega) (by omega) (by omega) hR
    rw [show fX3_hoist_L10 N N (up2 ρ 0 10 0) 0 (-9) = _ from e1]
    obtain ⟨z6, f1, f2, f3, f4, f5, f6, f7⟩ := mid z' x1' q e2
    rw [f1]
    cases hp : pz A 96 0 with
    | some p =>
      have hle := pz_le 96 0 p (by omega) hp
      show MO (fX3_hoist_L62 N N z6 x1' (-1000 - nI p)) (-1000 - nI p, z0 A)
      rw [m_tellE (by omega) (n1_9 p (by omega))]
      exact ⟨_, rfl, fin _ rfl f5 f6⟩
    | none =>
      show MO (fX3_hoist_L62 N N z6 x1' (-9)) ((rn A 96 0 (A 0) 0).1, match (rn A 96 0 (A 0) 0).2 with | none => z0 A | some r => wR (z0 A) r)
      have hB6 : LB z6 A := ⟨f3.trans hB.1, by rw [f4]; exact hB.2⟩
      obtain ⟨z7, g1, g2, g3, g4⟩ := m_tellL (by omega : 300 < N) hA hB6 f7 x1' 96 N 0 0 z6 (A 0) (by omega) (by omega) (by omega) hp f2 rfl rfl rfl ⟨rfl, rfl, rfl, rfl, rfl⟩ f6 hA.1
      rw [g1]
      have hG : MG z7 ρ := by
        obtain ⟨a1, a2, a3, a4, a5⟩ := g3
        obtain ⟨b1, b2, b3, b4, b5⟩ := f5
        exact ⟨a1.trans b1, a2.trans b2, a3.trans b3, a4.trans b4, a5.trans b5⟩
      cases hr : (rn A 96 0 (A 0) 0).2 with
      | none =>
        rw [hr] at g4
        exact ⟨z7, rfl, fin z7 g2 hG g4⟩
      | some r =>
        rw [hr] at g4
        refine ⟨z7, ?_, ?_⟩
        · show some (x1', z7) = some ((rn A 96 0 (A 0) 0).1, z7)
          rw [e3 hp, rn_cnt 96 0 (A 0) 0 r hr]
        · obtain ⟨b1, b2, b3, b4, b5⟩ := hG
          exact ⟨g4, fun q j hj => by rw [b3]; exact h2 q j hj, b1.trans h3, g2, fun k hk => absurd hk (Nat.not_lt_zero k), b2.trans h6, fun k hk => by rw [b4]; exact h7 k hk, fun k hk => by rw [b5]; exact h8 k hk⟩
theorem c_hoist {N : Nat} (hN : 600 < N) {σ A : St} (h : CS σ A) (hA : AI A) : CO (fX2_hoist N σ) (S_hoist A) := by
  have h96 := hA.2.2.2.1.1
  obtain ⟨h1, h2, h3, h4, h5, h6, h7, h8⟩ := id h
  obtain ⟨z1, e1, e2, e3⟩ := x0_copy (N := N) (by omega) (σ := sb [7, 8, 9, 10, 11, 12, 1, 2, 3, 4, 5, 6] σ) (r := A 0) h1
  unfold fX2_hoist
  rw [e1, by_s]
  have hT : TE (sb [0, 1] (sb [19, 20, 7, 8, 9, 10, 11, 12] (pb [7, 8, 9, 10, 11, 12, 1, 2, 3, 4, 5, 6] z1 σ))) A := ⟨h4.trans hA.2.2.2.1.2, h5⟩
  have hH : HR (sb [2, 3, 4, 5, 6, 7] (sb [19, 20, 7, 8, 9, 10, 11, 12] (pb [7, 8, 9, 10, 11, 12, 1, 2, 3, 4, 5, 6] z1 σ))) (A 0) := e2
  -- the end with a fault: now as it was
  have fin : ∀ (y : St), CS (pb [19, 20] (up2 (sb [19, 20] (pb [19, 20, 7, 8, 9, 10, 11, 12] y (pb [7, 8, 9, 10, 11, 12, 1, 2, 3, 4, 5, 6] z1 σ))) 0 0 0) (pb [19, 20, 7, 8, 9, 10, 11, 12] y (pb [7, 8, 9, 10, 11, 12, 1, 2, 3, 4, 5, 6] z1 σ))) (z0 A) := fun y => ⟨e3, h2, h3, rfl, fun k hk => absurd hk (Nat.not_lt_zero k), h6, h7, h8⟩
  unfold fX1_tell fX1_forget S_hoist fX1_brokenAt
  by_cases c : nL A = 0
  · rw [if_pos c]
    obtain ⟨N', hN'⟩ : ∃ m, N = m + 1 := ⟨N - 1, by omega⟩
    have e : fX1_brokenAt_L4 N (sb [0, 1] (sb [19, 20, 7, 8, 9, 10, 11, 12] (pb [7, 8, 9, 10, 11, 12, 1, 2, 3, 4, 5, 6] z1 σ))) N 0 0 = some 0 := by
      have q : fX1_brokenAt_L4 N (sb [0, 1] (sb [19, 20, 7, 8, 9, 10, 11, 12] (pb [7, 8, 9, 10, 11, 12, 1, 2, 3, 4, 5, 6] z1 σ))) (N' + 1) 0 0 = some 0 := by
        rw [fX1_brokenAt_L4, hT.1, c, if_pos (by decide), if_pos (by decide)]
        rfl
      rw [← hN'] at q
      exact q
    rw [e, bo_s, if_neg (by decide), bx_s, lt_s_, by_s, if_pos (by decide)]
    exact ⟨_, rfl, fin _⟩
  · rw [if_neg c]
    have eb := x1_brkL (N := N) hT hA (by omega) 96 N 0 (by omega) (by omega) (by omega)
    rw [show fX1_brokenAt_L4 N (sb [0, 1] (sb [19, 20, 7, 8, 9, 10, 11, 12] (pb [7, 8, 9, 10, 11, 12, 1, 2, 3, 4, 5, 6] z1 σ))) N 0 0 = _ from eb, bo_s]
    cases hp : pz A 96 0 with
    | some p =>
      have hle := pz_le 96 0 p (by omega) hp
      show CO (bx (if nI p < 0 then _ else some (-1000 - nI p, _)) _ _) (-1000 - nI p, z0 A)
      rw [if_neg (nI_pos (by omega)), bx_s, lt_s_, by_s, if_pos (n1_0 p (by omega))]
      exact ⟨_, rfl, fin _⟩
    | none =>
      show CO (bx (if (-1 : Int32) < 0 then _ else _) _ _) ((rn A 96 0 (A 0) 0).1, match (rn A 96 0 (A 0) 0).2 with | none => z0 A | some r => wR (z0 A) r)
      rw [if_pos (by decide)]
      obtain ⟨y, g1, g2⟩ := x1_tellL (by omega : 300 < N) hA 96 N 0 0 _ (A 0) (by omega) (by omega) (by omega) hp hT hH hA.1
      rw [show fX1_tell_L23 N N (sb [19, 20, 7, 8, 9, 10, 11, 12] (pb [7, 8, 9, 10, 11, 12, 1, 2, 3, 4, 5, 6] z1 σ)) 0 0 0 = _ from g1, bx_s, lt_s_, by_s]
      cases hr : (rn A 96 0 (A 0) 0).2 with
      | none =>
        rw [if_pos (rn_no 96 0 (A 0) 0 h96 hr)]
        exact ⟨_, rfl, fin _⟩
      | some r =>
        have hc : 0 < cS A 96 0 := by
          show 0 < (if 0 < nL A then 1 + cS A 95 (0 + sl A 0) else 0)
          rw [if_pos (by omega)]; omega
        have hc2 := cS_le (A := A) 96 0
        rw [if_neg (by rw [rn_cnt 96 0 (A 0) 0 r hr]; exact nI_nle (by omega) (by omega))]
        obtain ⟨z9, b1, b2, b3⟩ := x0_copy (N := N) (by omega) (σ := sb [1, 2, 3, 4, 5, 6, 7, 8, 9, 10, 11, 12] (pb [19, 20] (up2 (sb [19, 20] (pb [19, 20, 7, 8, 9, 10, 11, 12] y (pb [7, 8, 9, 10, 11, 12, 1, 2, 3, 4, 5, 6] z1 σ))) 0 0 0) (pb [19, 20, 7, 8, 9, 10, 11, 12] y (pb [7, 8, 9, 10, 11, 12, 1, 2, 3, 4, 5, 6] z1 σ)))) (r := r) (g2 r hr)
        rw [b1, by_s]
        exact ⟨_, rfl, ⟨b2, h2, h3, rfl, fun k hk => absurd hk (Nat.not_lt_zero k), h6, h7, h8⟩⟩
