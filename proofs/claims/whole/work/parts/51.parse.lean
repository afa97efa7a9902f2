/-! a statement that is whole: its digits -/
theorem dg_n {x : Int32} (h : dg x) : ∃ d, d ≤ 9 ∧ x - 48 = nI d := by
  obtain ⟨j, hj, rfl⟩ := nI_of2 (x := x) (M := 57) (n := 57) (by decide) (by have := h.1; grind) h.2
  have h48 : 48 ≤ j := by
    rcases Nat.lt_or_ge j 48 with q | q
    · exact absurd h.1 (nI_ge (b := 48) q (by omega))
    · exact q
  exact ⟨j - 48, by omega, by rw [show (48 : Int32) = nI 48 from rfl, pk_sub h48]⟩
theorem ok_dg {c : Int32} {j : Nat} {x : Int32} (h : okB c j x = true) (h0 : 0 < j) (h1 : j < ln c) (h2 : ¬ (j = 1 ∧ c = 116)) : dg x := by
  unfold okB at h
  rw [if_neg (by omega), if_neg (by omega), if_neg h2] at h
  exact of_decide_eq_true h
theorem full_hd {A : St} {i : Nat} (h : full A i) : hd (lx A i) := by
  have := full_all h 0 (Nat.zero_le _)
  unfold pP okB at this
  rw [if_pos rfl] at this
  exact of_decide_eq_true this
theorem full_dg {A : St} {i : Nat} (h : full A i) {j : Nat} (h0 : 0 < j) (h1 : j < ln (lx A i)) (h2 : ¬ (j = 1 ∧ lx A i = 116)) : ∃ d, d ≤ 9 ∧ dj A (i + j) = nI d := dg_n (ok_dg (full_all h j (by omega)) h0 h1 h2)
theorem full_num {A : St} {i : Nat} (h : full A i) {j : Nat} (h0 : 0 < j) (h1 : j + 1 < ln (lx A i)) (h2 : ¬ lx A i = 116) : ∃ v, v ≤ 99 ∧ nj A (i + j) = nI v := by
  obtain ⟨a, ha, e1⟩ := full_dg h h0 (by omega) (fun q => h2 q.2)
  obtain ⟨b, hb, e2⟩ := full_dg h (j := j + 1) (by omega) h1 (fun q => h2 q.2)
  refine ⟨10 * a + b, by omega, ?_⟩
  unfold nj
  rw [e1, show i + j + 1 = i + (j + 1) by omega, e2, show (10 : Int32) = nI 10 from rfl, pk_mul, nI_add]
theorem full_kd {A : St} (hI : AI A) {i : Nat} (h : full A i) (h2 : lx A i = 116) : 0 ≤ kdV (lx A (i + 1)) ∧ kdV (lx A (i + 1)) ≤ 5 := by
  have h1 := full_all h 1 (by have := ln_34 (lx A i); omega)
  obtain ⟨b, hb, e1, _⟩ := lx_in hI (pP_in h1)
  unfold pP okB at h1
  rw [if_neg (by omega), if_neg (by have := ln_34 (lx A i); omega), if_pos ⟨rfl, h2⟩] at h1
  have h3 := of_decide_eq_true h1
  refine ⟨h3, ?_⟩
  rw [e1] at h3 ⊢
  exact ((kd_ix b hb).2 h3).2
theorem Inv_add {r : Nat → Int32} (hI : Inv 999 r) (h8 : ¬ r 0 = 8) {k f w : Int32} (hk : 0 ≤ k ∧ k ≤ 5) (hf : 0 ≤ f ∧ f ≤ 9) (hw : 0 ≤ w ∧ w ≤ 2) : cnt r < 8 ∧ Inv 999 (addR r k f w) := by
  obtain ⟨h2, h3⟩ := hI.n
  have hlt : cnt r < 8 := by
    rcases Nat.lt_or_ge (cnt r) 8 with q | q
    · exact q
    · exact absurd (by rw [h3, show cnt r = 8 by omega]; rfl) h8
  obtain ⟨a1, a2, a3, a4, a5, a6, a7⟩ := id hI
  have e : ∀ i, 0 < i → i < 6 → addR r k f w i = r i := fun i h0 hi => by unfold addR; rw [if_neg (by omega), if_neg (by omega), if_neg (by omega), if_neg (by omega), if_neg (by omega)]
  refine ⟨hlt, ⟨cnt r + 1, by omega, ?_⟩, ?_⟩
  · show r 0 + 1 = _
    rw [h3, nI_1]
  · rw [e 1 (by omega) (by omega), e 2 (by omega) (by omega), e 3 (by omega) (by omega), e 4 (by omega) (by omega), e 5 (by omega) (by omega)]
    refine ⟨a2, a3, a4, a5, a6, fun u hu => ?_⟩
    obtain ⟨g1, g2, g3, g4⟩ := a7 u hu
    have hp : 0 ≤ r 1 := by obtain ⟨g5, g6⟩ := g4; grind
    unfold addR
    by_cases q : u = cnt r
    · subst q
      rw [if_neg (by omega), if_pos rfl, if_neg (by omega), if_neg (by omega), if_pos rfl, if_neg (by omega), if_neg (by omega), if_neg (by omega), if_pos rfl, if_neg (by omega), if_neg (by omega), if_neg (by omega), if_neg (by omega), if_pos rfl]
      exact ⟨hk, hf, hw, hp, Int32.le_refl _⟩
    · rw [if_neg (by omega), if_neg (by omega), if_neg (by omega), if_neg (by omega), if_neg (by omega), if_neg (by omega), if_neg (by omega), if_neg (by omega), if_neg (by omega), if_neg (by omega), if_neg (by omega), if_neg (by omega), if_neg (by omega), if_neg (by omega), if_neg (by omega), if_neg (by omega), if_neg (by omega), if_neg (by omega), if_neg (by omega), if_neg (by omega)]
      exact ⟨g1, g2, g3, g4⟩
theorem ex_Inv {A : St} (hA : AI A) {i : Nat} (h : full A i) {r r' : Nat → Int32} (hI : Inv 999 r) (he : ex A i r = some r') : Inv 999 r' := by
  have hh := full_hd h
  unfold ex at he
  by_cases c1 : lx A i = 98
  · rw [if_pos c1] at he
    by_cases q1 : 0 ≤ dj A (i + 1) ∧ dj A (i + 1) ≤ 1
    · rw [if_pos q1] at he
      by_cases q2 : nj A (i + 2) ≤ 50
      · rw [if_pos q2] at he
        cases he
        obtain ⟨s, hs, e1⟩ := side_of q1
        obtain ⟨v, hv, e2⟩ := full_num h (j := 2) (by omega) (by rw [c1]; decide) (by rw [c1]; decide)
        rw [e1, nI_clamp (by omega)]
        exact Inv_set hI (by omega) (by omega) (fun q => by omega) (fun q => by omega) (fun _ => ⟨by rw [e2]; exact nI_pos' (by omega), q2⟩)
      · rw [if_neg q2] at he; cases he
    · rw [if_neg q1] at he; cases he
  · rw [if_neg c1] at he
    by_cases c2 : lx A i = 100
    · rw [if_pos c2] at he
      by_cases q1 : 0 ≤ nj A (i + 1) ∧ nj A (i + 1) ≤ 20
      · rw [if_pos q1] at he
        cases he
        refine Inv_set hI (by omega) (by omega) (fun q => by omega) (fun _ => ?_) (fun q => by omega)
        obtain ⟨p, hp, e1⟩ := floor_of q1
        obtain ⟨w, hw, hw2⟩ := hI.2.2.2.1
        obtain ⟨u, hu, hu2⟩ := door_x hw hp
        exact ⟨u, hu, by rw [e1, hw2, hu2]⟩
      · rw [if_neg q1] at he; cases he
    · rw [if_neg c2] at he
      by_cases c3 : lx A i = 102
      · rw [if_pos c3] at he
        by_cases q1 : 0 ≤ nj A (i + 1) ∧ nj A (i + 1) ≤ 20
        · rw [if_pos q1] at he
          cases he
          exact Inv_set hI (by omega) (by omega) (fun _ => q1) (fun q => by omega) (fun q => by omega)
        · rw [if_neg q1] at he; cases he
      · rw [if_neg c3] at he
        by_cases c4 : lx A i = 104
        · rw [if_pos c4] at he
          by_cases q1 : 0 ≤ dj A (i + 1) ∧ dj A (i + 1) < r 0
          · rw [if_pos q1] at he
            by_cases q2 : dj A (i + 2) ≤ 2
            · rw [if_pos q2] at he
              cases he
              obtain ⟨t, ht, ht8, e1⟩ := thing_of hI q1.1 q1.2
              obtain ⟨d, hd, e2⟩ := full_dg h (j := 2) (by omega) (by rw [c4]; decide) (by rw [c4]; decide)
              rw [e1, nI_clamp (by omega)]
              exact Inv_hang hI ht8 (by rw [e2]; exact nI_pos' (by omega)) q2
            · rw [if_neg q2] at he; cases he
          · rw [if_neg q1] at he; cases he
        · rw [if_neg c4] at he
          by_cases c5 : lx A i = 110
          · rw [if_pos c5] at he
            by_cases q1 : 1 ≤ nj A (i + 1) ∧ nj A (i + 1) ≤ 60
            · rw [if_pos q1] at he
              by_cases q2 : r 1 + nj A (i + 1) ≤ 999
              · rw [if_pos q2] at he
                cases he
                obtain ⟨k, h1, hk, e1⟩ := days_of (p := nj A (i + 1)) (by have := q1.1; grind) (by have := q1.2; grind)
                rw [e1] at q2
                rw [e1, nI_clamp (by omega)]
                obtain ⟨g1, ⟨d, hd, hd2⟩, g3⟩ := adv_Inv hI (k := k) (by omega)
                refine ⟨g1, ⟨d, ?_, hd2⟩, g3⟩
                have e : r 1 + nI k = nI d := hd2
                rw [e] at q2
                rcases Nat.lt_or_ge 999 d with q | q
                · exact absurd q2 (nI_ge (a := 999) q (by omega))
                · exact q
              · rw [if_neg q2] at he; cases he
            · rw [if_neg q1] at he; cases he
          · rw [if_neg c5] at he
            have c6 : lx A i = 116 := by unfold hd at hh; grind
            by_cases q1 : dj A (i + 3) ≤ 2
            · rw [if_pos q1] at he
              by_cases q2 : r 0 = 8
              · rw [if_pos q2] at he; cases he
              · rw [if_neg q2] at he
                cases he
                obtain ⟨d, hd, e2⟩ := full_dg h (j := 2) (by omega) (by rw [c6]; decide) (fun q => by omega)
                obtain ⟨d3, hd3, e3⟩ := full_dg h (j := 3) (by omega) (by rw [c6]; decide) (fun q => by omega)
                exact (Inv_add hI q2 (full_kd hA h c6) ⟨by rw [e2]; exact nI_pos' (by omega), by rw [e2]; exact nI_le (b := 9) hd (by omega)⟩ ⟨by rw [e3]; exact nI_pos' (by omega), q1⟩).2
            · rw [if_neg q1] at he; cases he
/-! what a statement does: the class -/
def TSo (A : St) (o : Option (Int32 × St)) (e : Option (Nat → Int32)) : Prop := ∃ v z, o = some (v, z) ∧ ((e = none ∧ v = 0) ∨ ∃ r, e = some r ∧ v = 1 ∧ HR (sb [2, 3, 4, 5, 6, 7] z) r ∧ TE (sb [0, 1] z) A)
theorem TS_n {A z : St} : TSo A (some (0, z)) none := ⟨0, z, rfl, Or.inl ⟨rfl, rfl⟩⟩
theorem TS_y {A z τ : St} {r : Nat → Int32} (h : HR z r) (hT : TE (sb [0, 1] τ) A) : TSo A (some (1, pb [2, 3, 4, 5, 6, 7] z τ)) (some r) := ⟨1, _, rfl, Or.inr ⟨r, rfl, rfl, h, hT⟩⟩
theorem x1_dj {N : Nat} {τ A : St} (h : TE τ A) (hI : AI A) {k : Nat} (hk : k < nL A) : fX1_digit N τ (nI k) = some (dj A k) := by
  unfold fX1_digit dj
  rw [x1_let h hI hk, bo_s]
theorem x1_nj {N : Nat} {τ A : St} (h : TE τ A) (hI : AI A) {k : Nat} (hk : k + 1 < nL A) : fX1_number N τ (nI k) = some (nj A k) := by
  unfold fX1_number nj
  rw [x1_dj h hI (by omega), bo_s, nI_1, x1_dj h hI hk, bo_s]
theorem x0_addT (N : Nat) {τ : St} {r : Nat → Int32} (h : HR τ r) (hI : Inv 999 r) (h8 : ¬ r 0 = 8) {k f w : Int32} (hk : 0 ≤ k ∧ k ≤ 5) (hf : 0 ≤ f ∧ f ≤ 9) (hw : 0 ≤ w ∧ w ≤ 2) : ∃ z, fX0_add N τ k f w = some (1, z) ∧ HR z (addR r k f w) := by
  obtain ⟨h2, h3⟩ := hI.n
  obtain ⟨hlt, _⟩ := Inv_add hI h8 hk hf hw
  have e0 : τ 0 3 = r 0 := h.2.2.2.1
  have hp : fX0_isPlace N w = some 1 := by unfold fX0_isPlace; rw [if_neg (by grind), if_neg (by grind)]; rfl
  unfold fX0_add
  rw [e0, if_neg (show ¬ (8 : Int32) ≤ r 0 by rw [h3]; exact nI_ge (b := 8) hlt (by omega)), hp, bo_s, if_neg (by decide), lt_s_, lt_s_]
  have h1 := x0_cntR h (r 0 + 1)
  have ec : cnt (fun i => if i = 0 then r 0 + 1 else r i) = cnt r + 1 := by
    show (r 0 + 1).toNatClampNeg = cnt r + 1
    rw [h3, nI_1, nI_clamp (by omega)]
  have hI1 : Inv 999 (fun i => if i = 0 then r 0 + 1 else r i) := by
    obtain ⟨a1, a2, a3, a4, a5, a6, a7⟩ := id hI
    refine ⟨⟨cnt r + 1, by omega, ?_⟩, a2, a3, a4, a5, a6, fun u hu => ?_⟩
    · show r 0 + 1 = _
      rw [h3, nI_1]
    · have := a7 u hu
      simp only [if_neg (show ¬ 4 * u + 6 = 0 by omega), if_neg (show ¬ 4 * u + 7 = 0 by omega), if_neg (show ¬ 4 * u + 8 = 0 by omega), if_neg (show ¬ 4 * u + 9 = 0 by omega), if_neg (show ¬ (1 : Nat) = 0 by omega)]
      exact this
  have ei : up2 τ 0 3 (r 0 + 1) 0 3 - 1 = nI (cnt r) := by
    show r 0 + 1 - 1 = _
    rw [h3, nI_1, nI_pred, ← h3]
  obtain ⟨z1, f1, f2⟩ := x0_become N h1 hI1 (t := cnt r) (by omega) k f
  rw [ei, f1, by_s]
  have hI2 := Inv_bec hI1 (t := cnt r) hlt hk.1 hk.2 hf.1 hf.2
  have ej : z1 0 3 - 1 = nI (cnt r) := by
    have : z1 0 3 = r 0 + 1 := by
      have := f2.2.2.2.1
      rw [this]
      unfold becR
      rw [if_neg (by omega), if_neg (by omega)]
      rfl
    rw [this, h3, nI_1, nI_pred, ← h3]
  have ec2 : cnt (becR (fun i => if i = 0 then r 0 + 1 else r i) (cnt r) k f) = cnt r + 1 := by
    rw [← ec]
    unfold cnt becR
    rw [if_neg (by omega), if_neg (by omega)]
  obtain ⟨z2, g1, g2⟩ := x0_put N f2 hI2 (t := cnt r) (by omega) hw.1 hw.2
  rw [ej, g1, bx_s, zr1, bo_s]
  refine ⟨z2, rfl, g2.c (fun j hj => ?_)⟩
  unfold hangR becR addR
  by_cases q0 : j = 0
  · subst q0
    rw [if_neg (by omega), if_neg (by omega), if_neg (by omega), if_neg (by omega), if_pos rfl]
    rfl
  · rw [if_neg q0]
    by_cases q9 : j = 4 * cnt r + 9
    · rw [if_pos q9, if_neg (by omega), if_neg (by omega), if_neg (by omega), if_pos q9, if_neg (by omega), if_neg (by omega)]
      rfl
    · rw [if_neg q9]
      by_cases q8 : j = 4 * cnt r + 8
      · rw [if_pos q8, if_neg (by omega), if_neg (by omega), if_pos q8]
      · rw [if_neg q8]
        by_cases q7 : j = 4 * cnt r + 7
        · rw [if_pos q7, if_neg (by omega), if_pos q7]
        · rw [if_neg q7]
          by_cases q6 : j = 4 * cnt r + 6
          · rw [if_pos q6, if_pos q6]
          · rw [if_neg q6]
            show (if j = 0 then r 0 + 1 else r j) = _
            rw [if_neg q0, if_neg q6, if_neg q7, if_neg q8, if_neg q9]
theorem x0_addF (N : Nat) {τ : St} {r : Nat → Int32} (h : HR τ r) (hI : Inv 999 r) {k f w : Int32} (hc : ¬ (w ≤ 2) ∨ r 0 = 8) : fX0_add N τ k f w = some (0, τ) := by
  unfold fX0_add
  have e0 : τ 0 3 = r 0 := h.2.2.2.1
  rw [e0, zr0, bo_s]
  by_cases q : r 0 = 8
  · rw [if_pos (by rw [q]; exact Int32.le_refl _)]
  · have hw : ¬ w ≤ 2 := hc.resolve_right q
    by_cases q2 : (8 : Int32) ≤ r 0
    · rw [if_pos q2]
    · rw [if_neg q2, i_place, bo_s, if_neg (show ¬ (0 ≤ w ∧ w ≤ 2) from fun p => hw p.2), if_pos rfl]
theorem x1_tS {N : Nat} (hN : 300 < N) {z A : St} (hA : AI A) {i : Nat} (h : full A i) {r : Nat → Int32} (hI : Inv 999 r) (hH : HR (sb [2, 3, 4, 5, 6, 7] z) r) (hT : TE (sb [0, 1] z) A) : TSo A (fX1_tellStatement N z (nI i)) (ex A i r) := by
  have hl := ln_34 (lx A i)
  have hin := full_in h
  have hs : sl A i = ln (lx A i) + 1 := rfl
  have hh := full_hd h
  have e1 : nI i + 1 = nI (i + 1) := nI_1 i
  have e2 : nI i + 2 = nI (i + 2) := nI_add i 2
  have e3 : nI i + 3 = nI (i + 3) := nI_add i 3
  unfold fX1_tellStatement ex
  rw [x1_let hT hA (by omega), bo_s, e1, e2, e3]
  by_cases c1 : lx A i = 98
  · have hl4 : ln (lx A i) = 4 := by rw [c1]; rfl
    rw [if_pos c1, if_pos c1, x1_dj hT hA (by omega), bo_s, x1_nj hT hA (by omega), bo_s]
    obtain ⟨v, hv, ev⟩ := full_num h (j := 2) (by omega) (by omega) (by rw [c1]; decide)
    by_cases q1 : 0 ≤ dj A (i + 1) ∧ dj A (i + 1) ≤ 1
    · rw [if_pos q1]
      by_cases q2 : nj A (i + 2) ≤ 50
      · rw [if_pos q2]
        obtain ⟨s, hs, es⟩ := side_of q1
        obtain ⟨z2, g1, g2⟩ := x0_load N hH hs (v := nj A (i + 2)) (by rw [ev]; exact nI_pos' (by omega)) q2
        rw [es, g1, bx_s, zr1, bo_s, nI_clamp (by omega)]
        exact TS_y g2 hT
      · rw [if_neg q2]
        unfold fX0_load
        rw [i_side, bo_s, if_pos q1, if_neg (by decide), if_neg (by rw [ev]; exact nI_pos (by omega)), if_neg q2, zr0, bo_s, bx_s, zr0, bo_s]
        exact TS_n
    · rw [if_neg q1]
      unfold fX0_load
      rw [i_side, bo_s, if_neg q1, if_pos rfl, zr0, bo_s, bx_s, zr0, bo_s]
      exact TS_n
  · rw [if_neg c1, if_neg c1]
    by_cases c2 : lx A i = 100
    · rw [if_pos c2, if_pos c2, x1_nj hT hA (by omega), bo_s]
      unfold fX0_switchDoor
      rw [i_floor, bo_s]
      by_cases q1 : 0 ≤ nj A (i + 1) ∧ nj A (i + 1) ≤ 20
      · rw [if_pos q1, if_pos q1, if_neg (by decide), lt_s_, lt_s_, zr1, bo_s, bx_s, zr1, bo_s]
        have := x0_doorR hH (r 3 ^^^ ((1 : Int32) <<< (nj A (i + 1) &&& 31)))
        rw [show sb [2, 3, 4, 5, 6, 7] z 0 1 = r 3 from hH.2.1]
        exact TS_y this hT
      · rw [if_neg q1, if_neg q1, if_pos rfl, zr0, bo_s, bx_s, zr0, bo_s]
        exact TS_n
    · rw [if_neg c2, if_neg c2]
      by_cases c3 : lx A i = 102
      · rw [if_pos c3, if_pos c3, x1_nj hT hA (by omega), bo_s]
        unfold fX0_lift
        rw [i_floor, bo_s]
        by_cases q1 : 0 ≤ nj A (i + 1) ∧ nj A (i + 1) ≤ 20
        · rw [if_pos q1, if_pos q1, if_neg (by decide), lt_s_, zr1, bo_s, bx_s, zr1, bo_s]
          exact TS_y (x0_liftR hH _) hT
        · rw [if_neg q1, if_neg q1, if_pos rfl, zr0, bo_s, bx_s, zr0, bo_s]
          exact TS_n
      · rw [if_neg c3, if_neg c3]
        by_cases c4 : lx A i = 104
        · rw [if_pos c4, if_pos c4, x1_dj hT hA (by omega), bo_s, x1_dj hT hA (by omega), bo_s]
          obtain ⟨d, hd, ed⟩ := full_dg h (j := 2) (by omega) (by rw [c4]; decide) (by rw [c4]; decide)
          by_cases q1 : 0 ≤ dj A (i + 1) ∧ dj A (i + 1) < r 0
          · rw [if_pos q1]
            obtain ⟨t, ht, ht8, et⟩ := thing_of hI q1.1 q1.2
            by_cases q2 : dj A (i + 2) ≤ 2
            · rw [if_pos q2]
              obtain ⟨z2, g1, g2⟩ := x0_put N hH hI ht (w := dj A (i + 2)) (by rw [ed]; exact nI_pos' (by omega)) q2
              rw [et, g1, bx_s, zr1, bo_s, nI_clamp (by omega)]
              exact TS_y g2 hT
            · rw [if_neg q2]
              unfold fX0_put
              rw [x0_has N hH hI, bo_s, if_pos q1, if_neg (by decide), i_place, bo_s, if_neg (show ¬ (0 ≤ dj A (i + 2) ∧ dj A (i + 2) ≤ 2) from fun p => q2 p.2), if_pos rfl, zr0, bo_s, bx_s, zr0, bo_s]
              exact TS_n
          · rw [if_neg q1]
            unfold fX0_put
            rw [x0_has N hH hI, bo_s, if_neg q1, if_pos rfl, zr0, bo_s, bx_s, zr0, bo_s]
            exact TS_n
        · rw [if_neg c4, if_neg c4]
          by_cases c5 : lx A i = 110
          · rw [if_pos c5, if_pos c5, x1_nj hT hA (by omega), bo_s]
            by_cases q1 : 1 ≤ nj A (i + 1) ∧ nj A (i + 1) ≤ 60
            · rw [if_pos q1]
              obtain ⟨k, h1, hk, e1⟩ := days_of (p := nj A (i + 1)) (by have := q1.1; grind) (by have := q1.2; grind)
              by_cases q2 : r 1 + nj A (i + 1) ≤ 999
              · rw [if_pos q2]
                rw [e1] at q2
                obtain ⟨z2, g1, g2⟩ := x0_pass (by omega : 100 < N) hH hI h1 hk q2
                rw [e1, g1, bx_s, zr1, bo_s, nI_clamp (by omega)]
                exact TS_y g2 hT
              · rw [if_neg q2]
                unfold fX0_pass fX0_hasDays
                rw [show sb [2, 3, 4, 5, 6, 7] z 0 2 = r 1 from hH.2.2.1, if_neg (by have := q1.1; grind), if_neg (by have := q1.2; grind), if_pos (by grind), zr0, bo_s, if_pos rfl, bo_s, bx_s, zr0, bo_s]
                exact TS_n
            · rw [if_neg q1]
              unfold fX0_pass fX0_hasDays
              have : (if nj A (i + 1) < 1 then zr 0 else if 60 < nj A (i + 1) then zr 0 else if 999 < sb [2, 3, 4, 5, 6, 7] z 0 2 + nj A (i + 1) then zr 0 else zr 1) = some 0 := by
                by_cases q3 : nj A (i + 1) < 1
                · rw [if_pos q3]; rfl
                · rw [if_neg q3, if_pos (by grind)]; rfl
              rw [this, bo_s, if_pos rfl, zr0, bo_s, bx_s, zr0, bo_s]
              exact TS_n
          · have c6 : lx A i = 116 := by unfold hd at hh; grind
            have hl4 : ln (lx A i) = 4 := by rw [c6]; rfl
            rw [if_neg c5, if_neg c5, if_pos c6, x1_let hT hA (by omega), bo_s, lt_s_, x1_dj hT hA (by omega), bo_s, x1_dj hT hA (by omega), bo_s]
            have hk := full_kd hA h c6
            obtain ⟨b, hb, eb, _⟩ := lx_in hA (show i + 1 < nL A by omega)
            have ek : ixS 1 ((lx A (i + 1)).toUInt32 % 65536).toInt32 = kdV (lx A (i + 1)) := by
              rw [eb] at hk ⊢
              exact ((kd_ix b hb).2 hk.1).1
            rw [ek]
            obtain ⟨d, hd, e2'⟩ := full_dg h (j := 2) (by omega) (by omega) (fun q => by omega)
            obtain ⟨d3, hd3, e3'⟩ := full_dg h (j := 3) (by omega) (by omega) (fun q => by omega)
            by_cases q1 : dj A (i + 3) ≤ 2
            · rw [if_pos q1]
              by_cases q2 : r 0 = 8
              · rw [if_pos q2, x0_addF N hH hI (Or.inr q2), bx_s, zr0, bo_s]
                exact TS_n
              · rw [if_neg q2]
                obtain ⟨z2, g1, g2⟩ := x0_addT N hH hI q2 hk (f := dj A (i + 2)) ⟨by rw [e2']; exact nI_pos' (by omega), by rw [e2']; exact nI_le (b := 9) hd (by omega)⟩ (w := dj A (i + 3)) ⟨by rw [e3']; exact nI_pos' (by omega), q1⟩
                rw [g1, bx_s, zr1, bo_s]
                exact TS_y g2 hT
            · rw [if_neg q1, x0_addF N hH hI (Or.inl q1), bx_s, zr0, bo_s]
              exact TS_n
/-! the telling's second walk: the class -/
theorem x1_tellI {N : Nat} {z A : St} (hT : TE (sb [0, 1] z) A) (hA : AI A) {i : Nat} (h : full A i) (x3 : Int32) : ∀ (k m j : Nat), j + k = ln (lx A i) → fX1_tell_L23 N (m + k + 1) z x3 (nI i) (nI (i + j)) = bx (fX1_tellStatement N z (nI i)) (fun uq => uq) (fun v5 z4 => if v5 = 0 then some (((-2000 : Int32) - nI i), z4) else fX1_tell_L23 N m z4 (x3 + 1) (nI (i + sl A i)) (nI (i + sl A i))) := by
  have h96 := hA.2.2.2.1.1
  have hin := full_in h
  have hs : sl A i = ln (lx A i) + 1 := rfl
  intro k
  induction k with
  | zero =>
    intro m j hj
    have h59 := ok_end (c := lx A i) (x := lx A (i + j)) (by have := full_all h (ln (lx A i)) (Nat.le_refl _); rw [show j = ln (lx A i) by omega]; exact this)
    rw [fX1_tell_L23, show z 0 0 = nI (nL A) from hT.1, if_neg (nI_ge (by omega) (by omega)), x1_let hT hA (by omega), bo_s, if_pos h59]
    unfold fX1_tell_L69
    simp only [lt_s_, nI_1]
    rw [show i + j + 1 = i + sl A i by omega]
  | succ k ih =>
    intro m j hj
    have hP := full_all h j (by omega)
    rw [show m + (k + 1) + 1 = (m + k + 1) + 1 by omega, fX1_tell_L23, show z 0 0 = nI (nL A) from hT.1, if_neg (nI_ge (by omega) (by omega)), x1_let hT hA (by omega), bo_s, if_neg (ok_59 hP (by omega))]
    unfold fX1_tell_L69
    simp only [lt_s_, nI_1]
    exact ih m (j + 1) (by omega)
theorem x1_tellL {N : Nat} (hN : 300 < N) {A : St} (hA : AI A) : ∀ (k n i m : Nat) (z : St) (r : Nat → Int32), i ≤ nL A → nL A ≤ i + k → 5 * k < n → pz A k i = none → TE (sb [0, 1] z) A → HR (sb [2, 3, 4, 5, 6, 7] z) r → Inv 999 r → ∃ z', fX1_tell_L23 N n z (nI m) (nI i) (nI i) = some ((rn A k i r m).1, z') ∧ ∀ r', (rn A k i r m).2 = some r' → HR (sb [2, 3, 4, 5, 6, 7] z') r' := by
  have h96 := hA.2.2.2.1.1
  have ebase : ∀ n i m (z : St) (r : Nat → Int32), ¬ i < nL A → i ≤ nL A → 0 < n → TE (sb [0, 1] z) A → HR (sb [2, 3, 4, 5, 6, 7] z) r → ∃ z', fX1_tell_L23 N n z (nI m) (nI i) (nI i) = some (nI m, z') ∧ ∀ r', some r = some r' → HR (sb [2, 3, 4, 5, 6, 7] z') r' := by
    intro n i m z r h1 h2 hn hT hH
    obtain ⟨n, rfl⟩ : ∃ m, n = m + 1 := ⟨n - 1, by omega⟩
    rw [fX1_tell_L23, show z 0 0 = nI (nL A) from hT.1, if_pos (nI_le (by omega) (by omega))]
    exact ⟨z, rfl, fun r' e => by cases e; exact hH⟩
  intro k
  induction k with
  | zero =>
    intro n i m z r h1 h2 hn hp hT hH hI
    exact ebase n i m z r (by omega) h1 (by omega) hT hH
  | succ k ih =>
    intro n i m z r h1 h2 hn hp hT hH hI
    by_cases c : i < nL A
    · obtain ⟨hf, hp2⟩ := pz_full hp c
      have hl := ln_34 (lx A i)
      have hs : sl A i = ln (lx A i) + 1 := rfl
      obtain ⟨q, rfl⟩ : ∃ m, n = m + ln (lx A i) + 1 := ⟨n - ln (lx A i) - 1, by omega⟩
      have e : fX1_tell_L23 N (q + ln (lx A i) + 1) z (nI m) (nI i) (nI i) = bx (fX1_tellStatement N z (nI i)) (fun uq => uq) (fun v5 z4 => if v5 = 0 then some (((-2000 : Int32) - nI i), z4) else fX1_tell_L23 N q z4 (nI m + 1) (nI (i + sl A i)) (nI (i + sl A i))) := x1_tellI (N := N) hT hA hf (nI m) (ln (lx A i)) q 0 (by omega)
      rw [e]
      obtain ⟨v, z2, f1, f2⟩ := x1_tS hN hA hf hI hH hT
      rw [f1, bx_s]
      unfold rn
      rw [if_pos c]
      rcases f2 with ⟨g1, rfl⟩ | ⟨r2, g1, rfl, g3, g4⟩
      · rw [if_pos rfl, g1]
        exact ⟨z2, rfl, fun r' e => by cases e⟩
      · rw [if_neg (by decide), g1, nI_1]
        exact ih q (i + sl A i) (m + 1) z2 r2 (full_in hf) (by omega) (by omega) hp2 g4 g3 (ex_Inv hA hf hI g1)
    · unfold rn
      rw [if_neg c]
      exact ebase n i m z r c h1 (by omega) hT hH
