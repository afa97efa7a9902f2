/-! the law: its loop, its start -/
theorem c5_le {L i : Nat} (hL : L < 2 ^ 30) (hi : i < 2 ^ 30) (h : ¬ nI L - 5 < nI i) : i + 5 ≤ L := by
  have h1 : (nI L - nI 5).toInt = (L : Int) - 5 := pk_sub_toInt hL (by omega)
  have h2 : (nI i).toInt = (i : Int) := nI_toInt (by omega)
  rcases Nat.lt_or_ge L (i + 5) with q | q
  · exact absurd (Int32.lt_iff_toInt_lt.mpr (by show (nI L - nI 5).toInt < _; rw [h1, h2]; omega)) h
  · exact q
theorem andx : ∀ j, j < 64 → (nI j).toInt = (j : Int) := fun j hj => nI_toInt (by omega)
set_option maxHeartbeats 8000000 in
set_option maxRecDepth 100000 in
theorem law_loop {p : Program} {l : Launch} {e : Env} {s : State} {m : MethodId} {below : List Frame} {meth : Method} {c : Code} {b L : Nat} {xs : Nat → Int32} (hL : L ≤ 2560) (C0 : lw_At p s m meth c b L xs) {D : va_G} {cI cJ : ClassId} {ad av a b' : Nat → Nat} (hX9 : SX ad av (fun q : Nat => s.heap.size ≤ q) s s.heap) (hK : va_K D vwCl (tyIJ cI cJ) s) {N : Nat} (hN : 600 < N) : ∀ (n i : Nat), i ≤ L → L < i + n → ∀ (τ : LSt) (σ ρ A : St) (H : Heap) (locs : List Loc), LI D cI cJ a b' s τ σ ρ A H locs → ∀ (ls : Array Slot), lv_has ls 4 [(0, .ref b), (1, .ref (a 0)), (2, .ref (b' 0)), (3, .int (nI i))] → W p l e room_1 s m #[Value.ref b] below meth c H locs 38 707 (lw_Z below #[Value.ref b] s) (F0 m 18 ls []) := by
  obtain ⟨hx, hb, hr, hml, hown, hts0, hX, hbl, hlocks, hgv⟩ := id C0
  have hb9 : c.code = cL_law := hb
  have hbA : ¬ (fun q : Nat => s.heap.size ≤ q) b := Nat.not_le.mpr hbl
  intro n
  induction n with
  | zero => intro i h1 h2; omega
  | succ n ih =>
    intro i h1 h2 τ σ ρ A H locs hI ls hl
    have hS := hI.2.2.1
    refine lv_iload_n hx hb dL_law_18 rfl (lv_at hl 3 rfl) ?_
    refine lv_aload_n hx hb dL_law_19 rfl (lv_at hl 0 rfl) ?_
    refine va_slen hx hb hX hbl hbA hS dL_law_20 ?_
    refine lv_iconst (v := (5 : Int32)) hx hb dL_law_21 (by decide) ?_
    refine lv_isub hx hb dL_law_22 ?_
    refine lv_icmp_gt (tgt := 1188) hx hb dL_law_23 (by decide) (fun q => ?_) (fun q => ?_)
    · refine lv_iconst (v := (1 : Int32)) hx hb dL_law_1188 (by decide) ?_
      refine va_forget (fun q hq => hS.2.2 q hq) ?_
      exact lw_ret hx hb hr hlocks dL_law_1189
    · have h5 : i + 5 ≤ L := c5_le (by omega) (by omega) q
      have hin : ∀ k, k < 5 → vp_in (nI i + nI k) L := fun k hk => by rw [nI_add]; exact vp_in_nI (by omega) (by omega)
      have hin0 : vp_in (nI i) L := vp_in_nI (by omega) (by omega)
      have fin : ∀ (τ : LSt) (σ ρ A : St) (H : Heap) (locs : List Loc), LI D cI cJ a b' s τ σ ρ A H locs → W p l e room_1 s m #[Value.ref b] below meth c H locs 38 707 (lw_Z below #[Value.ref b] s) (F0 m 1182 ls []) := by
        intro τ σ ρ A H locs hI
        refine lv_iinc (v := nI (i + 5)) (lv' := [(3, .int (nI (i + 5))), (0, .ref b), (1, .ref (a 0)), (2, .ref (b' 0))]) hx hb dL_law_1182 hl (k := 3) rfl (nI_add i 5) (by decide) rfl (fun ls hl => ?_)
        refine lv_goto (tgt := 18) hx hb dL_law_1185 (by decide) ?_
        exact ih (i + 5) h5 (by omega) τ σ ρ A H locs hI ls (lv_sub hl [1, 2, 3, 0] rfl)
      refine lv_aload_n hx hb dL_law_26 rfl (lv_at hl 0 rfl) ?_
      refine lv_iload_n hx hb dL_law_27 rfl (lv_at hl 3 rfl) ?_
      refine va_sld hx hb hX hbl hbA hS hin0 dL_law_28 ?_
      refine lv_bipush (v := (63 : Int32)) hx hb dL_law_29 (by decide) ?_
      refine lv_iand hx hb dL_law_31 ?_
      obtain ⟨j, hj, ej⟩ := pk_andE (xs (nI i).toNatClampNeg) (m := 63) 6 (by decide)
      rw [ej]
      have hj2 : j < 64 := hj
      by_cases hc : j < 36
      · rcases (show j = 0 ∨ j = 1 ∨ j = 2 ∨ j = 3 ∨ j = 4 ∨ j = 5 ∨ j = 6 ∨ j = 7 ∨ j = 8 ∨ j = 9 ∨ j = 10 ∨ j = 11 ∨ j = 12 ∨ j = 13 ∨ j = 14 ∨ j = 15 ∨ j = 16 ∨ j = 17 ∨ j = 18 ∨ j = 19 ∨ j = 20 ∨ j = 21 ∨ j = 22 ∨ j = 23 ∨ j = 24 ∨ j = 25 ∨ j = 26 ∨ j = 27 ∨ j = 28 ∨ j = 29 ∨ j = 30 ∨ j = 31 ∨ j = 32 ∨ j = 33 ∨ j = 34 ∨ j = 35 by omega) with rfl | rfl | rfl | rfl | rfl | rfl | rfl | rfl | rfl | rfl | rfl | rfl | rfl | rfl | rfl | rfl | rfl | rfl | rfl | rfl | rfl | rfl | rfl | rfl | rfl | rfl | rfl | rfl | rfl | rfl | rfl | rfl | rfl | rfl | rfl | rfl
        · exact lv_tableIn (tgt := 192) hx hb dL_law_32 (by decide) (by decide) rfl (by decide) (lawc_0 C0 hX9 hK hN (hin 1 (by omega)) (hin 2 (by omega)) (hin 3 (by omega)) (hin 4 (by omega)) hl hI fin)
        · exact lv_tableIn (tgt := 215) hx hb dL_law_32 (by decide) (by decide) rfl (by decide) (lawc_1 C0 hX9 hK hN (hin 1 (by omega)) (hin 2 (by omega)) (hin 3 (by omega)) (hin 4 (by omega)) hl hI fin)
        · exact lv_tableIn (tgt := 228) hx hb dL_law_32 (by decide) (by decide) rfl (by decide) (lawc_2 C0 hX9 hK hN (hin 1 (by omega)) (hin 2 (by omega)) (hin 3 (by omega)) (hin 4 (by omega)) hl hI fin)
        · exact lv_tableIn (tgt := 261) hx hb dL_law_32 (by decide) (by decide) rfl (by decide) (lawc_3 C0 hX9 hK hN (hin 1 (by omega)) (hin 2 (by omega)) (hin 3 (by omega)) (hin 4 (by omega)) hl hI fin)
        · exact lv_tableIn (tgt := 294) hx hb dL_law_32 (by decide) (by decide) rfl (by decide) (lawc_4 C0 hX9 hK hN (hin 1 (by omega)) (hin 2 (by omega)) (hin 3 (by omega)) (hin 4 (by omega)) hl hI fin)
        · exact lv_tableIn (tgt := 327) hx hb dL_law_32 (by decide) (by decide) rfl (by decide) (lawc_5 C0 hX9 hK hN (hin 1 (by omega)) (hin 2 (by omega)) (hin 3 (by omega)) (hin 4 (by omega)) hl hI fin)
        · exact lv_tableIn (tgt := 360) hx hb dL_law_32 (by decide) (by decide) rfl (by decide) (lawc_6 C0 hX9 hK hN (hin 1 (by omega)) (hin 2 (by omega)) (hin 3 (by omega)) (hin 4 (by omega)) hl hI fin)
        · exact lv_tableIn (tgt := 383) hx hb dL_law_32 (by decide) (by decide) rfl (by decide) (lawc_7 C0 hX9 hK hN (hin 1 (by omega)) (hin 2 (by omega)) (hin 3 (by omega)) (hin 4 (by omega)) hl hI fin)
        · exact lv_tableIn (tgt := 406) hx hb dL_law_32 (by decide) (by decide) rfl (by decide) (lawc_8 C0 hX9 hK hN (hin 1 (by omega)) (hin 2 (by omega)) (hin 3 (by omega)) (hin 4 (by omega)) hl hI fin)
        · exact lv_tableIn (tgt := 449) hx hb dL_law_32 (by decide) (by decide) rfl (by decide) (lawc_9 C0 hX9 hK hN (hin 1 (by omega)) (hin 2 (by omega)) (hin 3 (by omega)) (hin 4 (by omega)) hl hI fin)
        · exact lv_tableIn (tgt := 472) hx hb dL_law_32 (by decide) (by decide) rfl (by decide) (lawc_10 C0 hX9 hK hN (hin 1 (by omega)) (hin 2 (by omega)) (hin 3 (by omega)) (hin 4 (by omega)) hl hI fin)
        · exact lv_tableIn (tgt := 505) hx hb dL_law_32 (by decide) (by decide) rfl (by decide) (lawc_11 C0 hX9 hK hN (hin 1 (by omega)) (hin 2 (by omega)) (hin 3 (by omega)) (hin 4 (by omega)) hl hI fin)
        · exact lv_tableIn (tgt := 538) hx hb dL_law_32 (by decide) (by decide) rfl (by decide) (lawc_12 C0 hX9 hK hN (hin 1 (by omega)) (hin 2 (by omega)) (hin 3 (by omega)) (hin 4 (by omega)) hl hI fin)
        · exact lv_tableIn (tgt := 561) hx hb dL_law_32 (by decide) (by decide) rfl (by decide) (lawc_13 C0 hX9 hK hN (hin 1 (by omega)) (hin 2 (by omega)) (hin 3 (by omega)) (hin 4 (by omega)) hl hI fin)
        · exact lv_tableIn (tgt := 574) hx hb dL_law_32 (by decide) (by decide) rfl (by decide) (lawc_14 C0 hX9 hK hN (hin 1 (by omega)) (hin 2 (by omega)) (hin 3 (by omega)) (hin 4 (by omega)) hl hI fin)
        · exact lv_tableIn (tgt := 607) hx hb dL_law_32 (by decide) (by decide) rfl (by decide) (lawc_15 C0 hX9 hK hN (hin 1 (by omega)) (hin 2 (by omega)) (hin 3 (by omega)) (hin 4 (by omega)) hl hI fin)
        · exact lv_tableIn (tgt := 630) hx hb dL_law_32 (by decide) (by decide) rfl (by decide) (lawc_16 C0 hX9 hK hN (hin 1 (by omega)) (hin 2 (by omega)) (hin 3 (by omega)) (hin 4 (by omega)) hl hI fin)
        · exact lv_tableIn (tgt := 653) hx hb dL_law_32 (by decide) (by decide) rfl (by decide) (lawc_17 C0 hX9 hK hN (hin 1 (by omega)) (hin 2 (by omega)) (hin 3 (by omega)) (hin 4 (by omega)) hl hI fin)
        · exact lv_tableIn (tgt := 676) hx hb dL_law_32 (by decide) (by decide) rfl (by decide) (lawc_18 C0 hX9 hK hN (hin 1 (by omega)) (hin 2 (by omega)) (hin 3 (by omega)) (hin 4 (by omega)) hl hI fin)
        · exact lv_tableIn (tgt := 699) hx hb dL_law_32 (by decide) (by decide) rfl (by decide) (lawc_19 C0 hX9 hK hN (hin 1 (by omega)) (hin 2 (by omega)) (hin 3 (by omega)) (hin 4 (by omega)) hl hI fin)
        · exact lv_tableIn (tgt := 722) hx hb dL_law_32 (by decide) (by decide) rfl (by decide) (lawc_20 C0 hX9 hK hN (hin 1 (by omega)) (hin 2 (by omega)) (hin 3 (by omega)) (hin 4 (by omega)) hl hI fin)
        · exact lv_tableIn (tgt := 735) hx hb dL_law_32 (by decide) (by decide) rfl (by decide) (lawc_21 C0 hX9 hK hN (hin 1 (by omega)) (hin 2 (by omega)) (hin 3 (by omega)) (hin 4 (by omega)) hl hI fin)
        · exact lv_tableIn (tgt := 778) hx hb dL_law_32 (by decide) (by decide) rfl (by decide) (lawc_22 C0 hX9 hK hN (hin 1 (by omega)) (hin 2 (by omega)) (hin 3 (by omega)) (hin 4 (by omega)) hl hI fin)
        · exact lv_tableIn (tgt := 821) hx hb dL_law_32 (by decide) (by decide) rfl (by decide) (lawc_23 C0 hX9 hK hN (hin 1 (by omega)) (hin 2 (by omega)) (hin 3 (by omega)) (hin 4 (by omega)) hl hI fin)
        · exact lv_tableIn (tgt := 864) hx hb dL_law_32 (by decide) (by decide) rfl (by decide) (lawc_24 C0 hX9 hK hN (hin 1 (by omega)) (hin 2 (by omega)) (hin 3 (by omega)) (hin 4 (by omega)) hl hI fin)
        · exact lv_tableIn (tgt := 887) hx hb dL_law_32 (by decide) (by decide) rfl (by decide) (lawc_25 C0 hX9 hK hN (hin 1 (by omega)) (hin 2 (by omega)) (hin 3 (by omega)) (hin 4 (by omega)) hl hI fin)
        · exact lv_tableIn (tgt := 930) hx hb dL_law_32 (by decide) (by decide) rfl (by decide) (lawc_26 C0 hX9 hK hN (hin 1 (by omega)) (hin 2 (by omega)) (hin 3 (by omega)) (hin 4 (by omega)) hl hI fin)
        · exact lv_tableIn (tgt := 984) hx hb dL_law_32 (by decide) (by decide) rfl (by decide) (lawc_27 C0 hX9 hK hN (hin 1 (by omega)) (hin 2 (by omega)) (hin 3 (by omega)) (hin 4 (by omega)) hl hI fin)
        · exact lv_tableIn (tgt := 1008) hx hb dL_law_32 (by decide) (by decide) rfl (by decide) (lawc_28 C0 hX9 hK hN (hin 1 (by omega)) (hin 2 (by omega)) (hin 3 (by omega)) (hin 4 (by omega)) hl hI fin)
        · exact lv_tableIn (tgt := 1041) hx hb dL_law_32 (by decide) (by decide) rfl (by decide) (lawc_29 C0 hX9 hK hN (hin 1 (by omega)) (hin 2 (by omega)) (hin 3 (by omega)) (hin 4 (by omega)) hl hI fin)
        · exact lv_tableIn (tgt := 1064) hx hb dL_law_32 (by decide) (by decide) rfl (by decide) (lawc_30 C0 hX9 hK hN (hin 1 (by omega)) (hin 2 (by omega)) (hin 3 (by omega)) (hin 4 (by omega)) hl hI fin)
        · exact lv_tableIn (tgt := 1077) hx hb dL_law_32 (by decide) (by decide) rfl (by decide) (lawc_31 C0 hX9 hK hN (hin 1 (by omega)) (hin 2 (by omega)) (hin 3 (by omega)) (hin 4 (by omega)) hl hI fin)
        · exact lv_tableIn (tgt := 1090) hx hb dL_law_32 (by decide) (by decide) rfl (by decide) (lawc_32 C0 hX9 hK hN (hin 1 (by omega)) (hin 2 (by omega)) (hin 3 (by omega)) (hin 4 (by omega)) hl hI fin)
        · exact lv_tableIn (tgt := 1133) hx hb dL_law_32 (by decide) (by decide) rfl (by decide) (lawc_33 C0 hX9 hK hN (hin 1 (by omega)) (hin 2 (by omega)) (hin 3 (by omega)) (hin 4 (by omega)) hl hI fin)
        · exact lv_tableIn (tgt := 1146) hx hb dL_law_32 (by decide) (by decide) rfl (by decide) (lawc_34 C0 hX9 hK hN (hin 1 (by omega)) (hin 2 (by omega)) (hin 3 (by omega)) (hin 4 (by omega)) hl hI fin)
        · exact lv_tableIn (tgt := 1159) hx hb dL_law_32 (by decide) (by decide) rfl (by decide) (lawc_35 C0 hX9 hK hN (hin 1 (by omega)) (hin 2 (by omega)) (hin 3 (by omega)) (hin 4 (by omega)) hl hI fin)
      · refine lv_tableOut (tgt := 1182) hx hb dL_law_32 (Or.inr ?_) (by decide) (fin τ σ ρ A H locs hI)
        rw [andx j hj2]; omega
