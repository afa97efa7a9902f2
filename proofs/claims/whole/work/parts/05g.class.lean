def fX2_mean_L21 (N : Nat)  (z : St) (x1 : Int32) : Option (Int64 × St) :=
    bo (fX0_weighsAll N (sb [1, 2, 3, 4, 5, 6] z)) (fun v1 =>
    bo (fX2_partOf N (v1.toInt64) ((z 1 3).toInt64) x1) (fun v2 =>
    some (v2, z)))
def fX2_mean (N : Nat) (σ : St) (p1 : Int32) : Option (Int64 × St) :=
    if p1 = 0 then fX2_mean_L21 N  σ p1
    else if p1 = (1 : Int32) then fX2_mean_L21 N  σ p1
    else bx (fX2_refuse N σ (-2 : Int32)) (fun uq => uq) (fun v4 z3 =>
    some (((4000000000000000000 : Int64) - (v4.toInt64)), z3))
abbrev rmX2_mean : Room := { frames := 3, cells := 0, slots := 0, locals := 71 }
theorem qX2_mean : yX2_mean.cls = RX2 ∧ yX2_mean.cls ≠ "java/lang/invoke/MethodHandle" ∧ yX2_mean.cls ≠ "java/lang/invoke/VarHandle" ∧ (parseMethodDescriptor yX2_mean.desc).map (fun d => d.parameters.length) = some 1 := by decide +kernel
set_option maxHeartbeats 400000 in
set_option maxRecDepth 100000 in
theorem mX2_mean (l : Launch) (D : va_G) (cI cJ : ClassId) (a : Nat → Nat) (sz N : Nat) (τ : LSt) (σ : St) (p1 : Int32) (r : (Int64 × St)) (hf : fX2_mean N σ p1 = some r) : Met l yX2_mean wsX2_mean rmX2_mean (WPre ([.ref (a 0), .int p1] : List Value) sz D (tyIJ cI cJ) (wHA cI cJ a τ σ)) (WQl sz D (wHA cI cJ a τ σ) (wHA cI cJ a τ (r.2)) r.1) 0 0 (va_A (wHA cI cJ a τ σ) sz) := by
  refine W_start (cc := cX2_mean) (maxL := 2) (ret := (some .long)) (by decide) rfl (Nat.le_of_ble_eq_true rfl) (fun p e s m below meth c ls A hx hb hr hml hown hts hlk hP hK hS hA hD0 hAe hl => ?_)
  have hD : ∀ z, va_D A ((wHA cI cJ a τ) z) := fun z => hD0.ad rfl
  have hown : s.vm.findClass RX2 = some m.cls := hown
  have hl : lv_has ls 2 [(0, .ref (a 0)), (1, .int p1)] := hl
  have ln1 := hts (Cond.fieldLink RX2 10 "HoistsAreShared" "now" "LHoistsAreShared$Hoist;") (List.mem_of_getElem? (i := 2) rfl)
  have inX2 : ∀ w ∈ u_ws RX2 TX2 14, w ∈ wsX2_mean := fun _ h => List.mem_cons_of_mem _ (List.mem_append_left _ (List.mem_append_right _ h))
  have ln3 := hts (Cond.fieldLink RX2 196 "HoistsAreShared$Hoist" "things" "I") (List.mem_of_getElem? (i := 3) rfl)
  have inX0 : ∀ w ∈ u_ws RX0 TX0 9, w ∈ wsX2_mean := fun _ h => List.mem_cons_of_mem _ (List.mem_append_right _ h)
  have ln5 := hts (Cond.constantLong RX2 238 (4000000000000000000)) (List.mem_of_getElem? (i := 1) rfl)
  have b21 : ∀  (z : St) (x1 : Int32) (H : Heap) (locs : List Loc) (ls : Array Slot), va_P D vwCl (wHA cI cJ a τ z) H → va_S A s.heap H locs → lv_has ls 2 [(0, .ref (a 0)), (1, .int x1)] → fX2_mean_L21 N z x1 = some r → W p l e rmX2_mean s m ([.ref (a 0), .int p1] : List Value).toArray below meth c H locs 0 0 (MQ below (WQl sz D (wHA cI cJ a τ σ) (wHA cI cJ a τ (r.2)) r.1) ([.ref (a 0), .int p1] : List Value).toArray s 0 0 A) (F0 m 21 ls []) := by
    intro  z x1 H locs ls hP hS hl hf
    unfold fX2_mean_L21 at hf
    refine lv_aload_n hx hb dX2_mean_21 rfl (lv_at hl 0 rfl) ?_
    refine va_get (D := D) (ci := 2) (v := .ref (a 1)) (C := RX2) (T := TX2) (N := 14) hx hb hts inX2 hown hK hP 0 rfl rfl 0 (by decide) ln1 (fun _ h9 => h9) rfl dX2_mean_22 ?_
    refine c_callV (As := []) (rest := []) ⟨hx, hb, hml, hown, hts⟩ hf (fun vq hq => mX0_weighsAll l D cI cJ (sb [1, 2, 3, 4, 5, 6] a) H.size N (sb [1, 2, 3, 4, 5, 6] z) vq hq) (cwV 0 hts gX2_mean_X0_weighsAll rfl rfl rfl qX0_weighsAll ⟨Nat.le_of_ble_eq_true rfl, Nat.le_of_ble_eq_true rfl⟩) hK hP hS hA (cmr_HA_Ho_1_2_3_4_5_6 D cI cJ a τ z hP) 0 rfl rfl rfl rfl hl.1 rfl (Nat.le_of_ble_eq_true rfl) dX2_mean_25 ⟨Nat.le_refl _, Nat.le_refl _⟩ (fun v1 H locs hP hS hf => ?_)
    refine lv_i2l hx hb dX2_mean_28 rfl ?_
    refine lv_aload_n hx hb dX2_mean_29 rfl (lv_at hl 0 rfl) ?_
    refine va_get (D := D) (ci := 2) (v := .ref (a 1)) (C := RX2) (T := TX2) (N := 14) hx hb hts inX2 hown hK hP 0 rfl rfl 0 (by decide) ln1 (fun _ h9 => h9) rfl dX2_mean_30 ?_
    refine va_get (D := D) (ci := 0) (v := .int (z 1 3)) (C := RX0) (T := TX0) (N := 9) hx hb hts inX0 hown hK hP 1 rfl rfl 3 (by decide) ln3 (fun _ h9 => h9) rfl dX2_mean_33 ?_
    refine lv_i2l hx hb dX2_mean_36 rfl ?_
    refine lv_iload_n hx hb dX2_mean_37 rfl (lv_at hl 1 rfl) ?_
    refine c_callSL (As := [.long (v1.toInt64), .long ((z 1 3).toInt64), .int x1]) (rest := []) ⟨hx, hb, hml, hown, hts⟩ hf (fun vq hq => mX2_partOf l D cI cJ H.size N (v1.toInt64) ((z 1 3).toInt64) x1 vq hq) (va_cwS 3 hts gX2_mean_X2_partOf rfl rfl rfl qX2_partOf ⟨Nat.le_of_ble_eq_true rfl, Nat.le_of_ble_eq_true rfl⟩) hK hP hS hA va_P_nil rfl hl.1 rfl (Nat.le_of_ble_eq_true rfl) dX2_mean_38 ⟨Nat.le_refl _, Nat.le_refl _⟩ (fun v2 H locs hP hS hf => ?_)
    exact W_lret (wHA cI cJ a τ) hx hb hr hlk hP hS hAe hf dX2_mean_41
  unfold fX2_mean at hf
  refine lv_iload_n hx hb dX2_mean_0 rfl (lv_at hl 1 rfl) ?_
  refine k_if_eq (tgt := 21) hx hb dX2_mean_1 (by decide) hf (fun hf => ?_) (fun hf => ?_)
  · exact b21  σ p1 s.heap [] ls hP hS (lv_sub hl [0, 1] rfl) hf
  · refine lv_iload_n hx hb dX2_mean_4 rfl (lv_at hl 1 rfl) ?_
    refine lv_iconst (v := (1 : Int32)) hx hb dX2_mean_5 (by decide) ?_
    refine k_icmp_eq (tgt := 21) hx hb dX2_mean_6 (by decide) hf (fun hf => ?_) (fun hf => ?_)
    · exact b21  σ p1 s.heap [] ls hP hS (lv_sub hl [0, 1] rfl) hf
    · refine lv_ldc2 (v := (4000000000000000000 : Int64)) hx hb hown ln5 dX2_mean_9 ?_
      refine lv_aload_n hx hb dX2_mean_12 rfl (lv_at hl 0 rfl) ?_
      refine lv_bipush (v := (-2 : Int32)) hx hb dX2_mean_13 (by decide) ?_
      refine d_callV (As := [.int (-2 : Int32)]) (rest := [.long (4000000000000000000 : Int64)]) (w := (wHA cI cJ a τ)) (wc := (wHA cI cJ a τ)) (put := (fun uq => uq)) (σ := σ) (τ0 := σ) ⟨hx, hb, hml, hown, hts⟩ hf (fun vq zq hq => mX2_refuse l D cI cJ a s.heap.size N τ σ (-2 : Int32) (vq, zq) hq) (cwV 1 hts gX2_mean_X2_refuse rfl rfl rfl qX2_refuse ⟨Nat.le_of_ble_eq_true rfl, Nat.le_of_ble_eq_true rfl⟩) hK hP hD hS hA ⟨hP, hD _, fun _ _ _ h => h⟩ 2 rfl rfl rfl rfl hl.1 rfl (Nat.le_of_ble_eq_true rfl) dX2_mean_15 ⟨Nat.le_refl _, Nat.le_refl _⟩ (fun v4 z3 H locs hP hS hf => ?_)
      refine lv_i2l hx hb dX2_mean_18 rfl ?_
      refine lv_lsub hx hb dX2_mean_19 ?_
      exact W_lret (wHA cI cJ a τ) hx hb hr hlk hP hS hAe hf dX2_mean_20
def fX2_isAsRowTells_L19 (N : Nat)  : Nat → St → Int32 → Option (Int32 × St)
  | 0, _, _ => none
  | n + 1, z, x1 =>
    if (z 0 12) ≤ x1 then bo (zr (1 : Int32)) (fun v => some (v, z))
    else if (16 : Int32) ≤ x1 then bo (zr (1 : Int32)) (fun v => some (v, z))
    else if (71 : Int32) ≤ x1 then bo (zr (1 : Int32)) (fun v => some (v, z))
    else bo (rdI z 27 16 x1) (fun v2 =>
    bo (rdI z 21 71 x1) (fun v3 =>
    if v2 = v3 then lt_ (x1 + (1 : Int32) : Int32) (fun v4 =>
    (fX2_isAsRowTells_L19 N n) z v4)
    else bo (zr (0 : Int32)) (fun v => some (v, z))))
def fX2_isAsRowTells (N : Nat) (σ : St)  : Option (Int32 × St) :=
    by_ (fX0_foresee N (sb [7, 8, 9, 10, 11, 12, 21] σ) ((σ 0 12) - (1 : Int32))) (fun uq => pb [7, 8, 9, 10, 11, 12, 21] uq σ) (fun z1 =>
    fX2_isAsRowTells_L19 N  N z1 (0 : Int32))
abbrev rmX2_isAsRowTells : Room := { frames := 4, cells := 0, slots := 0, locals := 96 }
theorem qX2_isAsRowTells : yX2_isAsRowTells.cls = RX2 ∧ yX2_isAsRowTells.cls ≠ "java/lang/invoke/MethodHandle" ∧ yX2_isAsRowTells.cls ≠ "java/lang/invoke/VarHandle" ∧ (parseMethodDescriptor yX2_isAsRowTells.desc).map (fun d => d.parameters.length) = some 0 := by decide +kernel
set_option maxHeartbeats 400000 in
set_option maxRecDepth 100000 in
theorem mX2_isAsRowTells (l : Launch) (D : va_G) (cI cJ : ClassId) (a : Nat → Nat) (sz N : Nat) (τ : LSt) (σ : St)  (r : (Int32 × St)) (hf : fX2_isAsRowTells N σ = some r) : Met l yX2_isAsRowTells wsX2_isAsRowTells rmX2_isAsRowTells (WPre ([.ref (a 0)] : List Value) sz D (tyIJ cI cJ) (wHA cI cJ a τ σ)) (WQi sz D (wHA cI cJ a τ σ) (wHA cI cJ a τ (r.2)) r.1) 0 0 (va_A (wHA cI cJ a τ σ) sz) := by
  refine W_start (cc := cX2_isAsRowTells) (maxL := 2) (ret := (some .boolean)) (by decide) rfl (Nat.le_of_ble_eq_true rfl) (fun p e s m below meth c ls A hx hb hr hml hown hts hlk hP hK hS hA hD0 hAe hl => ?_)
  have hD : ∀ z, va_D A ((wHA cI cJ a τ) z) := fun z => hD0.ad rfl
  have hown : s.vm.findClass RX2 = some m.cls := hown
  have hl : lv_has ls 2 [(0, .ref (a 0))] := hl
  have ln1 := hts (Cond.fieldLink RX2 16 "HoistsAreShared" "mind" "LHoistsAreShared$Hoist;") (List.mem_of_getElem? (i := 1) rfl)
  have inX2 : ∀ w ∈ u_ws RX2 TX2 14, w ∈ wsX2_isAsRowTells := fun _ h => List.mem_cons_of_mem _ (List.mem_append_left _ (List.mem_append_right _ h))
  have ln3 := hts (Cond.fieldLink RX2 29 "HoistsAreShared" "path" "[I") (List.mem_of_getElem? (i := 2) rfl)
  have ln4 := hts (Cond.fieldLink RX2 55 "HoistsAreShared" "rowLength" "I") (List.mem_of_getElem? (i := 3) rfl)
  have ln5 := hts (Cond.fieldLink RX2 49 "HoistsAreShared" "numbers" "[I") (List.mem_of_getElem? (i := 4) rfl)
  have b19 : ∀  (n : Nat) (z : St) (x1 : Int32) (H : Heap) (locs : List Loc) (ls : Array Slot), va_P D vwCl (wHA cI cJ a τ z) H → va_S A s.heap H locs → lv_has ls 2 [(0, .ref (a 0)), (1, .int x1)] → fX2_isAsRowTells_L19 N n z x1 = some r → W p l e rmX2_isAsRowTells s m ([.ref (a 0)] : List Value).toArray below meth c H locs 0 0 (MQ below (WQi sz D (wHA cI cJ a τ σ) (wHA cI cJ a τ (r.2)) r.1) ([.ref (a 0)] : List Value).toArray s 0 0 A) (F0 m 19 ls []) := by
    intro n
    induction n with
    | zero => intro z x1 H locs ls hP hS hl hf; cases hf
    | succ n ih =>
      intro z x1 H locs ls hP hS hl hf
      rw [fX2_isAsRowTells_L19] at hf
      refine lv_iload_n hx hb dX2_isAsRowTells_19 rfl (lv_at hl 1 rfl) ?_
      refine lv_aload_n hx hb dX2_isAsRowTells_20 rfl (lv_at hl 0 rfl) ?_
      refine va_get (D := D) (ci := 2) (v := .int (z 0 12)) (C := RX2) (T := TX2) (N := 14) hx hb hts inX2 hown hK hP 0 rfl rfl 12 (by decide) ln4 (fun _ h9 => h9) rfl dX2_isAsRowTells_21 ?_
      refine k_icmp_ge (tgt := 68) hx hb dX2_isAsRowTells_24 (by decide) hf (fun hf => ?_) (fun hf => ?_)
      · refine lv_iconst (v := (1 : Int32)) hx hb dX2_isAsRowTells_68 (by decide) ?_
        exact W_zret (wHA cI cJ a τ) hx hb hr hlk hP hS hAe hf dX2_isAsRowTells_69
      · refine lv_iload_n hx hb dX2_isAsRowTells_27 rfl (lv_at hl 1 rfl) ?_
        refine lv_aload_n hx hb dX2_isAsRowTells_28 rfl (lv_at hl 0 rfl) ?_
        refine va_get (D := D) (ci := 2) (v := .ref (a 27)) (C := RX2) (T := TX2) (N := 14) hx hb hts inX2 hown hK hP 0 rfl rfl 10 (by decide) ln5 (fun _ h9 => h9) rfl dX2_isAsRowTells_29 ?_
        refine va_alen (v := (16 : Int32)) hx hb hK hP 27 0 rfl rfl rfl dX2_isAsRowTells_32 ?_
        refine k_icmp_ge (tgt := 68) hx hb dX2_isAsRowTells_33 (by decide) hf (fun hf => ?_) (fun hf => ?_)
        · refine lv_iconst (v := (1 : Int32)) hx hb dX2_isAsRowTells_68 (by decide) ?_
          exact W_zret (wHA cI cJ a τ) hx hb hr hlk hP hS hAe hf dX2_isAsRowTells_69
        · refine lv_iload_n hx hb dX2_isAsRowTells_36 rfl (lv_at hl 1 rfl) ?_
          refine lv_aload_n hx hb dX2_isAsRowTells_37 rfl (lv_at hl 0 rfl) ?_
          refine va_get (D := D) (ci := 2) (v := .ref (a 21)) (C := RX2) (T := TX2) (N := 14) hx hb hts inX2 hown hK hP 0 rfl rfl 4 (by decide) ln3 (fun _ h9 => h9) rfl dX2_isAsRowTells_38 ?_
          refine va_alen (v := (71 : Int32)) hx hb hK hP 21 0 rfl rfl rfl dX2_isAsRowTells_41 ?_
          refine k_icmp_ge (tgt := 68) hx hb dX2_isAsRowTells_42 (by decide) hf (fun hf => ?_) (fun hf => ?_)
          · refine lv_iconst (v := (1 : Int32)) hx hb dX2_isAsRowTells_68 (by decide) ?_
            exact W_zret (wHA cI cJ a τ) hx hb hr hlk hP hS hAe hf dX2_isAsRowTells_69
          · refine lv_aload_n hx hb dX2_isAsRowTells_45 rfl (lv_at hl 0 rfl) ?_
            refine va_get (D := D) (ci := 2) (v := .ref (a 27)) (C := RX2) (T := TX2) (N := 14) hx hb hts inX2 hown hK hP 0 rfl rfl 10 (by decide) ln5 (fun _ h9 => h9) rfl dX2_isAsRowTells_46 ?_
            refine lv_iload_n hx hb dX2_isAsRowTells_49 rfl (lv_at hl 1 rfl) ?_
            refine k_iald hx hb hK hP 27 0 hf rfl rfl dX2_isAsRowTells_50 (fun v2 hf => ?_)
            refine lv_aload_n hx hb dX2_isAsRowTells_51 rfl (lv_at hl 0 rfl) ?_
            refine va_get (D := D) (ci := 2) (v := .ref (a 21)) (C := RX2) (T := TX2) (N := 14) hx hb hts inX2 hown hK hP 0 rfl rfl 4 (by decide) ln3 (fun _ h9 => h9) rfl dX2_isAsRowTells_52 ?_
            refine lv_iload_n hx hb dX2_isAsRowTells_55 rfl (lv_at hl 1 rfl) ?_
            refine k_iald hx hb hK hP 21 0 hf rfl rfl dX2_isAsRowTells_56 (fun v3 hf => ?_)
            refine k_icmp_eq (tgt := 62) hx hb dX2_isAsRowTells_57 (by decide) hf (fun hf => ?_) (fun hf => ?_)
            · refine k_iinc (d := (1 : Int32)) (lv' := fun v4 => [(1, .int v4), (0, .ref (a 0))]) hx hb dX2_isAsRowTells_62 hl (k := 1) rfl (by decide) (by decide) (fun _ => rfl) hf (fun v4 ls hl hf => ?_)
              refine lv_goto (tgt := 19) hx hb dX2_isAsRowTells_65 (by decide) ?_
              exact ih z v4 H locs ls hP hS (lv_sub hl [1, 0] rfl) hf
            · refine lv_iconst (v := (0 : Int32)) hx hb dX2_isAsRowTells_60 (by decide) ?_
              exact W_zret (wHA cI cJ a τ) hx hb hr hlk hP hS hAe hf dX2_isAsRowTells_61
  unfold fX2_isAsRowTells at hf
  refine lv_aload_n hx hb dX2_isAsRowTells_0 rfl (lv_at hl 0 rfl) ?_
  refine va_get (D := D) (ci := 2) (v := .ref (a 7)) (C := RX2) (T := TX2) (N := 14) hx hb hts inX2 hown hK hP 0 rfl rfl 1 (by decide) ln1 (fun _ h9 => h9) rfl dX2_isAsRowTells_1 ?_
  refine lv_aload_n hx hb dX2_isAsRowTells_4 rfl (lv_at hl 0 rfl) ?_
  refine va_get (D := D) (ci := 2) (v := .ref (a 21)) (C := RX2) (T := TX2) (N := 14) hx hb hts inX2 hown hK hP 0 rfl rfl 4 (by decide) ln3 (fun _ h9 => h9) rfl dX2_isAsRowTells_5 ?_
  refine lv_aload_n hx hb dX2_isAsRowTells_8 rfl (lv_at hl 0 rfl) ?_
  refine va_get (D := D) (ci := 2) (v := .int (σ 0 12)) (C := RX2) (T := TX2) (N := 14) hx hb hts inX2 hown hK hP 0 rfl rfl 12 (by decide) ln4 (fun _ h9 => h9) rfl dX2_isAsRowTells_9 ?_
  refine lv_iconst (v := (1 : Int32)) hx hb dX2_isAsRowTells_12 (by decide) ?_
  refine lv_isub hx hb dX2_isAsRowTells_13 ?_
  refine d_callVv (As := [.ref ((sb [7, 8, 9, 10, 11, 12, 21] a) 6), .int ((σ 0 12) - (1 : Int32))]) (rest := []) (w := (wHA cI cJ a τ)) (wc := (wHoP cI (sb [7, 8, 9, 10, 11, 12, 21] a))) (put := (fun uq => pb [7, 8, 9, 10, 11, 12, 21] uq σ)) (σ := σ) (τ0 := (sb [7, 8, 9, 10, 11, 12, 21] σ)) ⟨hx, hb, hml, hown, hts⟩ hf (fun zq hq => mX0_foresee l D cI cJ (sb [7, 8, 9, 10, 11, 12, 21] a) s.heap.size N (sb [7, 8, 9, 10, 11, 12, 21] σ) ((σ 0 12) - (1 : Int32)) zq hq) (cwV 2 hts gX2_isAsRowTells_X0_foresee rfl rfl rfl qX0_foresee ⟨Nat.le_of_ble_eq_true rfl, Nat.le_of_ble_eq_true rfl⟩) hK hP hD hS hA (cmb_HA_HoP_7_8_9_10_11_12_21 D cI cJ a τ σ hP (hD _)) 0 rfl rfl rfl rfl hl.1 rfl (Nat.le_of_ble_eq_true rfl) dX2_isAsRowTells_14 ⟨Nat.le_refl _, Nat.le_refl _⟩ (fun z1 H locs hP hS hf => ?_)
  refine lv_iconst (v := (0 : Int32)) hx hb dX2_isAsRowTells_17 (by decide) ?_
  refine lv_istore_n (lv' := [(1, .int (0 : Int32)), (0, .ref (a 0))]) hx hb dX2_isAsRowTells_18 rfl hl (by decide) rfl (fun ls hl => ?_)
  exact b19  N z1 (0 : Int32) H locs ls hP hS (lv_sub hl [1, 0] rfl) hf
def fX2_figuresByRow_L51 (N : Nat) (k15 : St → Int32 → Int32 → Int32 → Option (Int32 × St)) (z : St) (x1 : Int32) (x2 : Int32) (x3 : Int32) : Option (Int32 × St) :=
    lt_ (x3 + (1 : Int32) : Int32) (fun v6 =>
    k15 z x1 x2 v6)
def fX2_figuresByRow_L15 (N : Nat)  : Nat → St → Int32 → Int32 → Int32 → Option (Int32 × St)
  | 0, _, _, _, _ => none
  | n + 1, z, x1, x2, x3 =>
    if (9 : Int32) < x3 then some (x2, z)
    else bo (fX0_kindOf N (sb [1, 2, 3, 4, 5, 6] z) x1) (fun v2 =>
    by_ (fX0_become N (sb [7, 8, 9, 10, 11, 12] z) x1 v2 x3) (fun uq => pb [7, 8, 9, 10, 11, 12] uq z) (fun z3 =>
    bx (fX2_isAsRowTells N z3) (fun uq => uq) (fun v5 z4 =>
    if v5 = 0 then fX2_figuresByRow_L51 N (fX2_figuresByRow_L15 N n) z4 x1 x2 x3
    else lt_ ((x2 ||| ((1 : Int32) <<< (x3 &&& 31))) : Int32) (fun v7 =>
    fX2_figuresByRow_L51 N (fX2_figuresByRow_L15 N n) z4 x1 v7 x3))))
def fX2_figuresByRow (N : Nat) (σ : St) (p1 : Int32) : Option (Int32 × St) :=
    by_ (fX0_copy N (sb [7, 8, 9, 10, 11, 12, 1, 2, 3, 4, 5, 6] σ)) (fun uq => pb [7, 8, 9, 10, 11, 12, 1, 2, 3, 4, 5, 6] uq σ) (fun z1 =>
    fX2_figuresByRow_L15 N  N z1 p1 (0 : Int32) (0 : Int32))
abbrev rmX2_figuresByRow : Room := { frames := 5, cells := 0, slots := 0, locals := 117 }
theorem qX2_figuresByRow : yX2_figuresByRow.cls = RX2 ∧ yX2_figuresByRow.cls ≠ "java/lang/invoke/MethodHandle" ∧ yX2_figuresByRow.cls ≠ "java/lang/invoke/VarHandle" ∧ (parseMethodDescriptor yX2_figuresByRow.desc).map (fun d => d.parameters.length) = some 1 := by decide +kernel
set_option maxHeartbeats 400000 in
set_option maxRecDepth 100000 in
theorem mX2_figuresByRow (l : Launch) (D : va_G) (cI cJ : ClassId) (a : Nat → Nat) (sz N : Nat) (τ : LSt) (σ : St) (p1 : Int32) (r : (Int32 × St)) (hf : fX2_figuresByRow N σ p1 = some r) : Met l yX2_figuresByRow wsX2_figuresByRow rmX2_figuresByRow (WPre ([.ref (a 0), .int p1] : List Value) sz D (tyIJ cI cJ) (wHA cI cJ a τ σ)) (WQi sz D (wHA cI cJ a τ σ) (wHA cI cJ a τ (r.2)) r.1) 0 0 (va_A (wHA cI cJ a τ σ) sz) := by
  refine W_start (cc := cX2_figuresByRow) (maxL := 4) (ret := (some .int)) (by decide) rfl (Nat.le_of_ble_eq_true rfl) (fun p e s m below meth c ls A hx hb hr hml hown hts hlk hP hK hS hA hD0 hAe hl => ?_)
  have hD : ∀ z, va_D A ((wHA cI cJ a τ) z) := fun z => hD0.ad rfl
  have hown : s.vm.findClass RX2 = some m.cls := hown
  have hl : lv_has ls 4 [(0, .ref (a 0)), (1, .int p1)] := hl
  have ln1 := hts (Cond.fieldLink RX2 16 "HoistsAreShared" "mind" "LHoistsAreShared$Hoist;") (List.mem_of_getElem? (i := 1) rfl)
  have inX2 : ∀ w ∈ u_ws RX2 TX2 14, w ∈ wsX2_figuresByRow := fun _ h => List.mem_cons_of_mem _ (List.mem_append_left _ (List.mem_append_right _ h))
  have ln3 := hts (Cond.fieldLink RX2 10 "HoistsAreShared" "now" "LHoistsAreShared$Hoist;") (List.mem_of_getElem? (i := 2) rfl)
  have b51 : ∀ (k15 : St → Int32 → Int32 → Int32 → Option (Int32 × St)) (hk15 : (∀ (z : St) (x1 : Int32) (x2 : Int32) (x3 : Int32) (H : Heap) (locs : List Loc) (ls : Array Slot), va_P D vwCl (wHA cI cJ a τ z) H → va_S A s.heap H locs → lv_has ls 4 [(0, .ref (a 0)), (1, .int x1), (2, .int x2), (3, .int x3)] → k15 z x1 x2 x3 = some r → W p l e rmX2_figuresByRow s m ([.ref (a 0), .int p1] : List Value).toArray below meth c H locs 0 0 (MQ below (WQi sz D (wHA cI cJ a τ σ) (wHA cI cJ a τ (r.2)) r.1) ([.ref (a 0), .int p1] : List Value).toArray s 0 0 A) (F0 m 15 ls []))) (z : St) (x1 : Int32) (x2 : Int32) (x3 : Int32) (H : Heap) (locs : List Loc) (ls : Array Slot), va_P D vwCl (wHA cI cJ a τ z) H → va_S A s.heap H locs → lv_has ls 4 [(0, .ref (a 0)), (1, .int x1), (2, .int x2), (3, .int x3)] → fX2_figuresByRow_L51 N k15 z x1 x2 x3 = some r → W p l e rmX2_figuresByRow s m ([.ref (a 0), .int p1] : List Value).toArray below meth c H locs 0 0 (MQ below (WQi sz D (wHA cI cJ a τ σ) (wHA cI cJ a τ (r.2)) r.1) ([.ref (a 0), .int p1] : List Value).toArray s 0 0 A) (F0 m 51 ls []) := by
    intro k15 hk15 z x1 x2 x3 H locs ls hP hS hl hf
    unfold fX2_figuresByRow_L51 at hf
    refine k_iinc (d := (1 : Int32)) (lv' := fun v6 => [(3, .int v6), (0, .ref (a 0)), (1, .int x1), (2, .int x2)]) hx hb dX2_figuresByRow_51 hl (k := 3) rfl (by decide) (by decide) (fun _ => rfl) hf (fun v6 ls hl hf => ?_)
    refine lv_goto (tgt := 15) hx hb dX2_figuresByRow_54 (by decide) ?_
    exact hk15 z x1 x2 v6 H locs ls hP hS (lv_sub hl [1, 2, 3, 0] rfl) hf
  have b15 : ∀  (n : Nat) (z : St) (x1 : Int32) (x2 : Int32) (x3 : Int32) (H : Heap) (locs : List Loc) (ls : Array Slot), va_P D vwCl (wHA cI cJ a τ z) H → va_S A s.heap H locs → lv_has ls 4 [(0, .ref (a 0)), (1, .int x1), (2, .int x2), (3, .int x3)] → fX2_figuresByRow_L15 N n z x1 x2 x3 = some r → W p l e rmX2_figuresByRow s m ([.ref (a 0), .int p1] : List Value).toArray below meth c H locs 0 0 (MQ below (WQi sz D (wHA cI cJ a τ σ) (wHA cI cJ a τ (r.2)) r.1) ([.ref (a 0), .int p1] : List Value).toArray s 0 0 A) (F0 m 15 ls []) := by
    intro n
    induction n with
    | zero => intro z x1 x2 x3 H locs ls hP hS hl hf; cases hf
    | succ n ih =>
      intro z x1 x2 x3 H locs ls hP hS hl hf
      rw [fX2_figuresByRow_L15] at hf
      refine lv_iload_n hx hb dX2_figuresByRow_15 rfl (lv_at hl 3 rfl) ?_
      refine lv_bipush (v := (9 : Int32)) hx hb dX2_figuresByRow_16 (by decide) ?_
      refine k_icmp_gt (tgt := 57) hx hb dX2_figuresByRow_18 (by decide) hf (fun hf => ?_) (fun hf => ?_)
      · refine lv_iload_n hx hb dX2_figuresByRow_57 rfl (lv_at hl 2 rfl) ?_
        exact W_iret (wHA cI cJ a τ) hx hb hr hlk hP hS hAe hf dX2_figuresByRow_58
      · refine lv_aload_n hx hb dX2_figuresByRow_21 rfl (lv_at hl 0 rfl) ?_
        refine va_get (D := D) (ci := 2) (v := .ref (a 7)) (C := RX2) (T := TX2) (N := 14) hx hb hts inX2 hown hK hP 0 rfl rfl 1 (by decide) ln1 (fun _ h9 => h9) rfl dX2_figuresByRow_22 ?_
        refine lv_iload_n hx hb dX2_figuresByRow_25 rfl (lv_at hl 1 rfl) ?_
        refine lv_aload_n hx hb dX2_figuresByRow_26 rfl (lv_at hl 0 rfl) ?_
        refine va_get (D := D) (ci := 2) (v := .ref (a 1)) (C := RX2) (T := TX2) (N := 14) hx hb hts inX2 hown hK hP 0 rfl rfl 0 (by decide) ln3 (fun _ h9 => h9) rfl dX2_figuresByRow_27 ?_
        refine lv_iload_n hx hb dX2_figuresByRow_30 rfl (lv_at hl 1 rfl) ?_
        refine c_callV (As := [.int x1]) (rest := [.int x1, .ref (a 7)]) ⟨hx, hb, hml, hown, hts⟩ hf (fun vq hq => mX0_kindOf l D cI cJ (sb [1, 2, 3, 4, 5, 6] a) H.size N (sb [1, 2, 3, 4, 5, 6] z) x1 vq hq) (cwV 1 hts gX2_figuresByRow_X0_kindOf rfl rfl rfl qX0_kindOf ⟨Nat.le_of_ble_eq_true rfl, Nat.le_of_ble_eq_true rfl⟩) hK hP hS hA (cmr_HA_Ho_1_2_3_4_5_6 D cI cJ a τ z hP) 0 rfl rfl rfl rfl hl.1 rfl (Nat.le_of_ble_eq_true rfl) dX2_figuresByRow_31 ⟨Nat.le_refl _, Nat.le_refl _⟩ (fun v2 H locs hP hS hf => ?_)
        refine lv_iload_n hx hb dX2_figuresByRow_34 rfl (lv_at hl 3 rfl) ?_
        refine d_callVv (As := [.int x1, .int v2, .int x3]) (rest := []) (w := (wHA cI cJ a τ)) (wc := (wHo cI (sb [7, 8, 9, 10, 11, 12] a))) (put := (fun uq => pb [7, 8, 9, 10, 11, 12] uq z)) (σ := z) (τ0 := (sb [7, 8, 9, 10, 11, 12] z)) ⟨hx, hb, hml, hown, hts⟩ hf (fun zq hq => mX0_become l D cI cJ (sb [7, 8, 9, 10, 11, 12] a) H.size N (sb [7, 8, 9, 10, 11, 12] z) x1 v2 x3 zq hq) (cwV 3 hts gX2_figuresByRow_X0_become rfl rfl rfl qX0_become ⟨Nat.le_of_ble_eq_true rfl, Nat.le_of_ble_eq_true rfl⟩) hK hP hD hS hA (cmb_HA_Ho_7_8_9_10_11_12 D cI cJ a τ z hP (hD _)) 0 rfl rfl rfl rfl hl.1 rfl (Nat.le_of_ble_eq_true rfl) dX2_figuresByRow_35 ⟨Nat.le_refl _, Nat.le_refl _⟩ (fun z3 H locs hP hS hf => ?_)
        refine lv_aload_n hx hb dX2_figuresByRow_38 rfl (lv_at hl 0 rfl) ?_
        refine d_callV (As := []) (rest := []) (w := (wHA cI cJ a τ)) (wc := (wHA cI cJ a τ)) (put := (fun uq => uq)) (σ := z3) (τ0 := z3) ⟨hx, hb, hml, hown, hts⟩ hf (fun vq zq hq => mX2_isAsRowTells l D cI cJ a H.size N τ z3 (vq, zq) hq) (cwV 0 hts gX2_figuresByRow_X2_isAsRowTells rfl rfl rfl qX2_isAsRowTells ⟨Nat.le_of_ble_eq_true rfl, Nat.le_of_ble_eq_true rfl⟩) hK hP hD hS hA ⟨hP, hD _, fun _ _ _ h => h⟩ 2 rfl rfl rfl rfl hl.1 rfl (Nat.le_of_ble_eq_true rfl) dX2_figuresByRow_39 ⟨Nat.le_refl _, Nat.le_refl _⟩ (fun v5 z4 H locs hP hS hf => ?_)
        refine k_if_eq (tgt := 51) hx hb dX2_figuresByRow_42 (by decide) hf (fun hf => ?_) (fun hf => ?_)
        · exact b51 (fX2_figuresByRow_L15 N n) ih z4 x1 x2 x3 H locs ls hP hS (lv_sub hl [0, 1, 2, 3] rfl) hf
        · refine lv_iload_n hx hb dX2_figuresByRow_45 rfl (lv_at hl 2 rfl) ?_
          refine lv_iconst (v := (1 : Int32)) hx hb dX2_figuresByRow_46 (by decide) ?_
          refine lv_iload_n hx hb dX2_figuresByRow_47 rfl (lv_at hl 3 rfl) ?_
          refine lv_ishl hx hb dX2_figuresByRow_48 ?_
          refine lv_ior hx hb dX2_figuresByRow_49 ?_
          refine k_let hf (fun v7 hf => ?_)
          refine lv_istore_n (lv' := [(2, .int v7), (0, .ref (a 0)), (1, .int x1), (3, .int x3)]) hx hb dX2_figuresByRow_50 rfl hl (by decide) rfl (fun ls hl => ?_)
          exact b51 (fX2_figuresByRow_L15 N n) ih z4 x1 v7 x3 H locs ls hP hS (lv_sub hl [1, 2, 0, 3] rfl) hf
  unfold fX2_figuresByRow at hf
  refine lv_iconst (v := (0 : Int32)) hx hb dX2_figuresByRow_0 (by decide) ?_
  refine lv_istore_n (lv' := [(2, .int (0 : Int32)), (0, .ref (a 0)), (1, .int p1)]) hx hb dX2_figuresByRow_1 rfl hl (by decide) rfl (fun ls hl => ?_)
  refine lv_aload_n hx hb dX2_figuresByRow_2 rfl (lv_at hl 1 rfl) ?_
  refine va_get (D := D) (ci := 2) (v := .ref (a 7)) (C := RX2) (T := TX2) (N := 14) hx hb hts inX2 hown hK hP 0 rfl rfl 1 (by decide) ln1 (fun _ h9 => h9) rfl dX2_figuresByRow_3 ?_
  refine lv_aload_n hx hb dX2_figuresByRow_6 rfl (lv_at hl 1 rfl) ?_
  refine va_get (D := D) (ci := 2) (v := .ref (a 1)) (C := RX2) (T := TX2) (N := 14) hx hb hts inX2 hown hK hP 0 rfl rfl 0 (by decide) ln3 (fun _ h9 => h9) rfl dX2_figuresByRow_7 ?_
  refine d_callVv (As := [.ref ((sb [7, 8, 9, 10, 11, 12, 1, 2, 3, 4, 5, 6] a) 6)]) (rest := []) (w := (wHA cI cJ a τ)) (wc := (wHo2 cI (sb [7, 8, 9, 10, 11, 12, 1, 2, 3, 4, 5, 6] a))) (put := (fun uq => pb [7, 8, 9, 10, 11, 12, 1, 2, 3, 4, 5, 6] uq σ)) (σ := σ) (τ0 := (sb [7, 8, 9, 10, 11, 12, 1, 2, 3, 4, 5, 6] σ)) ⟨hx, hb, hml, hown, hts⟩ hf (fun zq hq => mX0_copy l D cI cJ (sb [7, 8, 9, 10, 11, 12, 1, 2, 3, 4, 5, 6] a) s.heap.size N (sb [7, 8, 9, 10, 11, 12, 1, 2, 3, 4, 5, 6] σ) zq hq) (cwV 1 hts gX2_figuresByRow_X0_copy rfl rfl rfl qX0_copy ⟨Nat.le_of_ble_eq_true rfl, Nat.le_of_ble_eq_true rfl⟩) hK hP hD hS hA (cmb_HA_Ho2_7_8_9_10_11_12_1_2_3_4_5_6 D cI cJ a τ σ hP (hD _)) 0 rfl rfl rfl rfl hl.1 rfl (Nat.le_of_ble_eq_true rfl) dX2_figuresByRow_10 ⟨Nat.le_refl _, Nat.le_refl _⟩ (fun z1 H locs hP hS hf => ?_)
  refine lv_iconst (v := (0 : Int32)) hx hb dX2_figuresByRow_13 (by decide) ?_
  refine lv_istore_n (lv' := [(3, .int (0 : Int32)), (2, .int (0 : Int32)), (0, .ref (a 0)), (1, .int p1)]) hx hb dX2_figuresByRow_14 rfl hl (by decide) rfl (fun ls hl => ?_)
  exact b15  N z1 p1 (0 : Int32) (0 : Int32) H locs ls hP hS (lv_sub hl [2, 3, 1, 0] rfl) hf
def fX2_kindsByRow_L51 (N : Nat) (k15 : St → Int32 → Int32 → Int32 → Option (Int32 × St)) (z : St) (x1 : Int32) (x2 : Int32) (x3 : Int32) : Option (Int32 × St) :=
    lt_ (x3 + (1 : Int32) : Int32) (fun v6 =>
    k15 z x1 x2 v6)
def fX2_kindsByRow_L15 (N : Nat)  : Nat → St → Int32 → Int32 → Int32 → Option (Int32 × St)
  | 0, _, _, _, _ => none
  | n + 1, z, x1, x2, x3 =>
    if (6 : Int32) ≤ x3 then some (x2, z)
    else bo (fX0_figureOf N (sb [1, 2, 3, 4, 5, 6] z) x1) (fun v2 =>
    by_ (fX0_become N (sb [7, 8, 9, 10, 11, 12] z) x1 x3 v2) (fun uq => pb [7, 8, 9, 10, 11, 12] uq z) (fun z3 =>
    bx (fX2_isAsRowTells N z3) (fun uq => uq) (fun v5 z4 =>
    if v5 = 0 then fX2_kindsByRow_L51 N (fX2_kindsByRow_L15 N n) z4 x1 x2 x3
    else lt_ ((x2 ||| ((1 : Int32) <<< (x3 &&& 31))) : Int32) (fun v7 =>
    fX2_kindsByRow_L51 N (fX2_kindsByRow_L15 N n) z4 x1 v7 x3))))
def fX2_kindsByRow (N : Nat) (σ : St) (p1 : Int32) : Option (Int32 × St) :=
    by_ (fX0_copy N (sb [7, 8, 9, 10, 11, 12, 1, 2, 3, 4, 5, 6] σ)) (fun uq => pb [7, 8, 9, 10, 11, 12, 1, 2, 3, 4, 5, 6] uq σ) (fun z1 =>
    fX2_kindsByRow_L15 N  N z1 p1 (0 : Int32) (0 : Int32))
abbrev rmX2_kindsByRow : Room := { frames := 5, cells := 0, slots := 0, locals := 117 }
theorem qX2_kindsByRow : yX2_kindsByRow.cls = RX2 ∧ yX2_kindsByRow.cls ≠ "java/lang/invoke/MethodHandle" ∧ yX2_kindsByRow.cls ≠ "java/lang/invoke/VarHandle" ∧ (parseMethodDescriptor yX2_kindsByRow.desc).map (fun d => d.parameters.length) = some 1 := by decide +kernel
set_option maxHeartbeats 400000 in
set_option maxRecDepth 100000 in
theorem mX2_kindsByRow (l : Launch) (D : va_G) (cI cJ : ClassId) (a : Nat → Nat) (sz N : Nat) (τ : LSt) (σ : St) (p1 : Int32) (r : (Int32 × St)) (hf : fX2_kindsByRow N σ p1 = some r) : Met l yX2_kindsByRow wsX2_kindsByRow rmX2_kindsByRow (WPre ([.ref (a 0), .int p1] : List Value) sz D (tyIJ cI cJ) (wHA cI cJ a τ σ)) (WQi sz D (wHA cI cJ a τ σ) (wHA cI cJ a τ (r.2)) r.1) 0 0 (va_A (wHA cI cJ a τ σ) sz) := by
  refine W_start (cc := cX2_kindsByRow) (maxL := 4) (ret := (some .int)) (by decide) rfl (Nat.le_of_ble_eq_true rfl) (fun p e s m below meth c ls A hx hb hr hml hown hts hlk hP hK hS hA hD0 hAe hl => ?_)
  have hD : ∀ z, va_D A ((wHA cI cJ a τ) z) := fun z => hD0.ad rfl
  have hown : s.vm.findClass RX2 = some m.cls := hown
  have hl : lv_has ls 4 [(0, .ref (a 0)), (1, .int p1)] := hl
  have ln1 := hts (Cond.fieldLink RX2 16 "HoistsAreShared" "mind" "LHoistsAreShared$Hoist;") (List.mem_of_getElem? (i := 1) rfl)
  have inX2 : ∀ w ∈ u_ws RX2 TX2 14, w ∈ wsX2_kindsByRow := fun _ h => List.mem_cons_of_mem _ (List.mem_append_left _ (List.mem_append_right _ h))
  have ln3 := hts (Cond.fieldLink RX2 10 "HoistsAreShared" "now" "LHoistsAreShared$Hoist;") (List.mem_of_getElem? (i := 2) rfl)
  have b51 : ∀ (k15 : St → Int32 → Int32 → Int32 → Option (Int32 × St)) (hk15 : (∀ (z : St) (x1 : Int32) (x2 : Int32) (x3 : Int32) (H : Heap) (locs : List Loc) (ls : Array Slot), va_P D vwCl (wHA cI cJ a τ z) H → va_S A s.heap H locs → lv_has ls 4 [(0, .ref (a 0)), (1, .int x1), (2, .int x2), (3, .int x3)] → k15 z x1 x2 x3 = some r → W p l e rmX2_kindsByRow s m ([.ref (a 0), .int p1] : List Value).toArray below meth c H locs 0 0 (MQ below (WQi sz D (wHA cI cJ a τ σ) (wHA cI cJ a τ (r.2)) r.1) ([.ref (a 0), .int p1] : List Value).toArray s 0 0 A) (F0 m 15 ls []))) (z : St) (x1 : Int32) (x2 : Int32) (x3 : Int32) (H : Heap) (locs : List Loc) (ls : Array Slot), va_P D vwCl (wHA cI cJ a τ z) H → va_S A s.heap H locs → lv_has ls 4 [(0, .ref (a 0)), (1, .int x1), (2, .int x2), (3, .int x3)] → fX2_kindsByRow_L51 N k15 z x1 x2 x3 = some r → W p l e rmX2_kindsByRow s m ([.ref (a 0), .int p1] : List Value).toArray below meth c H locs 0 0 (MQ below (WQi sz D (wHA cI cJ a τ σ) (wHA cI cJ a τ (r.2)) r.1) ([.ref (a 0), .int p1] : List Value).toArray s 0 0 A) (F0 m 51 ls []) := by
    intro k15 hk15 z x1 x2 x3 H locs ls hP hS hl hf
    unfold fX2_kindsByRow_L51 at hf
    refine k_iinc (d := (1 : Int32)) (lv' := fun v6 => [(3, .int v6), (0, .ref (a 0)), (1, .int x1), (2, .int x2)]) hx hb dX2_kindsByRow_51 hl (k := 3) rfl (by decide) (by decide) (fun _ => rfl) hf (fun v6 ls hl hf => ?_)
    refine lv_goto (tgt := 15) hx hb dX2_kindsByRow_54 (by decide) ?_
    exact hk15 z x1 x2 v6 H locs ls hP hS (lv_sub hl [1, 2, 3, 0] rfl) hf
  have b15 : ∀  (n : Nat) (z : St) (x1 : Int32) (x2 : Int32) (x3 : Int32) (H : Heap) (locs : List Loc) (ls : Array Slot), va_P D vwCl (wHA cI cJ a τ z) H → va_S A s.heap H locs → lv_has ls 4 [(0, .ref (a 0)), (1, .int x1), (2, .int x2), (3, .int x3)] → fX2_kindsByRow_L15 N n z x1 x2 x3 = some r → W p l e rmX2_kindsByRow s m ([.ref (a 0), .int p1] : List Value).toArray below meth c H locs 0 0 (MQ below (WQi sz D (wHA cI cJ a τ σ) (wHA cI cJ a τ (r.2)) r.1) ([.ref (a 0), .int p1] : List Value).toArray s 0 0 A) (F0 m 15 ls []) := by
    intro n
    induction n with
    | zero => intro z x1 x2 x3 H locs ls hP hS hl hf; cases hf
    | succ n ih =>
      intro z x1 x2 x3 H locs ls hP hS hl hf
      rw [fX2_kindsByRow_L15] at hf
      refine lv_iload_n hx hb dX2_kindsByRow_15 rfl (lv_at hl 3 rfl) ?_
      refine lv_bipush (v := (6 : Int32)) hx hb dX2_kindsByRow_16 (by decide) ?_
      refine k_icmp_ge (tgt := 57) hx hb dX2_kindsByRow_18 (by decide) hf (fun hf => ?_) (fun hf => ?_)
      · refine lv_iload_n hx hb dX2_kindsByRow_57 rfl (lv_at hl 2 rfl) ?_
        exact W_iret (wHA cI cJ a τ) hx hb hr hlk hP hS hAe hf dX2_kindsByRow_58
      · refine lv_aload_n hx hb dX2_kindsByRow_21 rfl (lv_at hl 0 rfl) ?_
        refine va_get (D := D) (ci := 2) (v := .ref (a 7)) (C := RX2) (T := TX2) (N := 14) hx hb hts inX2 hown hK hP 0 rfl rfl 1 (by decide) ln1 (fun _ h9 => h9) rfl dX2_kindsByRow_22 ?_
        refine lv_iload_n hx hb dX2_kindsByRow_25 rfl (lv_at hl 1 rfl) ?_
        refine lv_iload_n hx hb dX2_kindsByRow_26 rfl (lv_at hl 3 rfl) ?_
        refine lv_aload_n hx hb dX2_kindsByRow_27 rfl (lv_at hl 0 rfl) ?_
        refine va_get (D := D) (ci := 2) (v := .ref (a 1)) (C := RX2) (T := TX2) (N := 14) hx hb hts inX2 hown hK hP 0 rfl rfl 0 (by decide) ln3 (fun _ h9 => h9) rfl dX2_kindsByRow_28 ?_
        refine lv_iload_n hx hb dX2_kindsByRow_31 rfl (lv_at hl 1 rfl) ?_
        refine c_callV (As := [.int x1]) (rest := [.int x3, .int x1, .ref (a 7)]) ⟨hx, hb, hml, hown, hts⟩ hf (fun vq hq => mX0_figureOf l D cI cJ (sb [1, 2, 3, 4, 5, 6] a) H.size N (sb [1, 2, 3, 4, 5, 6] z) x1 vq hq) (cwV 1 hts gX2_kindsByRow_X0_figureOf rfl rfl rfl qX0_figureOf ⟨Nat.le_of_ble_eq_true rfl, Nat.le_of_ble_eq_true rfl⟩) hK hP hS hA (cmr_HA_Ho_1_2_3_4_5_6 D cI cJ a τ z hP) 0 rfl rfl rfl rfl hl.1 rfl (Nat.le_of_ble_eq_true rfl) dX2_kindsByRow_32 ⟨Nat.le_refl _, Nat.le_refl _⟩ (fun v2 H locs hP hS hf => ?_)
        refine d_callVv (As := [.int x1, .int x3, .int v2]) (rest := []) (w := (wHA cI cJ a τ)) (wc := (wHo cI (sb [7, 8, 9, 10, 11, 12] a))) (put := (fun uq => pb [7, 8, 9, 10, 11, 12] uq z)) (σ := z) (τ0 := (sb [7, 8, 9, 10, 11, 12] z)) ⟨hx, hb, hml, hown, hts⟩ hf (fun zq hq => mX0_become l D cI cJ (sb [7, 8, 9, 10, 11, 12] a) H.size N (sb [7, 8, 9, 10, 11, 12] z) x1 x3 v2 zq hq) (cwV 3 hts gX2_kindsByRow_X0_become rfl rfl rfl qX0_become ⟨Nat.le_of_ble_eq_true rfl, Nat.le_of_ble_eq_true rfl⟩) hK hP hD hS hA (cmb_HA_Ho_7_8_9_10_11_12 D cI cJ a τ z hP (hD _)) 0 rfl rfl rfl rfl hl.1 rfl (Nat.le_of_ble_eq_true rfl) dX2_kindsByRow_35 ⟨Nat.le_refl _, Nat.le_refl _⟩ (fun z3 H locs hP hS hf => ?_)
        refine lv_aload_n hx hb dX2_kindsByRow_38 rfl (lv_at hl 0 rfl) ?_
        refine d_callV (As := []) (rest := []) (w := (wHA cI cJ a τ)) (wc := (wHA cI cJ a τ)) (put := (fun uq => uq)) (σ := z3) (τ0 := z3) ⟨hx, hb, hml, hown, hts⟩ hf (fun vq zq hq => mX2_isAsRowTells l D cI cJ a H.size N τ z3 (vq, zq) hq) (cwV 0 hts gX2_kindsByRow_X2_isAsRowTells rfl rfl rfl qX2_isAsRowTells ⟨Nat.le_of_ble_eq_true rfl, Nat.le_of_ble_eq_true rfl⟩) hK hP hD hS hA ⟨hP, hD _, fun _ _ _ h => h⟩ 2 rfl rfl rfl rfl hl.1 rfl (Nat.le_of_ble_eq_true rfl) dX2_kindsByRow_39 ⟨Nat.le_refl _, Nat.le_refl _⟩ (fun v5 z4 H locs hP hS hf => ?_)
        refine k_if_eq (tgt := 51) hx hb dX2_kindsByRow_42 (by decide) hf (fun hf => ?_) (fun hf => ?_)
        · exact b51 (fX2_kindsByRow_L15 N n) ih z4 x1 x2 x3 H locs ls hP hS (lv_sub hl [0, 1, 2, 3] rfl) hf
        · refine lv_iload_n hx hb dX2_kindsByRow_45 rfl (lv_at hl 2 rfl) ?_
          refine lv_iconst (v := (1 : Int32)) hx hb dX2_kindsByRow_46 (by decide) ?_
          refine lv_iload_n hx hb dX2_kindsByRow_47 rfl (lv_at hl 3 rfl) ?_
          refine lv_ishl hx hb dX2_kindsByRow_48 ?_
          refine lv_ior hx hb dX2_kindsByRow_49 ?_
          refine k_let hf (fun v7 hf => ?_)
          refine lv_istore_n (lv' := [(2, .int v7), (0, .ref (a 0)), (1, .int x1), (3, .int x3)]) hx hb dX2_kindsByRow_50 rfl hl (by decide) rfl (fun ls hl => ?_)
          exact b51 (fX2_kindsByRow_L15 N n) ih z4 x1 v7 x3 H locs ls hP hS (lv_sub hl [1, 2, 0, 3] rfl) hf
  unfold fX2_kindsByRow at hf
  refine lv_iconst (v := (0 : Int32)) hx hb dX2_kindsByRow_0 (by decide) ?_
  refine lv_istore_n (lv' := [(2, .int (0 : Int32)), (0, .ref (a 0)), (1, .int p1)]) hx hb dX2_kindsByRow_1 rfl hl (by decide) rfl (fun ls hl => ?_)
  refine lv_aload_n hx hb dX2_kindsByRow_2 rfl (lv_at hl 1 rfl) ?_
  refine va_get (D := D) (ci := 2) (v := .ref (a 7)) (C := RX2) (T := TX2) (N := 14) hx hb hts inX2 hown hK hP 0 rfl rfl 1 (by decide) ln1 (fun _ h9 => h9) rfl dX2_kindsByRow_3 ?_
  refine lv_aload_n hx hb dX2_kindsByRow_6 rfl (lv_at hl 1 rfl) ?_
  refine va_get (D := D) (ci := 2) (v := .ref (a 1)) (C := RX2) (T := TX2) (N := 14) hx hb hts inX2 hown hK hP 0 rfl rfl 0 (by decide) ln3 (fun _ h9 => h9) rfl dX2_kindsByRow_7 ?_
  refine d_callVv (As := [.ref ((sb [7, 8, 9, 10, 11, 12, 1, 2, 3, 4, 5, 6] a) 6)]) (rest := []) (w := (wHA cI cJ a τ)) (wc := (wHo2 cI (sb [7, 8, 9, 10, 11, 12, 1, 2, 3, 4, 5, 6] a))) (put := (fun uq => pb [7, 8, 9, 10, 11, 12, 1, 2, 3, 4, 5, 6] uq σ)) (σ := σ) (τ0 := (sb [7, 8, 9, 10, 11, 12, 1, 2, 3, 4, 5, 6] σ)) ⟨hx, hb, hml, hown, hts⟩ hf (fun zq hq => mX0_copy l D cI cJ (sb [7, 8, 9, 10, 11, 12, 1, 2, 3, 4, 5, 6] a) s.heap.size N (sb [7, 8, 9, 10, 11, 12, 1, 2, 3, 4, 5, 6] σ) zq hq) (cwV 1 hts gX2_kindsByRow_X0_copy rfl rfl rfl qX0_copy ⟨Nat.le_of_ble_eq_true rfl, Nat.le_of_ble_eq_true rfl⟩) hK hP hD hS hA (cmb_HA_Ho2_7_8_9_10_11_12_1_2_3_4_5_6 D cI cJ a τ σ hP (hD _)) 0 rfl rfl rfl rfl hl.1 rfl (Nat.le_of_ble_eq_true rfl) dX2_kindsByRow_10 ⟨Nat.le_refl _, Nat.le_refl _⟩ (fun z1 H locs hP hS hf => ?_)
  refine lv_iconst (v := (0 : Int32)) hx hb dX2_kindsByRow_13 (by decide) ?_
  refine lv_istore_n (lv' := [(3, .int (0 : Int32)), (2, .int (0 : Int32)), (0, .ref (a 0)), (1, .int p1)]) hx hb dX2_kindsByRow_14 rfl hl (by decide) rfl (fun ls hl => ?_)
  exact b15  N z1 p1 (0 : Int32) (0 : Int32) H locs ls hP hS (lv_sub hl [2, 3, 1, 0] rfl) hf
def fX2_whatIs (N : Nat) (σ : St) (p1 : Int32) (p2 : Int32) : Option (Int32 × St) :=
    bo (fX0_has N (sb [1, 2, 3, 4, 5, 6] σ) p1) (fun v1 =>
    if v1 = 0 then bx (fX2_refuse N σ (-1 : Int32)) (fun uq => uq) (fun v11 z10 =>
    some (v11, z10))
    else if p2 = (0 : Int32) then bx (fX2_kindsByRow N σ p1) (fun uq => uq) (fun v3 z2 =>
    some (v3, z2))
    else if p2 = (1 : Int32) then bx (fX2_figuresByRow N σ p1) (fun uq => uq) (fun v6 z5 =>
    some (v6, z5))
    else bx (fX2_refuse N σ (-2 : Int32)) (fun uq => uq) (fun v9 z8 =>
    some (v9, z8)))
abbrev rmX2_whatIs : Room := { frames := 6, cells := 0, slots := 0, locals := 140 }
theorem qX2_whatIs : yX2_whatIs.cls = RX2 ∧ yX2_whatIs.cls ≠ "java/lang/invoke/MethodHandle" ∧ yX2_whatIs.cls ≠ "java/lang/invoke/VarHandle" ∧ (parseMethodDescriptor yX2_whatIs.desc).map (fun d => d.parameters.length) = some 2 := by decide +kernel
set_option maxHeartbeats 400000 in
set_option maxRecDepth 100000 in
theorem mX2_whatIs (l : Launch) (D : va_G) (cI cJ : ClassId) (a : Nat → Nat) (sz N : Nat) (τ : LSt) (σ : St) (p1 : Int32) (p2 : Int32) (r : (Int32 × St)) (hf : fX2_whatIs N σ p1 p2 = some r) : Met l yX2_whatIs wsX2_whatIs rmX2_whatIs (WPre ([.ref (a 0), .int p1, .int p2] : List Value) sz D (tyIJ cI cJ) (wHA cI cJ a τ σ)) (WQi sz D (wHA cI cJ a τ σ) (wHA cI cJ a τ (r.2)) r.1) 0 0 (va_A (wHA cI cJ a τ σ) sz) := by
  refine W_start (cc := cX2_whatIs) (maxL := 3) (ret := (some .int)) (by decide) rfl (Nat.le_of_ble_eq_true rfl) (fun p e s m below meth c ls A hx hb hr hml hown hts hlk hP hK hS hA hD0 hAe hl => ?_)
  have hD : ∀ z, va_D A ((wHA cI cJ a τ) z) := fun z => hD0.ad rfl
  have hown : s.vm.findClass RX2 = some m.cls := hown
  have hl : lv_has ls 3 [(0, .ref (a 0)), (1, .int p1), (2, .int p2)] := hl
  have ln1 := hts (Cond.fieldLink RX2 10 "HoistsAreShared" "now" "LHoistsAreShared$Hoist;") (List.mem_of_getElem? (i := 1) rfl)
  have inX2 : ∀ w ∈ u_ws RX2 TX2 14, w ∈ wsX2_whatIs := fun _ h => List.mem_cons_of_mem _ (List.mem_append_left _ (List.mem_append_right _ h))
  unfold fX2_whatIs at hf
  refine lv_aload_n hx hb dX2_whatIs_0 rfl (lv_at hl 0 rfl) ?_
  refine va_get (D := D) (ci := 2) (v := .ref (a 1)) (C := RX2) (T := TX2) (N := 14) hx hb hts inX2 hown hK hP 0 rfl rfl 0 (by decide) ln1 (fun _ h9 => h9) rfl dX2_whatIs_1 ?_
  refine lv_iload_n hx hb dX2_whatIs_4 rfl (lv_at hl 1 rfl) ?_
  refine c_callV (As := [.int p1]) (rest := []) ⟨hx, hb, hml, hown, hts⟩ hf (fun vq hq => mX0_has l D cI cJ (sb [1, 2, 3, 4, 5, 6] a) s.heap.size N (sb [1, 2, 3, 4, 5, 6] σ) p1 vq hq) (cwV 1 hts gX2_whatIs_X0_has rfl rfl rfl qX0_has ⟨Nat.le_of_ble_eq_true rfl, Nat.le_of_ble_eq_true rfl⟩) hK hP hS hA (cmr_HA_Ho_1_2_3_4_5_6 D cI cJ a τ σ hP) 0 rfl rfl rfl rfl hl.1 rfl (Nat.le_of_ble_eq_true rfl) dX2_whatIs_5 ⟨Nat.le_refl _, Nat.le_refl _⟩ (fun v1 H locs hP hS hf => ?_)
  refine k_if_ne (tgt := 17) hx hb dX2_whatIs_8 (by decide) hf (fun hf => ?_) (fun hf => ?_)
  · refine lv_iload_n hx hb dX2_whatIs_17 rfl (lv_at hl 2 rfl) ?_
    refine sw_if hf (fun c4 hf => ?_) (fun c4 hf => ?_)
    · refine lv_lookup (off := 26) (tgt := 44) hx hb dX2_whatIs_18 (by decide) (by rw [c4]; decide) (by decide) ?_
      refine lv_aload_n hx hb dX2_whatIs_44 rfl (lv_at hl 0 rfl) ?_
      refine lv_iload_n hx hb dX2_whatIs_45 rfl (lv_at hl 1 rfl) ?_
      refine d_callV (As := [.int p1]) (rest := []) (w := (wHA cI cJ a τ)) (wc := (wHA cI cJ a τ)) (put := (fun uq => uq)) (σ := σ) (τ0 := σ) ⟨hx, hb, hml, hown, hts⟩ hf (fun vq zq hq => mX2_kindsByRow l D cI cJ a H.size N τ σ p1 (vq, zq) hq) (cwV 1 hts gX2_whatIs_X2_kindsByRow rfl rfl rfl qX2_kindsByRow ⟨Nat.le_of_ble_eq_true rfl, Nat.le_of_ble_eq_true rfl⟩) hK hP hD hS hA ⟨hP, hD _, fun _ _ _ h => h⟩ 2 rfl rfl rfl rfl hl.1 rfl (Nat.le_of_ble_eq_true rfl) dX2_whatIs_46 ⟨Nat.le_refl _, Nat.le_refl _⟩ (fun v3 z2 H locs hP hS hf => ?_)
      exact W_iret (wHA cI cJ a τ) hx hb hr hlk hP hS hAe hf dX2_whatIs_49
    · have c4 := i32_ne c4 (n := 0) (by decide)
      refine sw_if hf (fun c7 hf => ?_) (fun c7 hf => ?_)
      · refine lv_lookup (off := 32) (tgt := 50) hx hb dX2_whatIs_18 (by decide) (by rw [c7]; decide) (by decide) ?_
        refine lv_aload_n hx hb dX2_whatIs_50 rfl (lv_at hl 0 rfl) ?_
        refine lv_iload_n hx hb dX2_whatIs_51 rfl (lv_at hl 1 rfl) ?_
        refine d_callV (As := [.int p1]) (rest := []) (w := (wHA cI cJ a τ)) (wc := (wHA cI cJ a τ)) (put := (fun uq => uq)) (σ := σ) (τ0 := σ) ⟨hx, hb, hml, hown, hts⟩ hf (fun vq zq hq => mX2_figuresByRow l D cI cJ a H.size N τ σ p1 (vq, zq) hq) (cwV 1 hts gX2_whatIs_X2_figuresByRow rfl rfl rfl qX2_figuresByRow ⟨Nat.le_of_ble_eq_true rfl, Nat.le_of_ble_eq_true rfl⟩) hK hP hD hS hA ⟨hP, hD _, fun _ _ _ h => h⟩ 2 rfl rfl rfl rfl hl.1 rfl (Nat.le_of_ble_eq_true rfl) dX2_whatIs_52 ⟨Nat.le_refl _, Nat.le_refl _⟩ (fun v6 z5 H locs hP hS hf => ?_)
        exact W_iret (wHA cI cJ a τ) hx hb hr hlk hP hS hAe hf dX2_whatIs_55
      · have c7 := i32_ne c7 (n := 1) (by decide)
        refine lv_lookup (off := 38) (tgt := 56) hx hb dX2_whatIs_18 (by decide) (by simp [Op.lookupswitch.offset, c4.symm, c7.symm]) (by decide) ?_
        refine lv_aload_n hx hb dX2_whatIs_56 rfl (lv_at hl 0 rfl) ?_
        refine lv_bipush (v := (-2 : Int32)) hx hb dX2_whatIs_57 (by decide) ?_
        refine d_callV (As := [.int (-2 : Int32)]) (rest := []) (w := (wHA cI cJ a τ)) (wc := (wHA cI cJ a τ)) (put := (fun uq => uq)) (σ := σ) (τ0 := σ) ⟨hx, hb, hml, hown, hts⟩ hf (fun vq zq hq => mX2_refuse l D cI cJ a H.size N τ σ (-2 : Int32) (vq, zq) hq) (cwV 1 hts gX2_whatIs_X2_refuse rfl rfl rfl qX2_refuse ⟨Nat.le_of_ble_eq_true rfl, Nat.le_of_ble_eq_true rfl⟩) hK hP hD hS hA ⟨hP, hD _, fun _ _ _ h => h⟩ 2 rfl rfl rfl rfl hl.1 rfl (Nat.le_of_ble_eq_true rfl) dX2_whatIs_59 ⟨Nat.le_refl _, Nat.le_refl _⟩ (fun v9 z8 H locs hP hS hf => ?_)
        exact W_iret (wHA cI cJ a τ) hx hb hr hlk hP hS hAe hf dX2_whatIs_62
  · refine lv_aload_n hx hb dX2_whatIs_11 rfl (lv_at hl 0 rfl) ?_
    refine lv_iconst (v := (-1 : Int32)) hx hb dX2_whatIs_12 (by decide) ?_
    refine d_callV (As := [.int (-1 : Int32)]) (rest := []) (w := (wHA cI cJ a τ)) (wc := (wHA cI cJ a τ)) (put := (fun uq => uq)) (σ := σ) (τ0 := σ) ⟨hx, hb, hml, hown, hts⟩ hf (fun vq zq hq => mX2_refuse l D cI cJ a H.size N τ σ (-1 : Int32) (vq, zq) hq) (cwV 1 hts gX2_whatIs_X2_refuse rfl rfl rfl qX2_refuse ⟨Nat.le_of_ble_eq_true rfl, Nat.le_of_ble_eq_true rfl⟩) hK hP hD hS hA ⟨hP, hD _, fun _ _ _ h => h⟩ 2 rfl rfl rfl rfl hl.1 rfl (Nat.le_of_ble_eq_true rfl) dX2_whatIs_13 ⟨Nat.le_refl _, Nat.le_refl _⟩ (fun v11 z10 H locs hP hS hf => ?_)
    exact W_iret (wHA cI cJ a τ) hx hb hr hlk hP hS hAe hf dX2_whatIs_16
def fX2_row (N : Nat) (σ : St) (p1 : Int32) : Option (Int32 × St) :=
    bo (fX2_faultOf N p1 (0 : Int32) (99 : Int32)) (fun v1 =>
    if v1 = 0 then if (σ 0 12) < (16 : Int32) then bo (wrI σ 27 16 (σ 0 12) p1) (fun z2 =>
    lt_ (((z2 0 12) + (1 : Int32)) : Int32) (fun v3 =>
    lt_ (up2 z2 0 12 v3) (fun z4 =>
    some ((z4 0 12), z4))))
    else bx (fX2_refuse N σ (-6 : Int32)) (fun uq => uq) (fun v6 z5 =>
    some (v6, z5))
    else bx (fX2_refuse N σ v1) (fun uq => uq) (fun v8 z7 =>
    some (v8, z7)))
abbrev rmX2_row : Room := { frames := 1, cells := 0, slots := 0, locals := 22 }
theorem qX2_row : yX2_row.cls = RX2 ∧ yX2_row.cls ≠ "java/lang/invoke/MethodHandle" ∧ yX2_row.cls ≠ "java/lang/invoke/VarHandle" ∧ (parseMethodDescriptor yX2_row.desc).map (fun d => d.parameters.length) = some 1 := by decide +kernel
set_option maxHeartbeats 400000 in
set_option maxRecDepth 100000 in
theorem mX2_row (l : Launch) (D : va_G) (cI cJ : ClassId) (a : Nat → Nat) (sz N : Nat) (τ : LSt) (σ : St) (p1 : Int32) (r : (Int32 × St)) (hf : fX2_row N σ p1 = some r) : Met l yX2_row wsX2_row rmX2_row (WPre ([.ref (a 0), .int p1] : List Value) sz D (tyIJ cI cJ) (wHA cI cJ a τ σ)) (WQi sz D (wHA cI cJ a τ σ) (wHA cI cJ a τ (r.2)) r.1) 0 0 (va_A (wHA cI cJ a τ σ) sz) := by
  refine W_start (cc := cX2_row) (maxL := 3) (ret := (some .int)) (by decide) rfl (Nat.le_of_ble_eq_true rfl) (fun p e s m below meth c ls A hx hb hr hml hown hts hlk hP hK hS hA hD0 hAe hl => ?_)
  have hD : ∀ z, va_D A ((wHA cI cJ a τ) z) := fun z => hD0.ad rfl
  have hown : s.vm.findClass RX2 = some m.cls := hown
  have hl : lv_has ls 3 [(0, .ref (a 0)), (1, .int p1)] := hl
  have ln1 := hts (Cond.fieldLink RX2 55 "HoistsAreShared" "rowLength" "I") (List.mem_of_getElem? (i := 1) rfl)
  have inX2 : ∀ w ∈ u_ws RX2 TX2 14, w ∈ wsX2_row := fun _ h => List.mem_cons_of_mem _ (List.mem_append_right _ h)
  have ln3 := hts (Cond.fieldLink RX2 49 "HoistsAreShared" "numbers" "[I") (List.mem_of_getElem? (i := 2) rfl)
  unfold fX2_row at hf
  refine lv_iload_n hx hb dX2_row_0 rfl (lv_at hl 1 rfl) ?_
  refine lv_iconst (v := (0 : Int32)) hx hb dX2_row_1 (by decide) ?_
  refine lv_bipush (v := (99 : Int32)) hx hb dX2_row_2 (by decide) ?_
  refine c_callS (As := [.int p1, .int (0 : Int32), .int (99 : Int32)]) (rest := []) ⟨hx, hb, hml, hown, hts⟩ hf (fun vq hq => mX2_faultOf l D cI cJ s.heap.size N p1 (0 : Int32) (99 : Int32) vq hq) (va_cwS 3 hts gX2_row_X2_faultOf rfl rfl rfl qX2_faultOf ⟨Nat.le_of_ble_eq_true rfl, Nat.le_of_ble_eq_true rfl⟩) hK hP hS hA va_P_nil rfl hl.1 rfl (Nat.le_of_ble_eq_true rfl) dX2_row_4 ⟨Nat.le_refl _, Nat.le_refl _⟩ (fun v1 H locs hP hS hf => ?_)
  refine lv_istore_n (lv' := [(2, .int v1), (0, .ref (a 0)), (1, .int p1)]) hx hb dX2_row_7 rfl hl (by decide) rfl (fun ls hl => ?_)
  refine lv_iload_n hx hb dX2_row_8 rfl (lv_at hl 0 rfl) ?_
  refine k_if_eq (tgt := 18) hx hb dX2_row_9 (by decide) hf (fun hf => ?_) (fun hf => ?_)
  · refine lv_aload_n hx hb dX2_row_18 rfl (lv_at hl 1 rfl) ?_
    refine va_get (D := D) (ci := 2) (v := .int (σ 0 12)) (C := RX2) (T := TX2) (N := 14) hx hb hts inX2 hown hK hP 0 rfl rfl 12 (by decide) ln1 (fun _ h9 => h9) rfl dX2_row_19 ?_
    refine lv_aload_n hx hb dX2_row_22 rfl (lv_at hl 1 rfl) ?_
    refine va_get (D := D) (ci := 2) (v := .ref (a 27)) (C := RX2) (T := TX2) (N := 14) hx hb hts inX2 hown hK hP 0 rfl rfl 10 (by decide) ln3 (fun _ h9 => h9) rfl dX2_row_23 ?_
    refine va_alen (v := (16 : Int32)) hx hb hK hP 27 0 rfl rfl rfl dX2_row_26 ?_
    refine k_icmp_lt (tgt := 37) hx hb dX2_row_27 (by decide) hf (fun hf => ?_) (fun hf => ?_)
    · refine lv_aload_n hx hb dX2_row_37 rfl (lv_at hl 1 rfl) ?_
      refine va_get (D := D) (ci := 2) (v := .ref (a 27)) (C := RX2) (T := TX2) (N := 14) hx hb hts inX2 hown hK hP 0 rfl rfl 10 (by decide) ln3 (fun _ h9 => h9) rfl dX2_row_38 ?_
      refine lv_aload_n hx hb dX2_row_41 rfl (lv_at hl 1 rfl) ?_
      refine va_get (D := D) (ci := 2) (v := .int (σ 0 12)) (C := RX2) (T := TX2) (N := 14) hx hb hts inX2 hown hK hP 0 rfl rfl 12 (by decide) ln1 (fun _ h9 => h9) rfl dX2_row_42 ?_
      refine lv_iload_n hx hb dX2_row_45 rfl (lv_at hl 2 rfl) ?_
      refine k_iast (w := (wHA cI cJ a τ)) hx hb hK hP hD hS 27 0 hf rfl rfl (fun _ => rfl) dX2_row_46 (fun z2 H locs hP hS hf => ?_)
      refine lv_aload_n hx hb dX2_row_47 rfl (lv_at hl 1 rfl) ?_
      refine lv_dup hx hb dX2_row_48 rfl ?_
      refine va_get (D := D) (ci := 2) (v := .int (z2 0 12)) (C := RX2) (T := TX2) (N := 14) hx hb hts inX2 hown hK hP 0 rfl rfl 12 (by decide) ln1 (fun _ h9 => h9) rfl dX2_row_49 ?_
      refine lv_iconst (v := (1 : Int32)) hx hb dX2_row_52 (by decide) ?_
      refine lv_iadd hx hb dX2_row_53 ?_
      refine k_let hf (fun v3 hf => ?_)
      refine k_put (ci := 2) (C := RX2) (T := TX2) (N := 14) (ty := .int) (w := (wHA cI cJ a τ)) hx hb hts inX2 tyX2 tyX2_ok nmX2 hown hK hP hD hS 0 rfl rfl 12 (by decide) ln1 (fun _ h9 => h9) rfl (by decide +kernel) rfl rfl (Nat.le_of_ble_eq_true rfl) (cN := 0) hf rfl dX2_row_54 (fun z4 H locs hP hS hf => ?_)
      refine lv_aload_n hx hb dX2_row_57 rfl (lv_at hl 1 rfl) ?_
      refine va_get (D := D) (ci := 2) (v := .int (z4 0 12)) (C := RX2) (T := TX2) (N := 14) hx hb hts inX2 hown hK hP 0 rfl rfl 12 (by decide) ln1 (fun _ h9 => h9) rfl dX2_row_58 ?_
      exact W_iret (wHA cI cJ a τ) hx hb hr hlk hP hS hAe hf dX2_row_61
    · refine lv_aload_n hx hb dX2_row_30 rfl (lv_at hl 1 rfl) ?_
      refine lv_bipush (v := (-6 : Int32)) hx hb dX2_row_31 (by decide) ?_
      refine d_callV (As := [.int (-6 : Int32)]) (rest := []) (w := (wHA cI cJ a τ)) (wc := (wHA cI cJ a τ)) (put := (fun uq => uq)) (σ := σ) (τ0 := σ) ⟨hx, hb, hml, hown, hts⟩ hf (fun vq zq hq => mX2_refuse l D cI cJ a H.size N τ σ (-6 : Int32) (vq, zq) hq) (cwV 1 hts gX2_row_X2_refuse rfl rfl rfl qX2_refuse ⟨Nat.le_of_ble_eq_true rfl, Nat.le_of_ble_eq_true rfl⟩) hK hP hD hS hA ⟨hP, hD _, fun _ _ _ h => h⟩ 2 rfl rfl rfl rfl hl.1 rfl (Nat.le_of_ble_eq_true rfl) dX2_row_33 ⟨Nat.le_refl _, Nat.le_refl _⟩ (fun v6 z5 H locs hP hS hf => ?_)
      exact W_iret (wHA cI cJ a τ) hx hb hr hlk hP hS hAe hf dX2_row_36
  · refine lv_aload_n hx hb dX2_row_12 rfl (lv_at hl 1 rfl) ?_
    refine lv_iload_n hx hb dX2_row_13 rfl (lv_at hl 0 rfl) ?_
    refine d_callV (As := [.int v1]) (rest := []) (w := (wHA cI cJ a τ)) (wc := (wHA cI cJ a τ)) (put := (fun uq => uq)) (σ := σ) (τ0 := σ) ⟨hx, hb, hml, hown, hts⟩ hf (fun vq zq hq => mX2_refuse l D cI cJ a H.size N τ σ v1 (vq, zq) hq) (cwV 1 hts gX2_row_X2_refuse rfl rfl rfl qX2_refuse ⟨Nat.le_of_ble_eq_true rfl, Nat.le_of_ble_eq_true rfl⟩) hK hP hD hS hA ⟨hP, hD _, fun _ _ _ h => h⟩ 2 rfl rfl rfl rfl hl.1 rfl (Nat.le_of_ble_eq_true rfl) dX2_row_14 ⟨Nat.le_refl _, Nat.le_refl _⟩ (fun v8 z7 H locs hP hS hf => ?_)
    exact W_iret (wHA cI cJ a τ) hx hb hr hlk hP hS hAe hf dX2_row_17
def fX2_judge_L65 (N : Nat)  (z : St) (x1 : Int32) : Option (Int32 × St) :=
    lt_ (up2 z 0 12 (0 : Int32)) (fun z1 =>
    some (x1, z1))
def fX2_judge_L59 (N : Nat) (k5 : St → Int32 → Int32 → Option (Int32 × St)) (z : St) (x1 : Int32) (x2 : Int32) : Option (Int32 × St) :=
    lt_ (x2 + (1 : Int32) : Int32) (fun v3 =>
    k5 z x1 v3)
def fX2_judge_L57 (N : Nat) (k5 : St → Int32 → Int32 → Option (Int32 × St)) (z : St) (x2 : Int32) : Option (Int32 × St) :=
    fX2_judge_L59 N k5 z x2 x2
def fX2_judge_L5 (N : Nat)  : Nat → St → Int32 → Int32 → Option (Int32 × St)
  | 0, _, _, _ => none
  | n + 1, z, x1, x2 =>
    if (z 0 12) ≤ x2 then fX2_judge_L65 N  z x1
    else if (16 : Int32) ≤ x2 then fX2_judge_L65 N  z x1
    else if x1 = (-9 : Int32) then bo (fX0_has N (sb [1, 2, 3, 4, 5, 6] z) x2) (fun v2 =>
    if v2 = 0 then fX2_judge_L57 N (fX2_judge_L5 N n) z x2
    else bo (fX0_weighs N (sb [1, 2, 3, 4, 5, 6] z) x2 (0 : Int32)) (fun v4 =>
    bo (rdI z 27 16 x2) (fun v5 =>
    if v4 = v5 then fX2_judge_L59 N (fX2_judge_L5 N n) z x1 x2
    else fX2_judge_L57 N (fX2_judge_L5 N n) z x2)))
    else fX2_judge_L65 N  z x1
def fX2_judge (N : Nat) (σ : St)  : Option (Int32 × St) :=
    fX2_judge_L5 N  N σ (-9 : Int32) (0 : Int32)
abbrev rmX2_judge : Room := { frames := 2, cells := 0, slots := 0, locals := 49 }
theorem qX2_judge : yX2_judge.cls = RX2 ∧ yX2_judge.cls ≠ "java/lang/invoke/MethodHandle" ∧ yX2_judge.cls ≠ "java/lang/invoke/VarHandle" ∧ (parseMethodDescriptor yX2_judge.desc).map (fun d => d.parameters.length) = some 0 := by decide +kernel
set_option maxHeartbeats 400000 in
set_option maxRecDepth 100000 in
theorem mX2_judge (l : Launch) (D : va_G) (cI cJ : ClassId) (a : Nat → Nat) (sz N : Nat) (τ : LSt) (σ : St)  (r : (Int32 × St)) (hf : fX2_judge N σ = some r) : Met l yX2_judge wsX2_judge rmX2_judge (WPre ([.ref (a 0)] : List Value) sz D (tyIJ cI cJ) (wHA cI cJ a τ σ)) (WQi sz D (wHA cI cJ a τ σ) (wHA cI cJ a τ (r.2)) r.1) 0 0 (va_A (wHA cI cJ a τ σ) sz) := by
  refine W_start (cc := cX2_judge) (maxL := 3) (ret := (some .int)) (by decide) rfl (Nat.le_of_ble_eq_true rfl) (fun p e s m below meth c ls A hx hb hr hml hown hts hlk hP hK hS hA hD0 hAe hl => ?_)
  have hD : ∀ z, va_D A ((wHA cI cJ a τ) z) := fun z => hD0.ad rfl
  have hown : s.vm.findClass RX2 = some m.cls := hown
  have hl : lv_has ls 3 [(0, .ref (a 0))] := hl
  have ln1 := hts (Cond.fieldLink RX2 55 "HoistsAreShared" "rowLength" "I") (List.mem_of_getElem? (i := 1) rfl)
  have inX2 : ∀ w ∈ u_ws RX2 TX2 14, w ∈ wsX2_judge := fun _ h => List.mem_cons_of_mem _ (List.mem_append_left _ (List.mem_append_right _ h))
  have ln3 := hts (Cond.fieldLink RX2 49 "HoistsAreShared" "numbers" "[I") (List.mem_of_getElem? (i := 2) rfl)
  have ln4 := hts (Cond.fieldLink RX2 10 "HoistsAreShared" "now" "LHoistsAreShared$Hoist;") (List.mem_of_getElem? (i := 3) rfl)
  have b65 : ∀  (z : St) (x1 : Int32) (H : Heap) (locs : List Loc) (ls : Array Slot), va_P D vwCl (wHA cI cJ a τ z) H → va_S A s.heap H locs → lv_has ls 3 [(0, .ref (a 0)), (1, .int x1)] → fX2_judge_L65 N z x1 = some r → W p l e rmX2_judge s m ([.ref (a 0)] : List Value).toArray below meth c H locs 0 0 (MQ below (WQi sz D (wHA cI cJ a τ σ) (wHA cI cJ a τ (r.2)) r.1) ([.ref (a 0)] : List Value).toArray s 0 0 A) (F0 m 65 ls []) := by
    intro  z x1 H locs ls hP hS hl hf
    unfold fX2_judge_L65 at hf
    refine lv_aload_n hx hb dX2_judge_65 rfl (lv_at hl 0 rfl) ?_
    refine lv_iconst (v := (0 : Int32)) hx hb dX2_judge_66 (by decide) ?_
    refine k_put (ci := 2) (C := RX2) (T := TX2) (N := 14) (ty := .int) (w := (wHA cI cJ a τ)) hx hb hts inX2 tyX2 tyX2_ok nmX2 hown hK hP hD hS 0 rfl rfl 12 (by decide) ln1 (fun _ h9 => h9) rfl (by decide +kernel) rfl rfl (Nat.le_of_ble_eq_true rfl) (cN := 0) hf rfl dX2_judge_67 (fun z1 H locs hP hS hf => ?_)
    refine lv_iload_n hx hb dX2_judge_70 rfl (lv_at hl 1 rfl) ?_
    exact W_iret (wHA cI cJ a τ) hx hb hr hlk hP hS hAe hf dX2_judge_71
  have b59 : ∀ (k5 : St → Int32 → Int32 → Option (Int32 × St)) (hk5 : (∀ (z : St) (x1 : Int32) (x2 : Int32) (H : Heap) (locs : List Loc) (ls : Array Slot), va_P D vwCl (wHA cI cJ a τ z) H → va_S A s.heap H locs → lv_has ls 3 [(0, .ref (a 0)), (1, .int x1), (2, .int x2)] → k5 z x1 x2 = some r → W p l e rmX2_judge s m ([.ref (a 0)] : List Value).toArray below meth c H locs 0 0 (MQ below (WQi sz D (wHA cI cJ a τ σ) (wHA cI cJ a τ (r.2)) r.1) ([.ref (a 0)] : List Value).toArray s 0 0 A) (F0 m 5 ls []))) (z : St) (x1 : Int32) (x2 : Int32) (H : Heap) (locs : List Loc) (ls : Array Slot), va_P D vwCl (wHA cI cJ a τ z) H → va_S A s.heap H locs → lv_has ls 3 [(0, .ref (a 0)), (1, .int x1), (2, .int x2)] → fX2_judge_L59 N k5 z x1 x2 = some r → W p l e rmX2_judge s m ([.ref (a 0)] : List Value).toArray below meth c H locs 0 0 (MQ below (WQi sz D (wHA cI cJ a τ σ) (wHA cI cJ a τ (r.2)) r.1) ([.ref (a 0)] : List Value).toArray s 0 0 A) (F0 m 59 ls []) := by
    intro k5 hk5 z x1 x2 H locs ls hP hS hl hf
    unfold fX2_judge_L59 at hf
    refine k_iinc (d := (1 : Int32)) (lv' := fun v3 => [(2, .int v3), (0, .ref (a 0)), (1, .int x1)]) hx hb dX2_judge_59 hl (k := 2) rfl (by decide) (by decide) (fun _ => rfl) hf (fun v3 ls hl hf => ?_)
    refine lv_goto (tgt := 5) hx hb dX2_judge_62 (by decide) ?_
    exact hk5 z x1 v3 H locs ls hP hS (lv_sub hl [1, 2, 0] rfl) hf
  have b57 : ∀ (k5 : St → Int32 → Int32 → Option (Int32 × St)) (hk5 : (∀ (z : St) (x1 : Int32) (x2 : Int32) (H : Heap) (locs : List Loc) (ls : Array Slot), va_P D vwCl (wHA cI cJ a τ z) H → va_S A s.heap H locs → lv_has ls 3 [(0, .ref (a 0)), (1, .int x1), (2, .int x2)] → k5 z x1 x2 = some r → W p l e rmX2_judge s m ([.ref (a 0)] : List Value).toArray below meth c H locs 0 0 (MQ below (WQi sz D (wHA cI cJ a τ σ) (wHA cI cJ a τ (r.2)) r.1) ([.ref (a 0)] : List Value).toArray s 0 0 A) (F0 m 5 ls []))) (z : St) (x2 : Int32) (H : Heap) (locs : List Loc) (ls : Array Slot), va_P D vwCl (wHA cI cJ a τ z) H → va_S A s.heap H locs → lv_has ls 3 [(0, .ref (a 0)), (2, .int x2)] → fX2_judge_L57 N k5 z x2 = some r → W p l e rmX2_judge s m ([.ref (a 0)] : List Value).toArray below meth c H locs 0 0 (MQ below (WQi sz D (wHA cI cJ a τ σ) (wHA cI cJ a τ (r.2)) r.1) ([.ref (a 0)] : List Value).toArray s 0 0 A) (F0 m 57 ls []) := by
    intro k5 hk5 z x2 H locs ls hP hS hl hf
    unfold fX2_judge_L57 at hf
    refine lv_iload_n hx hb dX2_judge_57 rfl (lv_at hl 1 rfl) ?_
    refine lv_istore_n (lv' := [(1, .int x2), (0, .ref (a 0)), (2, .int x2)]) hx hb dX2_judge_58 rfl hl (by decide) rfl (fun ls hl => ?_)
    exact b59 k5 hk5 z x2 x2 H locs ls hP hS (lv_sub hl [1, 0, 2] rfl) hf
  have b5 : ∀  (n : Nat) (z : St) (x1 : Int32) (x2 : Int32) (H : Heap) (locs : List Loc) (ls : Array Slot), va_P D vwCl (wHA cI cJ a τ z) H → va_S A s.heap H locs → lv_has ls 3 [(0, .ref (a 0)), (1, .int x1), (2, .int x2)] → fX2_judge_L5 N n z x1 x2 = some r → W p l e rmX2_judge s m ([.ref (a 0)] : List Value).toArray below meth c H locs 0 0 (MQ below (WQi sz D (wHA cI cJ a τ σ) (wHA cI cJ a τ (r.2)) r.1) ([.ref (a 0)] : List Value).toArray s 0 0 A) (F0 m 5 ls []) := by
    intro n
    induction n with
    | zero => intro z x1 x2 H locs ls hP hS hl hf; cases hf
    | succ n ih =>
      intro z x1 x2 H locs ls hP hS hl hf
      rw [fX2_judge_L5] at hf
      refine lv_iload_n hx hb dX2_judge_5 rfl (lv_at hl 2 rfl) ?_
      refine lv_aload_n hx hb dX2_judge_6 rfl (lv_at hl 0 rfl) ?_
      refine va_get (D := D) (ci := 2) (v := .int (z 0 12)) (C := RX2) (T := TX2) (N := 14) hx hb hts inX2 hown hK hP 0 rfl rfl 12 (by decide) ln1 (fun _ h9 => h9) rfl dX2_judge_7 ?_
      refine k_icmp_ge (tgt := 65) hx hb dX2_judge_10 (by decide) hf (fun hf => ?_) (fun hf => ?_)
      · exact b65  z x1 H locs ls hP hS (lv_sub hl [0, 1] rfl) hf
      · refine lv_iload_n hx hb dX2_judge_13 rfl (lv_at hl 2 rfl) ?_
        refine lv_aload_n hx hb dX2_judge_14 rfl (lv_at hl 0 rfl) ?_
        refine va_get (D := D) (ci := 2) (v := .ref (a 27)) (C := RX2) (T := TX2) (N := 14) hx hb hts inX2 hown hK hP 0 rfl rfl 10 (by decide) ln3 (fun _ h9 => h9) rfl dX2_judge_15 ?_
        refine va_alen (v := (16 : Int32)) hx hb hK hP 27 0 rfl rfl rfl dX2_judge_18 ?_
        refine k_icmp_ge (tgt := 65) hx hb dX2_judge_19 (by decide) hf (fun hf => ?_) (fun hf => ?_)
        · exact b65  z x1 H locs ls hP hS (lv_sub hl [0, 1] rfl) hf
        · refine lv_iload_n hx hb dX2_judge_22 rfl (lv_at hl 1 rfl) ?_
          refine lv_bipush (v := (-9 : Int32)) hx hb dX2_judge_23 (by decide) ?_
          refine k_icmp_ne (tgt := 65) hx hb dX2_judge_25 (by decide) hf (fun hf => ?_) (fun hf => ?_)
          · exact b65  z x1 H locs ls hP hS (lv_sub hl [0, 1] rfl) hf
          · refine lv_aload_n hx hb dX2_judge_28 rfl (lv_at hl 0 rfl) ?_
            refine va_get (D := D) (ci := 2) (v := .ref (a 1)) (C := RX2) (T := TX2) (N := 14) hx hb hts inX2 hown hK hP 0 rfl rfl 0 (by decide) ln4 (fun _ h9 => h9) rfl dX2_judge_29 ?_
            refine lv_iload_n hx hb dX2_judge_32 rfl (lv_at hl 2 rfl) ?_
            refine c_callV (As := [.int x2]) (rest := []) ⟨hx, hb, hml, hown, hts⟩ hf (fun vq hq => mX0_has l D cI cJ (sb [1, 2, 3, 4, 5, 6] a) H.size N (sb [1, 2, 3, 4, 5, 6] z) x2 vq hq) (cwV 1 hts gX2_judge_X0_has rfl rfl rfl qX0_has ⟨Nat.le_of_ble_eq_true rfl, Nat.le_of_ble_eq_true rfl⟩) hK hP hS hA (cmr_HA_Ho_1_2_3_4_5_6 D cI cJ a τ z hP) 0 rfl rfl rfl rfl hl.1 rfl (Nat.le_of_ble_eq_true rfl) dX2_judge_33 ⟨Nat.le_refl _, Nat.le_refl _⟩ (fun v2 H locs hP hS hf => ?_)
            refine k_if_eq (tgt := 57) hx hb dX2_judge_36 (by decide) hf (fun hf => ?_) (fun hf => ?_)
            · exact b57 (fX2_judge_L5 N n) ih z x2 H locs ls hP hS (lv_sub hl [0, 2] rfl) hf
            · refine lv_aload_n hx hb dX2_judge_39 rfl (lv_at hl 0 rfl) ?_
              refine va_get (D := D) (ci := 2) (v := .ref (a 1)) (C := RX2) (T := TX2) (N := 14) hx hb hts inX2 hown hK hP 0 rfl rfl 0 (by decide) ln4 (fun _ h9 => h9) rfl dX2_judge_40 ?_
              refine lv_iload_n hx hb dX2_judge_43 rfl (lv_at hl 2 rfl) ?_
              refine lv_iconst (v := (0 : Int32)) hx hb dX2_judge_44 (by decide) ?_
              refine c_callV (As := [.int x2, .int (0 : Int32)]) (rest := []) ⟨hx, hb, hml, hown, hts⟩ hf (fun vq hq => mX0_weighs l D cI cJ (sb [1, 2, 3, 4, 5, 6] a) H.size N (sb [1, 2, 3, 4, 5, 6] z) x2 (0 : Int32) vq hq) (cwV 2 hts gX2_judge_X0_weighs rfl rfl rfl qX0_weighs ⟨Nat.le_of_ble_eq_true rfl, Nat.le_of_ble_eq_true rfl⟩) hK hP hS hA (cmr_HA_Ho_1_2_3_4_5_6 D cI cJ a τ z hP) 0 rfl rfl rfl rfl hl.1 rfl (Nat.le_of_ble_eq_true rfl) dX2_judge_45 ⟨Nat.le_refl _, Nat.le_refl _⟩ (fun v4 H locs hP hS hf => ?_)
              refine lv_aload_n hx hb dX2_judge_48 rfl (lv_at hl 0 rfl) ?_
              refine va_get (D := D) (ci := 2) (v := .ref (a 27)) (C := RX2) (T := TX2) (N := 14) hx hb hts inX2 hown hK hP 0 rfl rfl 10 (by decide) ln3 (fun _ h9 => h9) rfl dX2_judge_49 ?_
              refine lv_iload_n hx hb dX2_judge_52 rfl (lv_at hl 2 rfl) ?_
              refine k_iald hx hb hK hP 27 0 hf rfl rfl dX2_judge_53 (fun v5 hf => ?_)
              refine k_icmp_eq (tgt := 59) hx hb dX2_judge_54 (by decide) hf (fun hf => ?_) (fun hf => ?_)
              · exact b59 (fX2_judge_L5 N n) ih z x1 x2 H locs ls hP hS (lv_sub hl [0, 1, 2] rfl) hf
              · exact b57 (fX2_judge_L5 N n) ih z x2 H locs ls hP hS (lv_sub hl [0, 2] rfl) hf
  unfold fX2_judge at hf
  refine lv_bipush (v := (-9 : Int32)) hx hb dX2_judge_0 (by decide) ?_
  refine lv_istore_n (lv' := [(1, .int (-9 : Int32)), (0, .ref (a 0))]) hx hb dX2_judge_2 rfl hl (by decide) rfl (fun ls hl => ?_)
  refine lv_iconst (v := (0 : Int32)) hx hb dX2_judge_3 (by decide) ?_
  refine lv_istore_n (lv' := [(2, .int (0 : Int32)), (1, .int (-9 : Int32)), (0, .ref (a 0))]) hx hb dX2_judge_4 rfl hl (by decide) rfl (fun ls hl => ?_)
  exact b5  N σ (-9 : Int32) (0 : Int32) s.heap [] ls hP hS (lv_sub hl [2, 1, 0] rfl) hf
def fX2_clear (N : Nat) (σ : St)  : Option (Int32 × St) :=
    lt_ (up2 σ 0 12 (0 : Int32)) (fun z1 =>
    some ((σ 0 12), z1))
abbrev rmX2_clear : Room := { frames := 0, cells := 0, slots := 0, locals := 0 }
theorem qX2_clear : yX2_clear.cls = RX2 ∧ yX2_clear.cls ≠ "java/lang/invoke/MethodHandle" ∧ yX2_clear.cls ≠ "java/lang/invoke/VarHandle" ∧ (parseMethodDescriptor yX2_clear.desc).map (fun d => d.parameters.length) = some 0 := by decide +kernel
set_option maxHeartbeats 400000 in
set_option maxRecDepth 100000 in
theorem mX2_clear (l : Launch) (D : va_G) (cI cJ : ClassId) (a : Nat → Nat) (sz N : Nat) (τ : LSt) (σ : St)  (r : (Int32 × St)) (hf : fX2_clear N σ = some r) : Met l yX2_clear wsX2_clear rmX2_clear (WPre ([.ref (a 0)] : List Value) sz D (tyIJ cI cJ) (wHA cI cJ a τ σ)) (WQi sz D (wHA cI cJ a τ σ) (wHA cI cJ a τ (r.2)) r.1) 0 0 (va_A (wHA cI cJ a τ σ) sz) := by
  refine W_start (cc := cX2_clear) (maxL := 2) (ret := (some .int)) (by decide) rfl (Nat.le_of_ble_eq_true rfl) (fun p e s m below meth c ls A hx hb hr hml hown hts hlk hP hK hS hA hD0 hAe hl => ?_)
  have hD : ∀ z, va_D A ((wHA cI cJ a τ) z) := fun z => hD0.ad rfl
  have hown : s.vm.findClass RX2 = some m.cls := hown
  have hl : lv_has ls 2 [(0, .ref (a 0))] := hl
  have ln1 := hts (Cond.fieldLink RX2 55 "HoistsAreShared" "rowLength" "I") (List.mem_of_getElem? (i := 1) rfl)
  have inX2 : ∀ w ∈ u_ws RX2 TX2 14, w ∈ wsX2_clear := fun _ h => List.mem_cons_of_mem _ (List.mem_append_right _ h)
  unfold fX2_clear at hf
  refine lv_aload_n hx hb dX2_clear_0 rfl (lv_at hl 0 rfl) ?_
  refine va_get (D := D) (ci := 2) (v := .int (σ 0 12)) (C := RX2) (T := TX2) (N := 14) hx hb hts inX2 hown hK hP 0 rfl rfl 12 (by decide) ln1 (fun _ h9 => h9) rfl dX2_clear_1 ?_
  refine lv_istore_n (lv' := [(1, .int (σ 0 12)), (0, .ref (a 0))]) hx hb dX2_clear_4 rfl hl (by decide) rfl (fun ls hl => ?_)
  refine lv_aload_n hx hb dX2_clear_5 rfl (lv_at hl 1 rfl) ?_
  refine lv_iconst (v := (0 : Int32)) hx hb dX2_clear_6 (by decide) ?_
  refine k_put (ci := 2) (C := RX2) (T := TX2) (N := 14) (ty := .int) (w := (wHA cI cJ a τ)) hx hb hts inX2 tyX2 tyX2_ok nmX2 hown hK hP hD hS 0 rfl rfl 12 (by decide) ln1 (fun _ h9 => h9) rfl (by decide +kernel) rfl rfl (Nat.le_of_ble_eq_true rfl) (cN := 0) hf rfl dX2_clear_7 (fun z1 H locs hP hS hf => ?_)
  refine lv_iload_n hx hb dX2_clear_10 rfl (lv_at hl 0 rfl) ?_
  exact W_iret (wHA cI cJ a τ) hx hb hr hlk hP hS hAe hf dX2_clear_11
def fX2_drawPlace (N : Nat) (p1 : Int32) : Option Int32 :=
    some (((p1 &&& (2147483647 : Int32)) / (256 : Int32)) - ((p1 &&& (2147483647 : Int32)) / (256 : Int32)) / (3 : Int32) * (3 : Int32))
abbrev rmX2_drawPlace : Room := { frames := 0, cells := 0, slots := 0, locals := 0 }
theorem qX2_drawPlace : yX2_drawPlace.cls ≠ "java/lang/invoke/MethodHandle" ∧ yX2_drawPlace.cls ≠ "java/lang/invoke/VarHandle" ∧ (parseMethodDescriptor yX2_drawPlace.desc).map (fun d => d.parameters.length) = some 1 := by decide +kernel
set_option maxHeartbeats 400000 in
set_option maxRecDepth 100000 in
theorem mX2_drawPlace (l : Launch) (D : va_G) (cI cJ : ClassId) (sz N : Nat) (p1 : Int32) (r : Int32) (hf : fX2_drawPlace N p1 = some r) : Met l yX2_drawPlace wsX2_drawPlace rmX2_drawPlace (RPre ([.int p1] : List Value) sz D (tyIJ cI cJ) (wNo)) (RQi sz r) 0 0 (fr0 sz) := by
  refine R_start (cc := cX2_drawPlace) (maxL := 1) (ret := (some .int)) (by decide) rfl (Nat.le_of_ble_eq_true rfl) (fun p e s m below meth c ls hx hb hr hml hown hts hlk hP hK hS hA hsz hl => ?_)
  have hown : s.vm.findClass RX2 = some m.cls := hown
  have hl : lv_has ls 1 [(0, .int p1)] := hl
  have ln1 := hts (Cond.constant RX2 303 (2147483647)) (List.mem_of_getElem? (i := 1) rfl)
  unfold fX2_drawPlace at hf
  refine lv_iload_n hx hb dX2_drawPlace_0 rfl (lv_at hl 0 rfl) ?_
  refine lv_ldcw (v := (2147483647 : Int32)) hx hb hown ln1 dX2_drawPlace_1 ?_
  refine lv_iand hx hb dX2_drawPlace_4 ?_
  refine lv_sipush (v := (256 : Int32)) hx hb dX2_drawPlace_5 (by decide) ?_
  refine lv_idiv hx hb dX2_drawPlace_8 (by decide) ?_
  refine lv_iconst (v := (3 : Int32)) hx hb dX2_drawPlace_9 (by decide) ?_
  refine lv_irem hx hb dX2_drawPlace_10 (by decide) ?_
  exact R_iret hx hb hr hlk hS hsz hf dX2_drawPlace_11
def fX2_nextSeed (N : Nat) (p1 : Int32) : Option Int32 :=
    some ((p1 * (1664525 : Int32)) + (1013904223 : Int32))
abbrev rmX2_nextSeed : Room := { frames := 0, cells := 0, slots := 0, locals := 0 }
theorem qX2_nextSeed : yX2_nextSeed.cls ≠ "java/lang/invoke/MethodHandle" ∧ yX2_nextSeed.cls ≠ "java/lang/invoke/VarHandle" ∧ (parseMethodDescriptor yX2_nextSeed.desc).map (fun d => d.parameters.length) = some 1 := by decide +kernel
set_option maxHeartbeats 400000 in
set_option maxRecDepth 100000 in
theorem mX2_nextSeed (l : Launch) (D : va_G) (cI cJ : ClassId) (sz N : Nat) (p1 : Int32) (r : Int32) (hf : fX2_nextSeed N p1 = some r) : Met l yX2_nextSeed wsX2_nextSeed rmX2_nextSeed (RPre ([.int p1] : List Value) sz D (tyIJ cI cJ) (wNo)) (RQi sz r) 0 0 (fr0 sz) := by
  refine R_start (cc := cX2_nextSeed) (maxL := 1) (ret := (some .int)) (by decide) rfl (Nat.le_of_ble_eq_true rfl) (fun p e s m below meth c ls hx hb hr hml hown hts hlk hP hK hS hA hsz hl => ?_)
  have hown : s.vm.findClass RX2 = some m.cls := hown
  have hl : lv_has ls 1 [(0, .int p1)] := hl
  have ln1 := hts (Cond.constant RX2 301 (1664525)) (List.mem_of_getElem? (i := 1) rfl)
  have ln2 := hts (Cond.constant RX2 302 (1013904223)) (List.mem_of_getElem? (i := 2) rfl)
  unfold fX2_nextSeed at hf
  refine lv_iload_n hx hb dX2_nextSeed_0 rfl (lv_at hl 0 rfl) ?_
  refine lv_ldcw (v := (1664525 : Int32)) hx hb hown ln1 dX2_nextSeed_1 ?_
  refine lv_imul hx hb dX2_nextSeed_4 ?_
  refine lv_ldcw (v := (1013904223 : Int32)) hx hb hown ln2 dX2_nextSeed_5 ?_
  refine lv_iadd hx hb dX2_nextSeed_8 ?_
  exact R_iret hx hb hr hlk hS hsz hf dX2_nextSeed_9
def fX2_lots_L134 (N : Nat) (k49 : St → Int32 → Int32 → Int32 → Int32 → Int32 → Int32 → Option (Int32 × St)) (z : St) (x1 : Int32) (x3 : Int32) (x6 : Int32) (x7 : Int32) (x8 : Int32) (x9 : Int32) (y0 : Int32) (y1 : Int32) : Option (Int32 × St) :=
    lt_ ((y1 + y0) : Int32) (fun v4 =>
    bo (fX0_openAt N (sb [7, 8, 9, 10, 11, 12] z) x9) (fun v5 =>
    bo (fJ6_bitCount_0f7a4 N v5) (fun v6 =>
    lt_ ((x6 + v6) : Int32) (fun v7 =>
    lt_ (x8 + (1 : Int32) : Int32) (fun v8 =>
    k49 z x1 x3 v4 v7 x7 v8)))))
def fX2_lots_L69 (N : Nat) (k49 : St → Int32 → Int32 → Int32 → Int32 → Int32 → Int32 → Option (Int32 × St)) : Nat → St → Int32 → Int32 → Int32 → Int32 → Int32 → Int32 → Int32 → Option (Int32 × St)
  | 0, _, _, _, _, _, _, _, _ => none
  | n + 1, z, x1, x3, x5, x6, x7, x8, x9 =>
    if (z 7 3) ≤ x9 then bo (fX0_floorAfter N (sb [7, 8, 9, 10, 11, 12] z) (12 : Int32)) (fun v3 =>
    if v3 = (10 : Int32) then fX2_lots_L134 N k49 z x1 x3 x6 x7 x8 v3 (1 : Int32) x5
    else fX2_lots_L134 N k49 z x1 x3 x6 x7 x8 v3 (0 : Int32) x5)
    else bo (fX2_nextSeed N x7) (fun v9 =>
    bo (fX2_drawPlace N v9) (fun v10 =>
    bx (fX0_put N (sb [7, 8, 9, 10, 11, 12] z) x9 v10) (fun uq => pb [7, 8, 9, 10, 11, 12] uq z) (fun v12 z11 =>
    lt_ (x9 + (1 : Int32) : Int32) (fun v13 =>
    (fX2_lots_L69 N k49 n) z11 x1 x3 x5 x6 v9 x8 v13))))
def fX2_lots_L49 (N : Nat)  : Nat → St → Int32 → Int32 → Int32 → Int32 → Int32 → Int32 → Option (Int32 × St)
  | 0, _, _, _, _, _, _, _ => none
  | n + 1, z, x1, x3, x5, x6, x7, x8 =>
    if x1 ≤ x8 then if x3 = 0 then some (x5, z)
    else some (x6, z)
    else by_ (fX0_copy N (sb [7, 8, 9, 10, 11, 12, 1, 2, 3, 4, 5, 6] z)) (fun uq => pb [7, 8, 9, 10, 11, 12, 1, 2, 3, 4, 5, 6] uq z) (fun z2 =>
    fX2_lots_L69 N (fX2_lots_L49 N n) N z2 x1 x3 x5 x6 x7 x8 (0 : Int32))
def fX2_lots_L37 (N : Nat)  (z : St) (x1 : Int32) (x2 : Int32) (x3 : Int32) : Option (Int32 × St) :=
    fX2_lots_L49 N  N z x1 x3 (0 : Int32) (0 : Int32) x2 (0 : Int32)
def fX2_lots (N : Nat) (σ : St) (p1 : Int32) (p2 : Int32) (p3 : Int32) : Option (Int32 × St) :=
    bo (fX2_faultOf N p1 (1 : Int32) (20 : Int32)) (fun v1 =>
    if v1 = 0 then if p3 = 0 then fX2_lots_L37 N  σ p1 p2 p3
    else if p3 = (1 : Int32) then fX2_lots_L37 N  σ p1 p2 p3
    else bx (fX2_refuse N σ (-2 : Int32)) (fun uq => uq) (fun v15 z14 =>
    some (v15, z14))
    else bx (fX2_refuse N σ v1) (fun uq => uq) (fun v17 z16 =>
    some (v17, z16)))
abbrev rmX2_lots : Room := { frames := 4, cells := 0, slots := 0, locals := 95 }
theorem qX2_lots : yX2_lots.cls = RX2 ∧ yX2_lots.cls ≠ "java/lang/invoke/MethodHandle" ∧ yX2_lots.cls ≠ "java/lang/invoke/VarHandle" ∧ (parseMethodDescriptor yX2_lots.desc).map (fun d => d.parameters.length) = some 3 := by decide +kernel
set_option maxHeartbeats 400000 in
set_option maxRecDepth 100000 in
theorem mX2_lots (l : Launch) (D : va_G) (cI cJ : ClassId) (a : Nat → Nat) (sz N : Nat) (τ : LSt) (σ : St) (p1 : Int32) (p2 : Int32) (p3 : Int32) (r : (Int32 × St)) (hf : fX2_lots N σ p1 p2 p3 = some r) : Met l yX2_lots wsX2_lots rmX2_lots (WPre ([.ref (a 0), .int p1, .int p2, .int p3] : List Value) sz D (tyIJ cI cJ) (wHA cI cJ a τ σ)) (WQi sz D (wHA cI cJ a τ σ) (wHA cI cJ a τ (r.2)) r.1) 0 0 (va_A (wHA cI cJ a τ σ) sz) := by
  refine W_start (cc := cX2_lots) (maxL := 10) (ret := (some .int)) (by decide) rfl (Nat.le_of_ble_eq_true rfl) (fun p e s m below meth c ls A hx hb hr hml hown hts hlk hP hK hS hA hD0 hAe hl => ?_)
  have hD : ∀ z, va_D A ((wHA cI cJ a τ) z) := fun z => hD0.ad rfl
  have hown : s.vm.findClass RX2 = some m.cls := hown
  have hl : lv_has ls 10 [(0, .ref (a 0)), (1, .int p1), (2, .int p2), (3, .int p3)] := hl
  have ln1 := hts (Cond.fieldLink RX2 16 "HoistsAreShared" "mind" "LHoistsAreShared$Hoist;") (List.mem_of_getElem? (i := 1) rfl)
  have inX2 : ∀ w ∈ u_ws RX2 TX2 14, w ∈ wsX2_lots := fun _ h => List.mem_cons_of_mem _ (List.mem_append_left _ (List.mem_append_right _ h))
  have ln3 := hts (Cond.fieldLink RX2 10 "HoistsAreShared" "now" "LHoistsAreShared$Hoist;") (List.mem_of_getElem? (i := 2) rfl)
  have ln4 := hts (Cond.fieldLink RX2 196 "HoistsAreShared$Hoist" "things" "I") (List.mem_of_getElem? (i := 3) rfl)
  have inX0 : ∀ w ∈ u_ws RX0 TX0 9, w ∈ wsX2_lots := fun _ h => List.mem_cons_of_mem _ (List.mem_append_right _ h)
  have b134 : ∀ (k49 : St → Int32 → Int32 → Int32 → Int32 → Int32 → Int32 → Option (Int32 × St)) (hk49 : (∀ (z : St) (x1 : Int32) (x3 : Int32) (x5 : Int32) (x6 : Int32) (x7 : Int32) (x8 : Int32) (H : Heap) (locs : List Loc) (ls : Array Slot), va_P D vwCl (wHA cI cJ a τ z) H → va_S A s.heap H locs → lv_has ls 10 [(0, .ref (a 0)), (1, .int x1), (3, .int x3), (5, .int x5), (6, .int x6), (7, .int x7), (8, .int x8)] → k49 z x1 x3 x5 x6 x7 x8 = some r → W p l e rmX2_lots s m ([.ref (a 0), .int p1, .int p2, .int p3] : List Value).toArray below meth c H locs 0 0 (MQ below (WQi sz D (wHA cI cJ a τ σ) (wHA cI cJ a τ (r.2)) r.1) ([.ref (a 0), .int p1, .int p2, .int p3] : List Value).toArray s 0 0 A) (F0 m 49 ls []))) (z : St) (x1 : Int32) (x3 : Int32) (x6 : Int32) (x7 : Int32) (x8 : Int32) (x9 : Int32) (y0 : Int32) (y1 : Int32) (H : Heap) (locs : List Loc) (ls : Array Slot), va_P D vwCl (wHA cI cJ a τ z) H → va_S A s.heap H locs → lv_has ls 10 [(0, .ref (a 0)), (1, .int x1), (3, .int x3), (6, .int x6), (7, .int x7), (8, .int x8), (9, .int x9)] → fX2_lots_L134 N k49 z x1 x3 x6 x7 x8 x9 y0 y1 = some r → W p l e rmX2_lots s m ([.ref (a 0), .int p1, .int p2, .int p3] : List Value).toArray below meth c H locs 0 0 (MQ below (WQi sz D (wHA cI cJ a τ σ) (wHA cI cJ a τ (r.2)) r.1) ([.ref (a 0), .int p1, .int p2, .int p3] : List Value).toArray s 0 0 A) (F0 m 134 ls [.int y0, .int y1]) := by
    intro k49 hk49 z x1 x3 x6 x7 x8 x9 y0 y1 H locs ls hP hS hl hf
    unfold fX2_lots_L134 at hf
    refine lv_iadd hx hb dX2_lots_134 ?_
    refine k_let hf (fun v4 hf => ?_)
    refine lv_istore (lv' := [(5, .int v4), (0, .ref (a 0)), (1, .int x1), (3, .int x3), (6, .int x6), (7, .int x7), (8, .int x8), (9, .int x9)]) hx hb dX2_lots_135 hl (by decide) rfl (fun ls hl => ?_)
    refine lv_iload hx hb dX2_lots_137 (lv_at hl 4 rfl) ?_
    refine lv_aload_n hx hb dX2_lots_139 rfl (lv_at hl 1 rfl) ?_
    refine va_get (D := D) (ci := 2) (v := .ref (a 7)) (C := RX2) (T := TX2) (N := 14) hx hb hts inX2 hown hK hP 0 rfl rfl 1 (by decide) ln1 (fun _ h9 => h9) rfl dX2_lots_140 ?_
    refine lv_iload hx hb dX2_lots_143 (lv_at hl 7 rfl) ?_
    refine c_callV (As := [.int x9]) (rest := [.int x6]) ⟨hx, hb, hml, hown, hts⟩ hf (fun vq hq => mX0_openAt l D cI cJ (sb [7, 8, 9, 10, 11, 12] a) H.size N (sb [7, 8, 9, 10, 11, 12] z) x9 vq hq) (cwV 1 hts gX2_lots_X0_openAt rfl rfl rfl qX0_openAt ⟨Nat.le_of_ble_eq_true rfl, Nat.le_of_ble_eq_true rfl⟩) hK hP hS hA (cmr_HA_Ho_7_8_9_10_11_12 D cI cJ a τ z hP) 0 rfl rfl rfl rfl hl.1 rfl (Nat.le_of_ble_eq_true rfl) dX2_lots_145 ⟨Nat.le_refl _, Nat.le_refl _⟩ (fun v5 H locs hP hS hf => ?_)
    refine c_callS (As := [.int v5]) (rest := [.int x6]) ⟨hx, hb, hml, hown, hts⟩ hf (fun vq hq => mJ6_bitCount_0f7a4 l D cI cJ H.size N v5 vq hq) (va_cwS 1 hts gX2_lots_J6_bitCount_0f7a4 rfl rfl rfl qJ6_bitCount_0f7a4 ⟨Nat.le_of_ble_eq_true rfl, Nat.le_of_ble_eq_true rfl⟩) hK hP hS hA va_P_nil rfl hl.1 rfl (Nat.le_of_ble_eq_true rfl) dX2_lots_148 ⟨Nat.le_refl _, Nat.le_refl _⟩ (fun v6 H locs hP hS hf => ?_)
    refine lv_iadd hx hb dX2_lots_151 ?_
    refine k_let hf (fun v7 hf => ?_)
    refine lv_istore (lv' := [(6, .int v7), (5, .int v4), (0, .ref (a 0)), (1, .int x1), (3, .int x3), (7, .int x7), (8, .int x8), (9, .int x9)]) hx hb dX2_lots_152 hl (by decide) rfl (fun ls hl => ?_)
    refine k_iinc (d := (1 : Int32)) (lv' := fun v8 => [(8, .int v8), (6, .int v7), (5, .int v4), (0, .ref (a 0)), (1, .int x1), (3, .int x3), (7, .int x7), (9, .int x9)]) hx hb dX2_lots_154 hl (k := 6) rfl (by decide) (by decide) (fun _ => rfl) hf (fun v8 ls hl hf => ?_)
    refine lv_goto (tgt := 49) hx hb dX2_lots_157 (by decide) ?_
    exact hk49 z x1 x3 v4 v7 x7 v8 H locs ls hP hS (lv_sub hl [3, 4, 5, 2, 1, 6, 0] rfl) hf
  have b69 : ∀ (k49 : St → Int32 → Int32 → Int32 → Int32 → Int32 → Int32 → Option (Int32 × St)) (hk49 : (∀ (z : St) (x1 : Int32) (x3 : Int32) (x5 : Int32) (x6 : Int32) (x7 : Int32) (x8 : Int32) (H : Heap) (locs : List Loc) (ls : Array Slot), va_P D vwCl (wHA cI cJ a τ z) H → va_S A s.heap H locs → lv_has ls 10 [(0, .ref (a 0)), (1, .int x1), (3, .int x3), (5, .int x5), (6, .int x6), (7, .int x7), (8, .int x8)] → k49 z x1 x3 x5 x6 x7 x8 = some r → W p l e rmX2_lots s m ([.ref (a 0), .int p1, .int p2, .int p3] : List Value).toArray below meth c H locs 0 0 (MQ below (WQi sz D (wHA cI cJ a τ σ) (wHA cI cJ a τ (r.2)) r.1) ([.ref (a 0), .int p1, .int p2, .int p3] : List Value).toArray s 0 0 A) (F0 m 49 ls []))) (n : Nat) (z : St) (x1 : Int32) (x3 : Int32) (x5 : Int32) (x6 : Int32) (x7 : Int32) (x8 : Int32) (x9 : Int32) (H : Heap) (locs : List Loc) (ls : Array Slot), va_P D vwCl (wHA cI cJ a τ z) H → va_S A s.heap H locs → lv_has ls 10 [(0, .ref (a 0)), (1, .int x1), (3, .int x3), (5, .int x5), (6, .int x6), (7, .int x7), (8, .int x8), (9, .int x9)] → fX2_lots_L69 N k49 n z x1 x3 x5 x6 x7 x8 x9 = some r → W p l e rmX2_lots s m ([.ref (a 0), .int p1, .int p2, .int p3] : List Value).toArray below meth c H locs 0 0 (MQ below (WQi sz D (wHA cI cJ a τ σ) (wHA cI cJ a τ (r.2)) r.1) ([.ref (a 0), .int p1, .int p2, .int p3] : List Value).toArray s 0 0 A) (F0 m 69 ls []) := by
    intro k49 hk49 n
    induction n with
    | zero => intro z x1 x3 x5 x6 x7 x8 x9 H locs ls hP hS hl hf; cases hf
    | succ n ih =>
      intro z x1 x3 x5 x6 x7 x8 x9 H locs ls hP hS hl hf
      rw [fX2_lots_L69] at hf
      refine lv_iload hx hb dX2_lots_69 (lv_at hl 7 rfl) ?_
      refine lv_aload_n hx hb dX2_lots_71 rfl (lv_at hl 0 rfl) ?_
      refine va_get (D := D) (ci := 2) (v := .ref (a 7)) (C := RX2) (T := TX2) (N := 14) hx hb hts inX2 hown hK hP 0 rfl rfl 1 (by decide) ln1 (fun _ h9 => h9) rfl dX2_lots_72 ?_
      refine va_get (D := D) (ci := 0) (v := .int (z 7 3)) (C := RX0) (T := TX0) (N := 9) hx hb hts inX0 hown hK hP 7 rfl rfl 3 (by decide) ln4 (fun _ h9 => h9) rfl dX2_lots_75 ?_
      refine k_icmp_ge (tgt := 109) hx hb dX2_lots_78 (by decide) hf (fun hf => ?_) (fun hf => ?_)
      · refine lv_aload_n hx hb dX2_lots_109 rfl (lv_at hl 0 rfl) ?_
        refine va_get (D := D) (ci := 2) (v := .ref (a 7)) (C := RX2) (T := TX2) (N := 14) hx hb hts inX2 hown hK hP 0 rfl rfl 1 (by decide) ln1 (fun _ h9 => h9) rfl dX2_lots_110 ?_
        refine lv_bipush (v := (12 : Int32)) hx hb dX2_lots_113 (by decide) ?_
        refine c_callV (As := [.int (12 : Int32)]) (rest := []) ⟨hx, hb, hml, hown, hts⟩ hf (fun vq hq => mX0_floorAfter l D cI cJ (sb [7, 8, 9, 10, 11, 12] a) H.size N (sb [7, 8, 9, 10, 11, 12] z) (12 : Int32) vq hq) (cwV 1 hts gX2_lots_X0_floorAfter rfl rfl rfl qX0_floorAfter ⟨Nat.le_of_ble_eq_true rfl, Nat.le_of_ble_eq_true rfl⟩) hK hP hS hA (cmr_HA_Ho_7_8_9_10_11_12 D cI cJ a τ z hP) 0 rfl rfl rfl rfl hl.1 rfl (Nat.le_of_ble_eq_true rfl) dX2_lots_115 ⟨Nat.le_refl _, Nat.le_refl _⟩ (fun v3 H locs hP hS hf => ?_)
        refine lv_istore (lv' := [(9, .int v3), (0, .ref (a 0)), (1, .int x1), (3, .int x3), (5, .int x5), (6, .int x6), (7, .int x7), (8, .int x8)]) hx hb dX2_lots_118 hl (by decide) rfl (fun ls hl => ?_)
        refine lv_iload hx hb dX2_lots_120 (lv_at hl 4 rfl) ?_
        refine lv_iload hx hb dX2_lots_122 (lv_at hl 0 rfl) ?_
        refine lv_bipush (v := (10 : Int32)) hx hb dX2_lots_124 (by decide) ?_
        refine k_icmp_ne (tgt := 133) hx hb dX2_lots_126 (by decide) hf (fun hf => ?_) (fun hf => ?_)
        · refine lv_iconst (v := (0 : Int32)) hx hb dX2_lots_133 (by decide) ?_
          exact b134 k49 hk49 z x1 x3 x6 x7 x8 v3 (0 : Int32) x5 H locs ls hP hS (lv_sub hl [1, 2, 3, 5, 6, 7, 0] rfl) hf
        · refine lv_iconst (v := (1 : Int32)) hx hb dX2_lots_129 (by decide) ?_
          refine lv_goto (tgt := 134) hx hb dX2_lots_130 (by decide) ?_
          exact b134 k49 hk49 z x1 x3 x6 x7 x8 v3 (1 : Int32) x5 H locs ls hP hS (lv_sub hl [1, 2, 3, 5, 6, 7, 0] rfl) hf
      · refine lv_iload hx hb dX2_lots_81 (lv_at hl 5 rfl) ?_
        refine c_callS (As := [.int x7]) (rest := []) ⟨hx, hb, hml, hown, hts⟩ hf (fun vq hq => mX2_nextSeed l D cI cJ H.size N x7 vq hq) (va_cwS 1 hts gX2_lots_X2_nextSeed rfl rfl rfl qX2_nextSeed ⟨Nat.le_of_ble_eq_true rfl, Nat.le_of_ble_eq_true rfl⟩) hK hP hS hA va_P_nil rfl hl.1 rfl (Nat.le_of_ble_eq_true rfl) dX2_lots_83 ⟨Nat.le_refl _, Nat.le_refl _⟩ (fun v9 H locs hP hS hf => ?_)
        refine lv_istore (lv' := [(7, .int v9), (0, .ref (a 0)), (1, .int x1), (3, .int x3), (5, .int x5), (6, .int x6), (8, .int x8), (9, .int x9)]) hx hb dX2_lots_86 hl (by decide) rfl (fun ls hl => ?_)
        refine lv_aload_n hx hb dX2_lots_88 rfl (lv_at hl 1 rfl) ?_
        refine va_get (D := D) (ci := 2) (v := .ref (a 7)) (C := RX2) (T := TX2) (N := 14) hx hb hts inX2 hown hK hP 0 rfl rfl 1 (by decide) ln1 (fun _ h9 => h9) rfl dX2_lots_89 ?_
        refine lv_iload hx hb dX2_lots_92 (lv_at hl 7 rfl) ?_
        refine lv_iload hx hb dX2_lots_94 (lv_at hl 0 rfl) ?_
        refine c_callS (As := [.int v9]) (rest := [.int x9, .ref (a 7)]) ⟨hx, hb, hml, hown, hts⟩ hf (fun vq hq => mX2_drawPlace l D cI cJ H.size N v9 vq hq) (va_cwS 1 hts gX2_lots_X2_drawPlace rfl rfl rfl qX2_drawPlace ⟨Nat.le_of_ble_eq_true rfl, Nat.le_of_ble_eq_true rfl⟩) hK hP hS hA va_P_nil rfl hl.1 rfl (Nat.le_of_ble_eq_true rfl) dX2_lots_96 ⟨Nat.le_refl _, Nat.le_refl _⟩ (fun v10 H locs hP hS hf => ?_)
        refine d_callV (As := [.int x9, .int v10]) (rest := []) (w := (wHA cI cJ a τ)) (wc := (wHo cI (sb [7, 8, 9, 10, 11, 12] a))) (put := (fun uq => pb [7, 8, 9, 10, 11, 12] uq z)) (σ := z) (τ0 := (sb [7, 8, 9, 10, 11, 12] z)) ⟨hx, hb, hml, hown, hts⟩ hf (fun vq zq hq => mX0_put l D cI cJ (sb [7, 8, 9, 10, 11, 12] a) H.size N (sb [7, 8, 9, 10, 11, 12] z) x9 v10 (vq, zq) hq) (cwV 2 hts gX2_lots_X0_put rfl rfl rfl qX0_put ⟨Nat.le_of_ble_eq_true rfl, Nat.le_of_ble_eq_true rfl⟩) hK hP hD hS hA (cmb_HA_Ho_7_8_9_10_11_12 D cI cJ a τ z hP (hD _)) 0 rfl rfl rfl rfl hl.1 rfl (Nat.le_of_ble_eq_true rfl) dX2_lots_99 ⟨Nat.le_refl _, Nat.le_refl _⟩ (fun v12 z11 H locs hP hS hf => ?_)
        refine lv_pop hx hb dX2_lots_102 rfl ?_
        refine k_iinc (d := (1 : Int32)) (lv' := fun v13 => [(9, .int v13), (7, .int v9), (0, .ref (a 0)), (1, .int x1), (3, .int x3), (5, .int x5), (6, .int x6), (8, .int x8)]) hx hb dX2_lots_103 hl (k := 7) rfl (by decide) (by decide) (fun _ => rfl) hf (fun v13 ls hl hf => ?_)
        refine lv_goto (tgt := 69) hx hb dX2_lots_106 (by decide) ?_
        exact ih z11 x1 x3 x5 x6 v9 x8 v13 H locs ls hP hS (lv_sub hl [2, 3, 4, 5, 6, 1, 7, 0] rfl) hf
  have b49 : ∀  (n : Nat) (z : St) (x1 : Int32) (x3 : Int32) (x5 : Int32) (x6 : Int32) (x7 : Int32) (x8 : Int32) (H : Heap) (locs : List Loc) (ls : Array Slot), va_P D vwCl (wHA cI cJ a τ z) H → va_S A s.heap H locs → lv_has ls 10 [(0, .ref (a 0)), (1, .int x1), (3, .int x3), (5, .int x5), (6, .int x6), (7, .int x7), (8, .int x8)] → fX2_lots_L49 N n z x1 x3 x5 x6 x7 x8 = some r → W p l e rmX2_lots s m ([.ref (a 0), .int p1, .int p2, .int p3] : List Value).toArray below meth c H locs 0 0 (MQ below (WQi sz D (wHA cI cJ a τ σ) (wHA cI cJ a τ (r.2)) r.1) ([.ref (a 0), .int p1, .int p2, .int p3] : List Value).toArray s 0 0 A) (F0 m 49 ls []) := by
    intro n
    induction n with
    | zero => intro z x1 x3 x5 x6 x7 x8 H locs ls hP hS hl hf; cases hf
    | succ n ih =>
      intro z x1 x3 x5 x6 x7 x8 H locs ls hP hS hl hf
      rw [fX2_lots_L49] at hf
      refine lv_iload hx hb dX2_lots_49 (lv_at hl 6 rfl) ?_
      refine lv_iload_n hx hb dX2_lots_51 rfl (lv_at hl 1 rfl) ?_
      refine k_icmp_ge (tgt := 160) hx hb dX2_lots_52 (by decide) hf (fun hf => ?_) (fun hf => ?_)
      · refine lv_iload_n hx hb dX2_lots_160 rfl (lv_at hl 2 rfl) ?_
        refine k_if_ne (tgt := 169) hx hb dX2_lots_161 (by decide) hf (fun hf => ?_) (fun hf => ?_)
        · refine lv_iload hx hb dX2_lots_169 (lv_at hl 4 rfl) ?_
          exact W_iret (wHA cI cJ a τ) hx hb hr hlk hP hS hAe hf dX2_lots_171
        · refine lv_iload hx hb dX2_lots_164 (lv_at hl 3 rfl) ?_
          refine lv_goto (tgt := 171) hx hb dX2_lots_166 (by decide) ?_
          exact W_iret (wHA cI cJ a τ) hx hb hr hlk hP hS hAe hf dX2_lots_171
      · refine lv_aload_n hx hb dX2_lots_55 rfl (lv_at hl 0 rfl) ?_
        refine va_get (D := D) (ci := 2) (v := .ref (a 7)) (C := RX2) (T := TX2) (N := 14) hx hb hts inX2 hown hK hP 0 rfl rfl 1 (by decide) ln1 (fun _ h9 => h9) rfl dX2_lots_56 ?_
        refine lv_aload_n hx hb dX2_lots_59 rfl (lv_at hl 0 rfl) ?_
        refine va_get (D := D) (ci := 2) (v := .ref (a 1)) (C := RX2) (T := TX2) (N := 14) hx hb hts inX2 hown hK hP 0 rfl rfl 0 (by decide) ln3 (fun _ h9 => h9) rfl dX2_lots_60 ?_
        refine d_callVv (As := [.ref ((sb [7, 8, 9, 10, 11, 12, 1, 2, 3, 4, 5, 6] a) 6)]) (rest := []) (w := (wHA cI cJ a τ)) (wc := (wHo2 cI (sb [7, 8, 9, 10, 11, 12, 1, 2, 3, 4, 5, 6] a))) (put := (fun uq => pb [7, 8, 9, 10, 11, 12, 1, 2, 3, 4, 5, 6] uq z)) (σ := z) (τ0 := (sb [7, 8, 9, 10, 11, 12, 1, 2, 3, 4, 5, 6] z)) ⟨hx, hb, hml, hown, hts⟩ hf (fun zq hq => mX0_copy l D cI cJ (sb [7, 8, 9, 10, 11, 12, 1, 2, 3, 4, 5, 6] a) H.size N (sb [7, 8, 9, 10, 11, 12, 1, 2, 3, 4, 5, 6] z) zq hq) (cwV 1 hts gX2_lots_X0_copy rfl rfl rfl qX0_copy ⟨Nat.le_of_ble_eq_true rfl, Nat.le_of_ble_eq_true rfl⟩) hK hP hD hS hA (cmb_HA_Ho2_7_8_9_10_11_12_1_2_3_4_5_6 D cI cJ a τ z hP (hD _)) 0 rfl rfl rfl rfl hl.1 rfl (Nat.le_of_ble_eq_true rfl) dX2_lots_63 ⟨Nat.le_refl _, Nat.le_refl _⟩ (fun z2 H locs hP hS hf => ?_)
        refine lv_iconst (v := (0 : Int32)) hx hb dX2_lots_66 (by decide) ?_
        refine lv_istore (lv' := [(9, .int (0 : Int32)), (0, .ref (a 0)), (1, .int x1), (3, .int x3), (5, .int x5), (6, .int x6), (7, .int x7), (8, .int x8)]) hx hb dX2_lots_67 hl (by decide) rfl (fun ls hl => ?_)
        exact b69 (fX2_lots_L49 N n) ih N z2 x1 x3 x5 x6 x7 x8 (0 : Int32) H locs ls hP hS (lv_sub hl [1, 2, 3, 4, 5, 6, 7, 0] rfl) hf
  have b37 : ∀  (z : St) (x1 : Int32) (x2 : Int32) (x3 : Int32) (H : Heap) (locs : List Loc) (ls : Array Slot), va_P D vwCl (wHA cI cJ a τ z) H → va_S A s.heap H locs → lv_has ls 10 [(0, .ref (a 0)), (1, .int x1), (2, .int x2), (3, .int x3)] → fX2_lots_L37 N z x1 x2 x3 = some r → W p l e rmX2_lots s m ([.ref (a 0), .int p1, .int p2, .int p3] : List Value).toArray below meth c H locs 0 0 (MQ below (WQi sz D (wHA cI cJ a τ σ) (wHA cI cJ a τ (r.2)) r.1) ([.ref (a 0), .int p1, .int p2, .int p3] : List Value).toArray s 0 0 A) (F0 m 37 ls []) := by
    intro  z x1 x2 x3 H locs ls hP hS hl hf
    unfold fX2_lots_L37 at hf
    refine lv_iconst (v := (0 : Int32)) hx hb dX2_lots_37 (by decide) ?_
    refine lv_istore (lv' := [(5, .int (0 : Int32)), (0, .ref (a 0)), (1, .int x1), (2, .int x2), (3, .int x3)]) hx hb dX2_lots_38 hl (by decide) rfl (fun ls hl => ?_)
    refine lv_iconst (v := (0 : Int32)) hx hb dX2_lots_40 (by decide) ?_
    refine lv_istore (lv' := [(6, .int (0 : Int32)), (5, .int (0 : Int32)), (0, .ref (a 0)), (1, .int x1), (2, .int x2), (3, .int x3)]) hx hb dX2_lots_41 hl (by decide) rfl (fun ls hl => ?_)
    refine lv_iload_n hx hb dX2_lots_43 rfl (lv_at hl 4 rfl) ?_
    refine lv_istore (lv' := [(7, .int x2), (6, .int (0 : Int32)), (5, .int (0 : Int32)), (0, .ref (a 0)), (1, .int x1), (2, .int x2), (3, .int x3)]) hx hb dX2_lots_44 hl (by decide) rfl (fun ls hl => ?_)
    refine lv_iconst (v := (0 : Int32)) hx hb dX2_lots_46 (by decide) ?_
    refine lv_istore (lv' := [(8, .int (0 : Int32)), (7, .int x2), (6, .int (0 : Int32)), (5, .int (0 : Int32)), (0, .ref (a 0)), (1, .int x1), (2, .int x2), (3, .int x3)]) hx hb dX2_lots_47 hl (by decide) rfl (fun ls hl => ?_)
    exact b49  N z x1 x3 (0 : Int32) (0 : Int32) x2 (0 : Int32) H locs ls hP hS (lv_sub hl [4, 5, 7, 3, 2, 1, 0] rfl) hf
  unfold fX2_lots at hf
  refine lv_iload_n hx hb dX2_lots_0 rfl (lv_at hl 1 rfl) ?_
  refine lv_iconst (v := (1 : Int32)) hx hb dX2_lots_1 (by decide) ?_
  refine lv_bipush (v := (20 : Int32)) hx hb dX2_lots_2 (by decide) ?_
  refine c_callS (As := [.int p1, .int (1 : Int32), .int (20 : Int32)]) (rest := []) ⟨hx, hb, hml, hown, hts⟩ hf (fun vq hq => mX2_faultOf l D cI cJ s.heap.size N p1 (1 : Int32) (20 : Int32) vq hq) (va_cwS 3 hts gX2_lots_X2_faultOf rfl rfl rfl qX2_faultOf ⟨Nat.le_of_ble_eq_true rfl, Nat.le_of_ble_eq_true rfl⟩) hK hP hS hA va_P_nil rfl hl.1 rfl (Nat.le_of_ble_eq_true rfl) dX2_lots_4 ⟨Nat.le_refl _, Nat.le_refl _⟩ (fun v1 H locs hP hS hf => ?_)
  refine lv_istore (lv' := [(4, .int v1), (0, .ref (a 0)), (1, .int p1), (2, .int p2), (3, .int p3)]) hx hb dX2_lots_7 hl (by decide) rfl (fun ls hl => ?_)
  refine lv_iload hx hb dX2_lots_9 (lv_at hl 0 rfl) ?_
  refine k_if_eq (tgt := 21) hx hb dX2_lots_11 (by decide) hf (fun hf => ?_) (fun hf => ?_)
  · refine lv_iload_n hx hb dX2_lots_21 rfl (lv_at hl 4 rfl) ?_
    refine k_if_eq (tgt := 37) hx hb dX2_lots_22 (by decide) hf (fun hf => ?_) (fun hf => ?_)
    · exact b37  σ p1 p2 p3 H locs ls hP hS (lv_sub hl [1, 2, 3, 4] rfl) hf
    · refine lv_iload_n hx hb dX2_lots_25 rfl (lv_at hl 4 rfl) ?_
      refine lv_iconst (v := (1 : Int32)) hx hb dX2_lots_26 (by decide) ?_
      refine k_icmp_eq (tgt := 37) hx hb dX2_lots_27 (by decide) hf (fun hf => ?_) (fun hf => ?_)
      · exact b37  σ p1 p2 p3 H locs ls hP hS (lv_sub hl [1, 2, 3, 4] rfl) hf
      · refine lv_aload_n hx hb dX2_lots_30 rfl (lv_at hl 1 rfl) ?_
        refine lv_bipush (v := (-2 : Int32)) hx hb dX2_lots_31 (by decide) ?_
        refine d_callV (As := [.int (-2 : Int32)]) (rest := []) (w := (wHA cI cJ a τ)) (wc := (wHA cI cJ a τ)) (put := (fun uq => uq)) (σ := σ) (τ0 := σ) ⟨hx, hb, hml, hown, hts⟩ hf (fun vq zq hq => mX2_refuse l D cI cJ a H.size N τ σ (-2 : Int32) (vq, zq) hq) (cwV 1 hts gX2_lots_X2_refuse rfl rfl rfl qX2_refuse ⟨Nat.le_of_ble_eq_true rfl, Nat.le_of_ble_eq_true rfl⟩) hK hP hD hS hA ⟨hP, hD _, fun _ _ _ h => h⟩ 2 rfl rfl rfl rfl hl.1 rfl (Nat.le_of_ble_eq_true rfl) dX2_lots_33 ⟨Nat.le_refl _, Nat.le_refl _⟩ (fun v15 z14 H locs hP hS hf => ?_)
        exact W_iret (wHA cI cJ a τ) hx hb hr hlk hP hS hAe hf dX2_lots_36
  · refine lv_aload_n hx hb dX2_lots_14 rfl (lv_at hl 1 rfl) ?_
    refine lv_iload hx hb dX2_lots_15 (lv_at hl 0 rfl) ?_
    refine d_callV (As := [.int v1]) (rest := []) (w := (wHA cI cJ a τ)) (wc := (wHA cI cJ a τ)) (put := (fun uq => uq)) (σ := σ) (τ0 := σ) ⟨hx, hb, hml, hown, hts⟩ hf (fun vq zq hq => mX2_refuse l D cI cJ a H.size N τ σ v1 (vq, zq) hq) (cwV 1 hts gX2_lots_X2_refuse rfl rfl rfl qX2_refuse ⟨Nat.le_of_ble_eq_true rfl, Nat.le_of_ble_eq_true rfl⟩) hK hP hD hS hA ⟨hP, hD _, fun _ _ _ h => h⟩ 2 rfl rfl rfl rfl hl.1 rfl (Nat.le_of_ble_eq_true rfl) dX2_lots_17 ⟨Nat.le_refl _, Nat.le_refl _⟩ (fun v17 z16 H locs hP hS hf => ?_)
    exact W_iret (wHA cI cJ a τ) hx hb hr hlk hP hS hAe hf dX2_lots_20
def fX2_image (N : Nat) (σ : St)  : Option (Int32 × St) :=
    by_ (fX0_copy N (sb [13, 14, 15, 16, 17, 18, 1, 2, 3, 4, 5, 6] σ)) (fun uq => pb [13, 14, 15, 16, 17, 18, 1, 2, 3, 4, 5, 6] uq σ) (fun z1 =>
    lt_ (up2 z1 0 13 (1 : Int32)) (fun z2 =>
    some ((z2 1 2), z2)))
abbrev rmX2_image : Room := { frames := 1, cells := 0, slots := 0, locals := 22 }
theorem qX2_image : yX2_image.cls = RX2 ∧ yX2_image.cls ≠ "java/lang/invoke/MethodHandle" ∧ yX2_image.cls ≠ "java/lang/invoke/VarHandle" ∧ (parseMethodDescriptor yX2_image.desc).map (fun d => d.parameters.length) = some 0 := by decide +kernel
set_option maxHeartbeats 400000 in
set_option maxRecDepth 100000 in
theorem mX2_image (l : Launch) (D : va_G) (cI cJ : ClassId) (a : Nat → Nat) (sz N : Nat) (τ : LSt) (σ : St)  (r : (Int32 × St)) (hf : fX2_image N σ = some r) : Met l yX2_image wsX2_image rmX2_image (WPre ([.ref (a 0)] : List Value) sz D (tyIJ cI cJ) (wHA cI cJ a τ σ)) (WQi sz D (wHA cI cJ a τ σ) (wHA cI cJ a τ (r.2)) r.1) 0 0 (va_A (wHA cI cJ a τ σ) sz) := by
  refine W_start (cc := cX2_image) (maxL := 1) (ret := (some .int)) (by decide) rfl (Nat.le_of_ble_eq_true rfl) (fun p e s m below meth c ls A hx hb hr hml hown hts hlk hP hK hS hA hD0 hAe hl => ?_)
  have hD : ∀ z, va_D A ((wHA cI cJ a τ) z) := fun z => hD0.ad rfl
  have hown : s.vm.findClass RX2 = some m.cls := hown
  have hl : lv_has ls 1 [(0, .ref (a 0))] := hl
  have ln1 := hts (Cond.fieldLink RX2 19 "HoistsAreShared" "kept" "LHoistsAreShared$Hoist;") (List.mem_of_getElem? (i := 1) rfl)
  have inX2 : ∀ w ∈ u_ws RX2 TX2 14, w ∈ wsX2_image := fun _ h => List.mem_cons_of_mem _ (List.mem_append_left _ (List.mem_append_right _ h))
  have ln3 := hts (Cond.fieldLink RX2 10 "HoistsAreShared" "now" "LHoistsAreShared$Hoist;") (List.mem_of_getElem? (i := 2) rfl)
  have ln4 := hts (Cond.fieldLink RX2 59 "HoistsAreShared" "imaged" "Z") (List.mem_of_getElem? (i := 3) rfl)
  have ln5 := hts (Cond.fieldLink RX2 263 "HoistsAreShared$Hoist" "day" "I") (List.mem_of_getElem? (i := 4) rfl)
  have inX0 : ∀ w ∈ u_ws RX0 TX0 9, w ∈ wsX2_image := fun _ h => List.mem_cons_of_mem _ (List.mem_append_right _ h)
  unfold fX2_image at hf
  refine lv_aload_n hx hb dX2_image_0 rfl (lv_at hl 0 rfl) ?_
  refine va_get (D := D) (ci := 2) (v := .ref (a 13)) (C := RX2) (T := TX2) (N := 14) hx hb hts inX2 hown hK hP 0 rfl rfl 2 (by decide) ln1 (fun _ h9 => h9) rfl dX2_image_1 ?_
  refine lv_aload_n hx hb dX2_image_4 rfl (lv_at hl 0 rfl) ?_
  refine va_get (D := D) (ci := 2) (v := .ref (a 1)) (C := RX2) (T := TX2) (N := 14) hx hb hts inX2 hown hK hP 0 rfl rfl 0 (by decide) ln3 (fun _ h9 => h9) rfl dX2_image_5 ?_
  refine d_callVv (As := [.ref ((sb [13, 14, 15, 16, 17, 18, 1, 2, 3, 4, 5, 6] a) 6)]) (rest := []) (w := (wHA cI cJ a τ)) (wc := (wHo2 cI (sb [13, 14, 15, 16, 17, 18, 1, 2, 3, 4, 5, 6] a))) (put := (fun uq => pb [13, 14, 15, 16, 17, 18, 1, 2, 3, 4, 5, 6] uq σ)) (σ := σ) (τ0 := (sb [13, 14, 15, 16, 17, 18, 1, 2, 3, 4, 5, 6] σ)) ⟨hx, hb, hml, hown, hts⟩ hf (fun zq hq => mX0_copy l D cI cJ (sb [13, 14, 15, 16, 17, 18, 1, 2, 3, 4, 5, 6] a) s.heap.size N (sb [13, 14, 15, 16, 17, 18, 1, 2, 3, 4, 5, 6] σ) zq hq) (cwV 1 hts gX2_image_X0_copy rfl rfl rfl qX0_copy ⟨Nat.le_of_ble_eq_true rfl, Nat.le_of_ble_eq_true rfl⟩) hK hP hD hS hA (cmb_HA_Ho2_13_14_15_16_17_18_1_2_3_4_5_6 D cI cJ a τ σ hP (hD _)) 0 rfl rfl rfl rfl hl.1 rfl (Nat.le_of_ble_eq_true rfl) dX2_image_8 ⟨Nat.le_refl _, Nat.le_refl _⟩ (fun z1 H locs hP hS hf => ?_)
  refine lv_aload_n hx hb dX2_image_11 rfl (lv_at hl 0 rfl) ?_
  refine lv_iconst (v := (1 : Int32)) hx hb dX2_image_12 (by decide) ?_
  refine k_put (ci := 2) (C := RX2) (T := TX2) (N := 14) (ty := .boolean) (w := (wHA cI cJ a τ)) hx hb hts inX2 tyX2 tyX2_ok nmX2 hown hK hP hD hS 0 rfl rfl 13 (by decide) ln4 (fun _ h9 => h9) rfl (by decide +kernel) rfl rfl (Nat.le_of_ble_eq_true rfl) (cN := 0) hf rfl dX2_image_13 (fun z2 H locs hP hS hf => ?_)
  refine lv_aload_n hx hb dX2_image_16 rfl (lv_at hl 0 rfl) ?_
  refine va_get (D := D) (ci := 2) (v := .ref (a 1)) (C := RX2) (T := TX2) (N := 14) hx hb hts inX2 hown hK hP 0 rfl rfl 0 (by decide) ln3 (fun _ h9 => h9) rfl dX2_image_17 ?_
  refine va_get (D := D) (ci := 0) (v := .int (z2 1 2)) (C := RX0) (T := TX0) (N := 9) hx hb hts inX0 hown hK hP 1 rfl rfl 2 (by decide) ln5 (fun _ h9 => h9) rfl dX2_image_20 ?_
  exact W_iret (wHA cI cJ a τ) hx hb hr hlk hP hS hAe hf dX2_image_23
def fX2_on (N : Nat) (σ : St)  : Option (Int32 × St) :=
    if (σ 0 13) = 0 then bx (fX2_refuse N σ (-3 : Int32)) (fun uq => uq) (fun v3 z2 =>
    some (v3, z2))
    else by_ (fX0_copy N (sb [1, 2, 3, 4, 5, 6, 13, 14, 15, 16, 17, 18] σ)) (fun uq => pb [1, 2, 3, 4, 5, 6, 13, 14, 15, 16, 17, 18] uq σ) (fun z1 =>
    some ((z1 1 2), z1))
abbrev rmX2_on : Room := { frames := 1, cells := 0, slots := 0, locals := 22 }
theorem qX2_on : yX2_on.cls = RX2 ∧ yX2_on.cls ≠ "java/lang/invoke/MethodHandle" ∧ yX2_on.cls ≠ "java/lang/invoke/VarHandle" ∧ (parseMethodDescriptor yX2_on.desc).map (fun d => d.parameters.length) = some 0 := by decide +kernel
set_option maxHeartbeats 400000 in
set_option maxRecDepth 100000 in
theorem mX2_on (l : Launch) (D : va_G) (cI cJ : ClassId) (a : Nat → Nat) (sz N : Nat) (τ : LSt) (σ : St)  (r : (Int32 × St)) (hf : fX2_on N σ = some r) : Met l yX2_on wsX2_on rmX2_on (WPre ([.ref (a 0)] : List Value) sz D (tyIJ cI cJ) (wHA cI cJ a τ σ)) (WQi sz D (wHA cI cJ a τ σ) (wHA cI cJ a τ (r.2)) r.1) 0 0 (va_A (wHA cI cJ a τ σ) sz) := by
  refine W_start (cc := cX2_on) (maxL := 1) (ret := (some .int)) (by decide) rfl (Nat.le_of_ble_eq_true rfl) (fun p e s m below meth c ls A hx hb hr hml hown hts hlk hP hK hS hA hD0 hAe hl => ?_)
  have hD : ∀ z, va_D A ((wHA cI cJ a τ) z) := fun z => hD0.ad rfl
  have hown : s.vm.findClass RX2 = some m.cls := hown
  have hl : lv_has ls 1 [(0, .ref (a 0))] := hl
  have ln1 := hts (Cond.fieldLink RX2 59 "HoistsAreShared" "imaged" "Z") (List.mem_of_getElem? (i := 1) rfl)
  have inX2 : ∀ w ∈ u_ws RX2 TX2 14, w ∈ wsX2_on := fun _ h => List.mem_cons_of_mem _ (List.mem_append_left _ (List.mem_append_right _ h))
  have ln3 := hts (Cond.fieldLink RX2 10 "HoistsAreShared" "now" "LHoistsAreShared$Hoist;") (List.mem_of_getElem? (i := 2) rfl)
  have ln4 := hts (Cond.fieldLink RX2 19 "HoistsAreShared" "kept" "LHoistsAreShared$Hoist;") (List.mem_of_getElem? (i := 3) rfl)
  have ln5 := hts (Cond.fieldLink RX2 263 "HoistsAreShared$Hoist" "day" "I") (List.mem_of_getElem? (i := 4) rfl)
  have inX0 : ∀ w ∈ u_ws RX0 TX0 9, w ∈ wsX2_on := fun _ h => List.mem_cons_of_mem _ (List.mem_append_right _ h)
  unfold fX2_on at hf
  refine lv_aload_n hx hb dX2_on_0 rfl (lv_at hl 0 rfl) ?_
  refine va_get (D := D) (ci := 2) (v := .int (σ 0 13)) (C := RX2) (T := TX2) (N := 14) hx hb hts inX2 hown hK hP 0 rfl rfl 13 (by decide) ln1 (fun _ h9 => h9) rfl dX2_on_1 ?_
  refine k_if_ne (tgt := 14) hx hb dX2_on_4 (by decide) hf (fun hf => ?_) (fun hf => ?_)
  · refine lv_aload_n hx hb dX2_on_14 rfl (lv_at hl 0 rfl) ?_
    refine va_get (D := D) (ci := 2) (v := .ref (a 1)) (C := RX2) (T := TX2) (N := 14) hx hb hts inX2 hown hK hP 0 rfl rfl 0 (by decide) ln3 (fun _ h9 => h9) rfl dX2_on_15 ?_
    refine lv_aload_n hx hb dX2_on_18 rfl (lv_at hl 0 rfl) ?_
    refine va_get (D := D) (ci := 2) (v := .ref (a 13)) (C := RX2) (T := TX2) (N := 14) hx hb hts inX2 hown hK hP 0 rfl rfl 2 (by decide) ln4 (fun _ h9 => h9) rfl dX2_on_19 ?_
    refine d_callVv (As := [.ref ((sb [1, 2, 3, 4, 5, 6, 13, 14, 15, 16, 17, 18] a) 6)]) (rest := []) (w := (wHA cI cJ a τ)) (wc := (wHo2 cI (sb [1, 2, 3, 4, 5, 6, 13, 14, 15, 16, 17, 18] a))) (put := (fun uq => pb [1, 2, 3, 4, 5, 6, 13, 14, 15, 16, 17, 18] uq σ)) (σ := σ) (τ0 := (sb [1, 2, 3, 4, 5, 6, 13, 14, 15, 16, 17, 18] σ)) ⟨hx, hb, hml, hown, hts⟩ hf (fun zq hq => mX0_copy l D cI cJ (sb [1, 2, 3, 4, 5, 6, 13, 14, 15, 16, 17, 18] a) s.heap.size N (sb [1, 2, 3, 4, 5, 6, 13, 14, 15, 16, 17, 18] σ) zq hq) (cwV 1 hts gX2_on_X0_copy rfl rfl rfl qX0_copy ⟨Nat.le_of_ble_eq_true rfl, Nat.le_of_ble_eq_true rfl⟩) hK hP hD hS hA (cmb_HA_Ho2_1_2_3_4_5_6_13_14_15_16_17_18 D cI cJ a τ σ hP (hD _)) 0 rfl rfl rfl rfl hl.1 rfl (Nat.le_of_ble_eq_true rfl) dX2_on_22 ⟨Nat.le_refl _, Nat.le_refl _⟩ (fun z1 H locs hP hS hf => ?_)
    refine lv_aload_n hx hb dX2_on_25 rfl (lv_at hl 0 rfl) ?_
    refine va_get (D := D) (ci := 2) (v := .ref (a 1)) (C := RX2) (T := TX2) (N := 14) hx hb hts inX2 hown hK hP 0 rfl rfl 0 (by decide) ln3 (fun _ h9 => h9) rfl dX2_on_26 ?_
    refine va_get (D := D) (ci := 0) (v := .int (z1 1 2)) (C := RX0) (T := TX0) (N := 9) hx hb hts inX0 hown hK hP 1 rfl rfl 2 (by decide) ln5 (fun _ h9 => h9) rfl dX2_on_29 ?_
    exact W_iret (wHA cI cJ a τ) hx hb hr hlk hP hS hAe hf dX2_on_32
  · refine lv_aload_n hx hb dX2_on_7 rfl (lv_at hl 0 rfl) ?_
    refine lv_bipush (v := (-3 : Int32)) hx hb dX2_on_8 (by decide) ?_
    refine d_callV (As := [.int (-3 : Int32)]) (rest := []) (w := (wHA cI cJ a τ)) (wc := (wHA cI cJ a τ)) (put := (fun uq => uq)) (σ := σ) (τ0 := σ) ⟨hx, hb, hml, hown, hts⟩ hf (fun vq zq hq => mX2_refuse l D cI cJ a s.heap.size N τ σ (-3 : Int32) (vq, zq) hq) (cwV 1 hts gX2_on_X2_refuse rfl rfl rfl qX2_refuse ⟨Nat.le_of_ble_eq_true rfl, Nat.le_of_ble_eq_true rfl⟩) hK hP hD hS hA ⟨hP, hD _, fun _ _ _ h => h⟩ 2 rfl rfl rfl rfl hl.1 rfl (Nat.le_of_ble_eq_true rfl) dX2_on_10 ⟨Nat.le_refl _, Nat.le_refl _⟩ (fun v3 z2 H locs hP hS hf => ?_)
    exact W_iret (wHA cI cJ a τ) hx hb hr hlk hP hS hAe hf dX2_on_13
def fX2_refusalsOf (N : Nat) (σ : St) (p1 : Int32) : Option Int32 :=
    if p1 < (1 : Int32) then some (-9 : Int32)
    else if (7 : Int32) ≤ p1 then some (-9 : Int32)
    else bo (rdI σ 28 7 p1) (fun v1 =>
    some v1)
abbrev rmX2_refusalsOf : Room := { frames := 0, cells := 0, slots := 0, locals := 0 }
theorem qX2_refusalsOf : yX2_refusalsOf.cls = RX2 ∧ yX2_refusalsOf.cls ≠ "java/lang/invoke/MethodHandle" ∧ yX2_refusalsOf.cls ≠ "java/lang/invoke/VarHandle" ∧ (parseMethodDescriptor yX2_refusalsOf.desc).map (fun d => d.parameters.length) = some 1 := by decide +kernel
set_option maxHeartbeats 400000 in
set_option maxRecDepth 100000 in
theorem mX2_refusalsOf (l : Launch) (D : va_G) (cI cJ : ClassId) (a : Nat → Nat) (sz N : Nat) (τ : LSt) (σ : St) (p1 : Int32) (r : Int32) (hf : fX2_refusalsOf N σ p1 = some r) : Met l yX2_refusalsOf wsX2_refusalsOf rmX2_refusalsOf (RPre ([.ref (a 0), .int p1] : List Value) sz D (tyIJ cI cJ) (wHA cI cJ a τ σ)) (RQi sz r) 0 0 (fr0 sz) := by
  refine R_start (cc := cX2_refusalsOf) (maxL := 2) (ret := (some .int)) (by decide) rfl (Nat.le_of_ble_eq_true rfl) (fun p e s m below meth c ls hx hb hr hml hown hts hlk hP hK hS hA hsz hl => ?_)
  have hown : s.vm.findClass RX2 = some m.cls := hown
  have hl : lv_has ls 2 [(0, .ref (a 0)), (1, .int p1)] := hl
  have ln1 := hts (Cond.fieldLink RX2 52 "HoistsAreShared" "refusals" "[I") (List.mem_of_getElem? (i := 1) rfl)
  have inX2 : ∀ w ∈ u_ws RX2 TX2 14, w ∈ wsX2_refusalsOf := fun _ h => List.mem_cons_of_mem _ (List.mem_append_right _ h)
  unfold fX2_refusalsOf at hf
  refine lv_iload_n hx hb dX2_refusalsOf_0 rfl (lv_at hl 1 rfl) ?_
  refine lv_iconst (v := (1 : Int32)) hx hb dX2_refusalsOf_1 (by decide) ?_
  refine k_icmp_lt (tgt := 23) hx hb dX2_refusalsOf_2 (by decide) hf (fun hf => ?_) (fun hf => ?_)
  · refine lv_bipush (v := (-9 : Int32)) hx hb dX2_refusalsOf_23 (by decide) ?_
    exact R_iret hx hb hr hlk hS hsz hf dX2_refusalsOf_25
  · refine lv_iload_n hx hb dX2_refusalsOf_5 rfl (lv_at hl 1 rfl) ?_
    refine lv_aload_n hx hb dX2_refusalsOf_6 rfl (lv_at hl 0 rfl) ?_
    refine va_get (D := D) (ci := 2) (v := .ref (a 28)) (C := RX2) (T := TX2) (N := 14) hx hb hts inX2 hown hK hP 0 rfl rfl 11 (by decide) ln1 (fun _ h9 => h9) rfl dX2_refusalsOf_7 ?_
    refine va_alen (v := (7 : Int32)) hx hb hK hP 28 0 rfl rfl rfl dX2_refusalsOf_10 ?_
    refine k_icmp_ge (tgt := 23) hx hb dX2_refusalsOf_11 (by decide) hf (fun hf => ?_) (fun hf => ?_)
    · refine lv_bipush (v := (-9 : Int32)) hx hb dX2_refusalsOf_23 (by decide) ?_
      exact R_iret hx hb hr hlk hS hsz hf dX2_refusalsOf_25
    · refine lv_aload_n hx hb dX2_refusalsOf_14 rfl (lv_at hl 0 rfl) ?_
      refine va_get (D := D) (ci := 2) (v := .ref (a 28)) (C := RX2) (T := TX2) (N := 14) hx hb hts inX2 hown hK hP 0 rfl rfl 11 (by decide) ln1 (fun _ h9 => h9) rfl dX2_refusalsOf_15 ?_
      refine lv_iload_n hx hb dX2_refusalsOf_18 rfl (lv_at hl 1 rfl) ?_
      refine k_iald hx hb hK hP 28 0 hf rfl rfl dX2_refusalsOf_19 (fun v1 hf => ?_)
      refine lv_goto (tgt := 25) hx hb dX2_refusalsOf_20 (by decide) ?_
      exact R_iret hx hb hr hlk hS hsz hf dX2_refusalsOf_25
def fX2_count (N : Nat) (σ : St) (p1 : Int32) : Option Int32 :=
    if p1 = (0 : Int32) then some (σ 1 3)
    else if p1 = (1 : Int32) then some (σ 1 2)
    else if p1 = (2 : Int32) then some (σ 1 0)
    else if p1 = (3 : Int32) then some (σ 1 1)
    else if p1 = (4 : Int32) then bo (fX0_bitsAt N (sb [1, 2, 3, 4, 5, 6] σ) (2 : Int32)) (fun v5 =>
    some v5)
    else if p1 = (5 : Int32) then bo (fX0_weighsAll N (sb [1, 2, 3, 4, 5, 6] σ)) (fun v7 =>
    some v7)
    else if p1 = (6 : Int32) then some (σ 0 12)
    else if p1 = (7 : Int32) then some (σ 19 0)
    else bo (fX2_refusalsOf N σ (p1 - (10 : Int32))) (fun v11 =>
    some v11)
abbrev rmX2_count : Room := { frames := 3, cells := 0, slots := 0, locals := 71 }
theorem qX2_count : yX2_count.cls = RX2 ∧ yX2_count.cls ≠ "java/lang/invoke/MethodHandle" ∧ yX2_count.cls ≠ "java/lang/invoke/VarHandle" ∧ (parseMethodDescriptor yX2_count.desc).map (fun d => d.parameters.length) = some 1 := by decide +kernel
set_option maxHeartbeats 400000 in
set_option maxRecDepth 100000 in
theorem mX2_count (l : Launch) (D : va_G) (cI cJ : ClassId) (a : Nat → Nat) (sz N : Nat) (τ : LSt) (σ : St) (p1 : Int32) (r : Int32) (hf : fX2_count N σ p1 = some r) : Met l yX2_count wsX2_count rmX2_count (RPre ([.ref (a 0), .int p1] : List Value) sz D (tyIJ cI cJ) (wHA cI cJ a τ σ)) (RQi sz r) 0 0 (fr0 sz) := by
  refine R_start (cc := cX2_count) (maxL := 2) (ret := (some .int)) (by decide) rfl (Nat.le_of_ble_eq_true rfl) (fun p e s m below meth c ls hx hb hr hml hown hts hlk hP hK hS hA hsz hl => ?_)
  have hown : s.vm.findClass RX2 = some m.cls := hown
  have hl : lv_has ls 2 [(0, .ref (a 0)), (1, .int p1)] := hl
  have ln1 := hts (Cond.fieldLink RX2 10 "HoistsAreShared" "now" "LHoistsAreShared$Hoist;") (List.mem_of_getElem? (i := 1) rfl)
  have inX2 : ∀ w ∈ u_ws RX2 TX2 14, w ∈ wsX2_count := fun _ h => List.mem_cons_of_mem _ (List.mem_append_left _ (List.mem_append_left _ (List.mem_append_right _ h)))
  have ln3 := hts (Cond.fieldLink RX2 196 "HoistsAreShared$Hoist" "things" "I") (List.mem_of_getElem? (i := 2) rfl)
  have inX0 : ∀ w ∈ u_ws RX0 TX0 9, w ∈ wsX2_count := fun _ h => List.mem_cons_of_mem _ (List.mem_append_left _ (List.mem_append_right _ h))
  have ln5 := hts (Cond.fieldLink RX2 263 "HoistsAreShared$Hoist" "day" "I") (List.mem_of_getElem? (i := 3) rfl)
  have ln6 := hts (Cond.fieldLink RX2 112 "HoistsAreShared$Hoist" "floor" "I") (List.mem_of_getElem? (i := 4) rfl)
  have ln7 := hts (Cond.fieldLink RX2 266 "HoistsAreShared$Hoist" "doorBits" "I") (List.mem_of_getElem? (i := 5) rfl)
  have ln8 := hts (Cond.fieldLink RX2 55 "HoistsAreShared" "rowLength" "I") (List.mem_of_getElem? (i := 6) rfl)
  have ln9 := hts (Cond.fieldLink RX2 25 "HoistsAreShared" "telling" "LHoistsAreShared$Telling;") (List.mem_of_getElem? (i := 7) rfl)
  have ln10 := hts (Cond.fieldLink RX2 75 "HoistsAreShared$Telling" "told" "I") (List.mem_of_getElem? (i := 8) rfl)
  have inX1 : ∀ w ∈ u_ws RX1 TX1 2, w ∈ wsX2_count := fun _ h => List.mem_cons_of_mem _ (List.mem_append_right _ h)
  unfold fX2_count at hf
  refine lv_iload_n hx hb dX2_count_0 rfl (lv_at hl 1 rfl) ?_
  refine sw_if hf (fun c1 hf => ?_) (fun c1 hf => ?_)
  · refine lv_tableIn (off := 47) (tgt := 48) hx hb dX2_count_1 (by rw [c1]; decide) (by rw [c1]; decide) (by rw [c1]; decide) (by decide) ?_
    refine lv_aload_n hx hb dX2_count_48 rfl (lv_at hl 0 rfl) ?_
    refine va_get (D := D) (ci := 2) (v := .ref (a 1)) (C := RX2) (T := TX2) (N := 14) hx hb hts inX2 hown hK hP 0 rfl rfl 0 (by decide) ln1 (fun _ h9 => h9) rfl dX2_count_49 ?_
    refine va_get (D := D) (ci := 0) (v := .int (σ 1 3)) (C := RX0) (T := TX0) (N := 9) hx hb hts inX0 hown hK hP 1 rfl rfl 3 (by decide) ln3 (fun _ h9 => h9) rfl dX2_count_52 ?_
    exact R_iret hx hb hr hlk hS hsz hf dX2_count_55
  · have c1 := i32_ne c1 (n := 0) (by decide)
    refine sw_if hf (fun c2 hf => ?_) (fun c2 hf => ?_)
    · refine lv_tableIn (off := 55) (tgt := 56) hx hb dX2_count_1 (by rw [c2]; decide) (by rw [c2]; decide) (by rw [c2]; decide) (by decide) ?_
      refine lv_aload_n hx hb dX2_count_56 rfl (lv_at hl 0 rfl) ?_
      refine va_get (D := D) (ci := 2) (v := .ref (a 1)) (C := RX2) (T := TX2) (N := 14) hx hb hts inX2 hown hK hP 0 rfl rfl 0 (by decide) ln1 (fun _ h9 => h9) rfl dX2_count_57 ?_
      refine va_get (D := D) (ci := 0) (v := .int (σ 1 2)) (C := RX0) (T := TX0) (N := 9) hx hb hts inX0 hown hK hP 1 rfl rfl 2 (by decide) ln5 (fun _ h9 => h9) rfl dX2_count_60 ?_
      exact R_iret hx hb hr hlk hS hsz hf dX2_count_63
    · have c2 := i32_ne c2 (n := 1) (by decide)
      refine sw_if hf (fun c3 hf => ?_) (fun c3 hf => ?_)
      · refine lv_tableIn (off := 63) (tgt := 64) hx hb dX2_count_1 (by rw [c3]; decide) (by rw [c3]; decide) (by rw [c3]; decide) (by decide) ?_
        refine lv_aload_n hx hb dX2_count_64 rfl (lv_at hl 0 rfl) ?_
        refine va_get (D := D) (ci := 2) (v := .ref (a 1)) (C := RX2) (T := TX2) (N := 14) hx hb hts inX2 hown hK hP 0 rfl rfl 0 (by decide) ln1 (fun _ h9 => h9) rfl dX2_count_65 ?_
        refine va_get (D := D) (ci := 0) (v := .int (σ 1 0)) (C := RX0) (T := TX0) (N := 9) hx hb hts inX0 hown hK hP 1 rfl rfl 0 (by decide) ln6 (fun _ h9 => h9) rfl dX2_count_68 ?_
        exact R_iret hx hb hr hlk hS hsz hf dX2_count_71
      · have c3 := i32_ne c3 (n := 2) (by decide)
        refine sw_if hf (fun c4 hf => ?_) (fun c4 hf => ?_)
        · refine lv_tableIn (off := 71) (tgt := 72) hx hb dX2_count_1 (by rw [c4]; decide) (by rw [c4]; decide) (by rw [c4]; decide) (by decide) ?_
          refine lv_aload_n hx hb dX2_count_72 rfl (lv_at hl 0 rfl) ?_
          refine va_get (D := D) (ci := 2) (v := .ref (a 1)) (C := RX2) (T := TX2) (N := 14) hx hb hts inX2 hown hK hP 0 rfl rfl 0 (by decide) ln1 (fun _ h9 => h9) rfl dX2_count_73 ?_
          refine va_get (D := D) (ci := 0) (v := .int (σ 1 1)) (C := RX0) (T := TX0) (N := 9) hx hb hts inX0 hown hK hP 1 rfl rfl 1 (by decide) ln7 (fun _ h9 => h9) rfl dX2_count_76 ?_
          exact R_iret hx hb hr hlk hS hsz hf dX2_count_79
        · have c4 := i32_ne c4 (n := 3) (by decide)
          refine sw_if hf (fun c6 hf => ?_) (fun c6 hf => ?_)
          · refine lv_tableIn (off := 79) (tgt := 80) hx hb dX2_count_1 (by rw [c6]; decide) (by rw [c6]; decide) (by rw [c6]; decide) (by decide) ?_
            refine lv_aload_n hx hb dX2_count_80 rfl (lv_at hl 0 rfl) ?_
            refine va_get (D := D) (ci := 2) (v := .ref (a 1)) (C := RX2) (T := TX2) (N := 14) hx hb hts inX2 hown hK hP 0 rfl rfl 0 (by decide) ln1 (fun _ h9 => h9) rfl dX2_count_81 ?_
            refine lv_iconst (v := (2 : Int32)) hx hb dX2_count_84 (by decide) ?_
            refine c_callV (As := [.int (2 : Int32)]) (rest := []) ⟨hx, hb, hml, hown, hts⟩ hf (fun vq hq => mX0_bitsAt l D cI cJ (sb [1, 2, 3, 4, 5, 6] a) s.heap.size N (sb [1, 2, 3, 4, 5, 6] σ) (2 : Int32) vq hq) (cwV 1 hts gX2_count_X0_bitsAt rfl rfl rfl qX0_bitsAt ⟨Nat.le_of_ble_eq_true rfl, Nat.le_of_ble_eq_true rfl⟩) hK hP hS hA (cmr_HA_Ho_1_2_3_4_5_6 D cI cJ a τ σ hP) 0 rfl rfl rfl rfl hl.1 rfl (Nat.le_of_ble_eq_true rfl) dX2_count_85 ⟨Nat.le_refl _, Nat.le_refl _⟩ (fun v5 H locs hP hS hf => ?_)
            exact R_iret hx hb hr hlk hS hsz hf dX2_count_88
          · have c6 := i32_ne c6 (n := 4) (by decide)
            refine sw_if hf (fun c8 hf => ?_) (fun c8 hf => ?_)
            · refine lv_tableIn (off := 88) (tgt := 89) hx hb dX2_count_1 (by rw [c8]; decide) (by rw [c8]; decide) (by rw [c8]; decide) (by decide) ?_
              refine lv_aload_n hx hb dX2_count_89 rfl (lv_at hl 0 rfl) ?_
              refine va_get (D := D) (ci := 2) (v := .ref (a 1)) (C := RX2) (T := TX2) (N := 14) hx hb hts inX2 hown hK hP 0 rfl rfl 0 (by decide) ln1 (fun _ h9 => h9) rfl dX2_count_90 ?_
              refine c_callV (As := []) (rest := []) ⟨hx, hb, hml, hown, hts⟩ hf (fun vq hq => mX0_weighsAll l D cI cJ (sb [1, 2, 3, 4, 5, 6] a) s.heap.size N (sb [1, 2, 3, 4, 5, 6] σ) vq hq) (cwV 0 hts gX2_count_X0_weighsAll rfl rfl rfl qX0_weighsAll ⟨Nat.le_of_ble_eq_true rfl, Nat.le_of_ble_eq_true rfl⟩) hK hP hS hA (cmr_HA_Ho_1_2_3_4_5_6 D cI cJ a τ σ hP) 0 rfl rfl rfl rfl hl.1 rfl (Nat.le_of_ble_eq_true rfl) dX2_count_93 ⟨Nat.le_refl _, Nat.le_refl _⟩ (fun v7 H locs hP hS hf => ?_)
              exact R_iret hx hb hr hlk hS hsz hf dX2_count_96
            · have c8 := i32_ne c8 (n := 5) (by decide)
              refine sw_if hf (fun c9 hf => ?_) (fun c9 hf => ?_)
              · refine lv_tableIn (off := 96) (tgt := 97) hx hb dX2_count_1 (by rw [c9]; decide) (by rw [c9]; decide) (by rw [c9]; decide) (by decide) ?_
                refine lv_aload_n hx hb dX2_count_97 rfl (lv_at hl 0 rfl) ?_
                refine va_get (D := D) (ci := 2) (v := .int (σ 0 12)) (C := RX2) (T := TX2) (N := 14) hx hb hts inX2 hown hK hP 0 rfl rfl 12 (by decide) ln8 (fun _ h9 => h9) rfl dX2_count_98 ?_
                exact R_iret hx hb hr hlk hS hsz hf dX2_count_101
              · have c9 := i32_ne c9 (n := 6) (by decide)
                refine sw_if hf (fun c10 hf => ?_) (fun c10 hf => ?_)
                · refine lv_tableIn (off := 101) (tgt := 102) hx hb dX2_count_1 (by rw [c10]; decide) (by rw [c10]; decide) (by rw [c10]; decide) (by decide) ?_
                  refine lv_aload_n hx hb dX2_count_102 rfl (lv_at hl 0 rfl) ?_
                  refine va_get (D := D) (ci := 2) (v := .ref (a 19)) (C := RX2) (T := TX2) (N := 14) hx hb hts inX2 hown hK hP 0 rfl rfl 3 (by decide) ln9 (fun _ h9 => h9) rfl dX2_count_103 ?_
                  refine va_get (D := D) (ci := 1) (v := .int (σ 19 0)) (C := RX1) (T := TX1) (N := 2) hx hb hts inX1 hown hK hP 19 rfl rfl 0 (by decide) ln10 (fun _ h9 => h9) rfl dX2_count_106 ?_
                  exact R_iret hx hb hr hlk hS hsz hf dX2_count_109
                · have c10 := i32_ne c10 (n := 7) (by decide)
                  refine lv_tableOut (tgt := 110) hx hb dX2_count_1 (by omega) (by decide) ?_
                  refine lv_aload_n hx hb dX2_count_110 rfl (lv_at hl 0 rfl) ?_
                  refine lv_iload_n hx hb dX2_count_111 rfl (lv_at hl 1 rfl) ?_
                  refine lv_bipush (v := (10 : Int32)) hx hb dX2_count_112 (by decide) ?_
                  refine lv_isub hx hb dX2_count_114 ?_
                  refine c_callV (As := [.int (p1 - (10 : Int32))]) (rest := []) ⟨hx, hb, hml, hown, hts⟩ hf (fun vq hq => mX2_refusalsOf l D cI cJ a s.heap.size N τ σ (p1 - (10 : Int32)) vq hq) (cwV 1 hts gX2_count_X2_refusalsOf rfl rfl rfl qX2_refusalsOf ⟨Nat.le_of_ble_eq_true rfl, Nat.le_of_ble_eq_true rfl⟩) hK hP hS hA hP 2 rfl rfl rfl rfl hl.1 rfl (Nat.le_of_ble_eq_true rfl) dX2_count_115 ⟨Nat.le_refl _, Nat.le_refl _⟩ (fun v11 H locs hP hS hf => ?_)
                  exact R_iret hx hb hr hlk hS hsz hf dX2_count_118
