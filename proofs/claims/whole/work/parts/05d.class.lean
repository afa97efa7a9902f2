def fX2_refuse (N : Nat) (σ : St) (p1 : Int32) : Option (Int32 × St) :=
    lt_ ((-p1) : Int32) (fun v1 =>
    if v1 < (1 : Int32) then some (p1, σ)
    else if (7 : Int32) ≤ v1 then some (p1, σ)
    else bo (rdI σ 28 7 v1) (fun v2 =>
    lt_ ((v2 + (1 : Int32)) : Int32) (fun v4 =>
    bo (wrI σ 28 7 v1 v4) (fun z3 =>
    some (p1, z3)))))
abbrev rmX2_refuse : Room := { frames := 0, cells := 0, slots := 0, locals := 0 }
theorem qX2_refuse : yX2_refuse.cls = RX2 ∧ yX2_refuse.cls ≠ "java/lang/invoke/MethodHandle" ∧ yX2_refuse.cls ≠ "java/lang/invoke/VarHandle" ∧ (parseMethodDescriptor yX2_refuse.desc).map (fun d => d.parameters.length) = some 1 := by decide +kernel
set_option maxHeartbeats 400000 in
set_option maxRecDepth 100000 in
theorem mX2_refuse (l : Launch) (D : va_G) (cI cJ : ClassId) (a : Nat → Nat) (sz N : Nat) (τ : LSt) (σ : St) (p1 : Int32) (r : (Int32 × St)) (hf : fX2_refuse N σ p1 = some r) : Met l yX2_refuse wsX2_refuse rmX2_refuse (WPre ([.ref (a 0), .int p1] : List Value) sz D (tyIJ cI cJ) (wHA cI cJ a τ σ)) (WQi sz D (wHA cI cJ a τ σ) (wHA cI cJ a τ (r.2)) r.1) 0 0 (va_A (wHA cI cJ a τ σ) sz) := by
  refine W_start (cc := cX2_refuse) (maxL := 3) (ret := (some .int)) (by decide) rfl (Nat.le_of_ble_eq_true rfl) (fun p e s m below meth c ls A hx hb hr hml hown hts hlk hP hK hS hA hD0 hAe hl => ?_)
  have hD : ∀ z, va_D A ((wHA cI cJ a τ) z) := fun z => hD0.ad rfl
  have hown : s.vm.findClass RX2 = some m.cls := hown
  have hl : lv_has ls 3 [(0, .ref (a 0)), (1, .int p1)] := hl
  have ln1 := hts (Cond.fieldLink RX2 52 "HoistsAreShared" "refusals" "[I") (List.mem_of_getElem? (i := 1) rfl)
  have inX2 : ∀ w ∈ u_ws RX2 TX2 14, w ∈ wsX2_refuse := fun _ h => List.mem_cons_of_mem _ (List.mem_append_right _ h)
  unfold fX2_refuse at hf
  refine lv_iload_n hx hb dX2_refuse_0 rfl (lv_at hl 1 rfl) ?_
  refine lv_ineg hx hb dX2_refuse_1 ?_
  refine k_let hf (fun v1 hf => ?_)
  refine lv_istore_n (lv' := [(2, .int v1), (0, .ref (a 0)), (1, .int p1)]) hx hb dX2_refuse_2 rfl hl (by decide) rfl (fun ls hl => ?_)
  refine lv_iload_n hx hb dX2_refuse_3 rfl (lv_at hl 0 rfl) ?_
  refine lv_iconst (v := (1 : Int32)) hx hb dX2_refuse_4 (by decide) ?_
  refine k_icmp_lt (tgt := 27) hx hb dX2_refuse_5 (by decide) hf (fun hf => ?_) (fun hf => ?_)
  · refine lv_iload_n hx hb dX2_refuse_27 rfl (lv_at hl 2 rfl) ?_
    exact W_iret (wHA cI cJ a τ) hx hb hr hlk hP hS hAe hf dX2_refuse_28
  · refine lv_iload_n hx hb dX2_refuse_8 rfl (lv_at hl 0 rfl) ?_
    refine lv_aload_n hx hb dX2_refuse_9 rfl (lv_at hl 1 rfl) ?_
    refine va_get (D := D) (ci := 2) (v := .ref (a 28)) (C := RX2) (T := TX2) (N := 14) hx hb hts inX2 hown hK hP 0 rfl rfl 11 (by decide) ln1 (fun _ h9 => h9) rfl dX2_refuse_10 ?_
    refine va_alen (v := (7 : Int32)) hx hb hK hP 28 0 rfl rfl rfl dX2_refuse_13 ?_
    refine k_icmp_ge (tgt := 27) hx hb dX2_refuse_14 (by decide) hf (fun hf => ?_) (fun hf => ?_)
    · refine lv_iload_n hx hb dX2_refuse_27 rfl (lv_at hl 2 rfl) ?_
      exact W_iret (wHA cI cJ a τ) hx hb hr hlk hP hS hAe hf dX2_refuse_28
    · refine lv_aload_n hx hb dX2_refuse_17 rfl (lv_at hl 1 rfl) ?_
      refine va_get (D := D) (ci := 2) (v := .ref (a 28)) (C := RX2) (T := TX2) (N := 14) hx hb hts inX2 hown hK hP 0 rfl rfl 11 (by decide) ln1 (fun _ h9 => h9) rfl dX2_refuse_18 ?_
      refine lv_iload_n hx hb dX2_refuse_21 rfl (lv_at hl 0 rfl) ?_
      refine lv_dup2_11 hx hb dX2_refuse_22 rfl rfl ?_
      refine k_iald hx hb hK hP 28 0 hf rfl rfl dX2_refuse_23 (fun v2 hf => ?_)
      refine lv_iconst (v := (1 : Int32)) hx hb dX2_refuse_24 (by decide) ?_
      refine lv_iadd hx hb dX2_refuse_25 ?_
      refine k_let hf (fun v4 hf => ?_)
      refine k_iast (w := (wHA cI cJ a τ)) hx hb hK hP hD hS 28 0 hf rfl rfl (fun _ => rfl) dX2_refuse_26 (fun z3 H locs hP hS hf => ?_)
      refine lv_iload_n hx hb dX2_refuse_27 rfl (lv_at hl 2 rfl) ?_
      exact W_iret (wHA cI cJ a τ) hx hb hr hlk hP hS hAe hf dX2_refuse_28
def fX2_letter_L28 (N : Nat)  (z : St) : Option (Int32 × St) :=
    bx (fX2_refuse N z (-6 : Int32)) (fun uq => uq) (fun v2 z1 =>
    some (v2, z1))
def fX2_letter (N : Nat) (σ : St) (p1 : Int32) : Option (Int32 × St) :=
    if 0 ≤ p1 then if (255 : Int32) < p1 then fX2_letter_L28 N  σ
    else bo (fX1_isFull N (sb [19, 20] σ)) (fun v3 =>
    if v3 = 0 then by_ (fX1_add N (sb [19, 20] σ) p1) (fun uq => pb [19, 20] uq σ) (fun z4 =>
    some ((z4 19 0), z4))
    else fX2_letter_L28 N  σ)
    else bx (fX2_refuse N σ (-4 : Int32)) (fun uq => uq) (fun v6 z5 =>
    some (v6, z5))
abbrev rmX2_letter : Room := { frames := 2, cells := 0, slots := 0, locals := 41 }
theorem qX2_letter : yX2_letter.cls = RX2 ∧ yX2_letter.cls ≠ "java/lang/invoke/MethodHandle" ∧ yX2_letter.cls ≠ "java/lang/invoke/VarHandle" ∧ (parseMethodDescriptor yX2_letter.desc).map (fun d => d.parameters.length) = some 1 := by decide +kernel
set_option maxHeartbeats 400000 in
set_option maxRecDepth 100000 in
theorem mX2_letter (l : Launch) (D : va_G) (cI cJ : ClassId) (a : Nat → Nat) (sz N : Nat) (τ : LSt) (σ : St) (p1 : Int32) (r : (Int32 × St)) (hf : fX2_letter N σ p1 = some r) : Met l yX2_letter wsX2_letter rmX2_letter (WPre ([.ref (a 0), .int p1] : List Value) sz D (tyIJ cI cJ) (wHA cI cJ a τ σ)) (WQi sz D (wHA cI cJ a τ σ) (wHA cI cJ a τ (r.2)) r.1) 0 0 (va_A (wHA cI cJ a τ σ) sz) := by
  refine W_start (cc := cX2_letter) (maxL := 2) (ret := (some .int)) (by decide) rfl (Nat.le_of_ble_eq_true rfl) (fun p e s m below meth c ls A hx hb hr hml hown hts hlk hP hK hS hA hD0 hAe hl => ?_)
  have hD : ∀ z, va_D A ((wHA cI cJ a τ) z) := fun z => hD0.ad rfl
  have hown : s.vm.findClass RX2 = some m.cls := hown
  have hl : lv_has ls 2 [(0, .ref (a 0)), (1, .int p1)] := hl
  have ln1 := hts (Cond.fieldLink RX2 25 "HoistsAreShared" "telling" "LHoistsAreShared$Telling;") (List.mem_of_getElem? (i := 1) rfl)
  have inX2 : ∀ w ∈ u_ws RX2 TX2 14, w ∈ wsX2_letter := fun _ h => List.mem_cons_of_mem _ (List.mem_append_left _ (List.mem_append_right _ h))
  have ln3 := hts (Cond.fieldLink RX2 75 "HoistsAreShared$Telling" "told" "I") (List.mem_of_getElem? (i := 2) rfl)
  have inX1 : ∀ w ∈ u_ws RX1 TX1 2, w ∈ wsX2_letter := fun _ h => List.mem_cons_of_mem _ (List.mem_append_right _ h)
  have b28 : ∀  (z : St) (H : Heap) (locs : List Loc) (ls : Array Slot), va_P D vwCl (wHA cI cJ a τ z) H → va_S A s.heap H locs → lv_has ls 2 [(0, .ref (a 0))] → fX2_letter_L28 N z = some r → W p l e rmX2_letter s m ([.ref (a 0), .int p1] : List Value).toArray below meth c H locs 0 0 (MQ below (WQi sz D (wHA cI cJ a τ σ) (wHA cI cJ a τ (r.2)) r.1) ([.ref (a 0), .int p1] : List Value).toArray s 0 0 A) (F0 m 28 ls []) := by
    intro  z H locs ls hP hS hl hf
    unfold fX2_letter_L28 at hf
    refine lv_aload_n hx hb dX2_letter_28 rfl (lv_at hl 0 rfl) ?_
    refine lv_bipush (v := (-6 : Int32)) hx hb dX2_letter_29 (by decide) ?_
    refine d_callV (As := [.int (-6 : Int32)]) (rest := []) (w := (wHA cI cJ a τ)) (wc := (wHA cI cJ a τ)) (put := (fun uq => uq)) (σ := z) (τ0 := z) ⟨hx, hb, hml, hown, hts⟩ hf (fun vq zq hq => mX2_refuse l D cI cJ a H.size N τ z (-6 : Int32) (vq, zq) hq) (cwV 1 hts gX2_letter_X2_refuse rfl rfl rfl qX2_refuse ⟨Nat.le_of_ble_eq_true rfl, Nat.le_of_ble_eq_true rfl⟩) hK hP hD hS hA ⟨hP, hD _, fun _ _ _ h => h⟩ 2 rfl rfl rfl rfl hl.1 rfl (Nat.le_of_ble_eq_true rfl) dX2_letter_31 ⟨Nat.le_refl _, Nat.le_refl _⟩ (fun v2 z1 H locs hP hS hf => ?_)
    exact W_iret (wHA cI cJ a τ) hx hb hr hlk hP hS hAe hf dX2_letter_34
  unfold fX2_letter at hf
  refine lv_iload_n hx hb dX2_letter_0 rfl (lv_at hl 1 rfl) ?_
  refine k_if_ge (tgt := 11) hx hb dX2_letter_1 (by decide) hf (fun hf => ?_) (fun hf => ?_)
  · refine lv_iload_n hx hb dX2_letter_11 rfl (lv_at hl 1 rfl) ?_
    refine lv_sipush (v := (255 : Int32)) hx hb dX2_letter_12 (by decide) ?_
    refine k_icmp_gt (tgt := 28) hx hb dX2_letter_15 (by decide) hf (fun hf => ?_) (fun hf => ?_)
    · exact b28  σ s.heap [] ls hP hS (lv_sub hl [0] rfl) hf
    · refine lv_aload_n hx hb dX2_letter_18 rfl (lv_at hl 0 rfl) ?_
      refine va_get (D := D) (ci := 2) (v := .ref (a 19)) (C := RX2) (T := TX2) (N := 14) hx hb hts inX2 hown hK hP 0 rfl rfl 3 (by decide) ln1 (fun _ h9 => h9) rfl dX2_letter_19 ?_
      refine c_callV (As := []) (rest := []) ⟨hx, hb, hml, hown, hts⟩ hf (fun vq hq => mX1_isFull l D cI cJ (sb [19, 20] a) s.heap.size N (sb [19, 20] σ) vq hq) (cwV 0 hts gX2_letter_X1_isFull rfl rfl rfl qX1_isFull ⟨Nat.le_of_ble_eq_true rfl, Nat.le_of_ble_eq_true rfl⟩) hK hP hS hA (cmr_HA_Te_19_20 D cI cJ a τ σ hP) 1 rfl rfl rfl rfl hl.1 rfl (Nat.le_of_ble_eq_true rfl) dX2_letter_22 ⟨Nat.le_refl _, Nat.le_refl _⟩ (fun v3 H locs hP hS hf => ?_)
      refine k_if_eq (tgt := 35) hx hb dX2_letter_25 (by decide) hf (fun hf => ?_) (fun hf => ?_)
      · refine lv_aload_n hx hb dX2_letter_35 rfl (lv_at hl 0 rfl) ?_
        refine va_get (D := D) (ci := 2) (v := .ref (a 19)) (C := RX2) (T := TX2) (N := 14) hx hb hts inX2 hown hK hP 0 rfl rfl 3 (by decide) ln1 (fun _ h9 => h9) rfl dX2_letter_36 ?_
        refine lv_iload_n hx hb dX2_letter_39 rfl (lv_at hl 1 rfl) ?_
        refine d_callVv (As := [.int p1]) (rest := []) (w := (wHA cI cJ a τ)) (wc := (wTe cI (sb [19, 20] a))) (put := (fun uq => pb [19, 20] uq σ)) (σ := σ) (τ0 := (sb [19, 20] σ)) ⟨hx, hb, hml, hown, hts⟩ hf (fun zq hq => mX1_add l D cI cJ (sb [19, 20] a) H.size N (sb [19, 20] σ) p1 zq hq) (cwV 1 hts gX2_letter_X1_add rfl rfl rfl qX1_add ⟨Nat.le_of_ble_eq_true rfl, Nat.le_of_ble_eq_true rfl⟩) hK hP hD hS hA (cmb_HA_Te_19_20 D cI cJ a τ σ hP (hD _)) 1 rfl rfl rfl rfl hl.1 rfl (Nat.le_of_ble_eq_true rfl) dX2_letter_40 ⟨Nat.le_refl _, Nat.le_refl _⟩ (fun z4 H locs hP hS hf => ?_)
        refine lv_aload_n hx hb dX2_letter_43 rfl (lv_at hl 0 rfl) ?_
        refine va_get (D := D) (ci := 2) (v := .ref (a 19)) (C := RX2) (T := TX2) (N := 14) hx hb hts inX2 hown hK hP 0 rfl rfl 3 (by decide) ln1 (fun _ h9 => h9) rfl dX2_letter_44 ?_
        refine va_get (D := D) (ci := 1) (v := .int (z4 19 0)) (C := RX1) (T := TX1) (N := 2) hx hb hts inX1 hown hK hP 19 rfl rfl 0 (by decide) ln3 (fun _ h9 => h9) rfl dX2_letter_47 ?_
        exact W_iret (wHA cI cJ a τ) hx hb hr hlk hP hS hAe hf dX2_letter_50
      · exact b28  σ H locs ls hP hS (lv_sub hl [0] rfl) hf
  · refine lv_aload_n hx hb dX2_letter_4 rfl (lv_at hl 0 rfl) ?_
    refine lv_bipush (v := (-4 : Int32)) hx hb dX2_letter_5 (by decide) ?_
    refine d_callV (As := [.int (-4 : Int32)]) (rest := []) (w := (wHA cI cJ a τ)) (wc := (wHA cI cJ a τ)) (put := (fun uq => uq)) (σ := σ) (τ0 := σ) ⟨hx, hb, hml, hown, hts⟩ hf (fun vq zq hq => mX2_refuse l D cI cJ a s.heap.size N τ σ (-4 : Int32) (vq, zq) hq) (cwV 1 hts gX2_letter_X2_refuse rfl rfl rfl qX2_refuse ⟨Nat.le_of_ble_eq_true rfl, Nat.le_of_ble_eq_true rfl⟩) hK hP hD hS hA ⟨hP, hD _, fun _ _ _ h => h⟩ 2 rfl rfl rfl rfl hl.1 rfl (Nat.le_of_ble_eq_true rfl) dX2_letter_7 ⟨Nat.le_refl _, Nat.le_refl _⟩ (fun v6 z5 H locs hP hS hf => ?_)
    exact W_iret (wHA cI cJ a τ) hx hb hr hlk hP hS hAe hf dX2_letter_10
def fX2_thing (N : Nat) (σ : St) (p1 : Int32) (p2 : Int32) : Option (Int32 × St) :=
    bo (fX0_has N (sb [1, 2, 3, 4, 5, 6] σ) p1) (fun v1 =>
    if v1 = 0 then bx (fX2_refuse N σ (-1 : Int32)) (fun uq => uq) (fun v15 z14 =>
    some (v15, z14))
    else if p2 = (0 : Int32) then bo (fX0_kindOf N (sb [1, 2, 3, 4, 5, 6] σ) p1) (fun v2 =>
    some (v2, σ))
    else if p2 = (1 : Int32) then bo (fX0_figureOf N (sb [1, 2, 3, 4, 5, 6] σ) p1) (fun v4 =>
    some (v4, σ))
    else if p2 = (2 : Int32) then bo (fX0_placeOf N (sb [1, 2, 3, 4, 5, 6] σ) p1) (fun v6 =>
    some (v6, σ))
    else if p2 = (3 : Int32) then bo (fX0_sinceOf N (sb [1, 2, 3, 4, 5, 6] σ) p1) (fun v8 =>
    some (v8, σ))
    else if p2 = (4 : Int32) then bo (fX0_weighs N (sb [1, 2, 3, 4, 5, 6] σ) p1 (0 : Int32)) (fun v10 =>
    some (v10, σ))
    else bx (fX2_refuse N σ (-2 : Int32)) (fun uq => uq) (fun v13 z12 =>
    some (v13, z12)))
abbrev rmX2_thing : Room := { frames := 2, cells := 0, slots := 0, locals := 49 }
theorem qX2_thing : yX2_thing.cls = RX2 ∧ yX2_thing.cls ≠ "java/lang/invoke/MethodHandle" ∧ yX2_thing.cls ≠ "java/lang/invoke/VarHandle" ∧ (parseMethodDescriptor yX2_thing.desc).map (fun d => d.parameters.length) = some 2 := by decide +kernel
set_option maxHeartbeats 400000 in
set_option maxRecDepth 100000 in
theorem mX2_thing (l : Launch) (D : va_G) (cI cJ : ClassId) (a : Nat → Nat) (sz N : Nat) (τ : LSt) (σ : St) (p1 : Int32) (p2 : Int32) (r : (Int32 × St)) (hf : fX2_thing N σ p1 p2 = some r) : Met l yX2_thing wsX2_thing rmX2_thing (WPre ([.ref (a 0), .int p1, .int p2] : List Value) sz D (tyIJ cI cJ) (wHA cI cJ a τ σ)) (WQi sz D (wHA cI cJ a τ σ) (wHA cI cJ a τ (r.2)) r.1) 0 0 (va_A (wHA cI cJ a τ σ) sz) := by
  refine W_start (cc := cX2_thing) (maxL := 3) (ret := (some .int)) (by decide) rfl (Nat.le_of_ble_eq_true rfl) (fun p e s m below meth c ls A hx hb hr hml hown hts hlk hP hK hS hA hD0 hAe hl => ?_)
  have hD : ∀ z, va_D A ((wHA cI cJ a τ) z) := fun z => hD0.ad rfl
  have hown : s.vm.findClass RX2 = some m.cls := hown
  have hl : lv_has ls 3 [(0, .ref (a 0)), (1, .int p1), (2, .int p2)] := hl
  have ln1 := hts (Cond.fieldLink RX2 10 "HoistsAreShared" "now" "LHoistsAreShared$Hoist;") (List.mem_of_getElem? (i := 1) rfl)
  have inX2 : ∀ w ∈ u_ws RX2 TX2 14, w ∈ wsX2_thing := fun _ h => List.mem_cons_of_mem _ (List.mem_append_left _ (List.mem_append_right _ h))
  unfold fX2_thing at hf
  refine lv_aload_n hx hb dX2_thing_0 rfl (lv_at hl 0 rfl) ?_
  refine va_get (D := D) (ci := 2) (v := .ref (a 1)) (C := RX2) (T := TX2) (N := 14) hx hb hts inX2 hown hK hP 0 rfl rfl 0 (by decide) ln1 (fun _ h9 => h9) rfl dX2_thing_1 ?_
  refine lv_iload_n hx hb dX2_thing_4 rfl (lv_at hl 1 rfl) ?_
  refine c_callV (As := [.int p1]) (rest := []) ⟨hx, hb, hml, hown, hts⟩ hf (fun vq hq => mX0_has l D cI cJ (sb [1, 2, 3, 4, 5, 6] a) s.heap.size N (sb [1, 2, 3, 4, 5, 6] σ) p1 vq hq) (cwV 1 hts gX2_thing_X0_has rfl rfl rfl qX0_has ⟨Nat.le_of_ble_eq_true rfl, Nat.le_of_ble_eq_true rfl⟩) hK hP hS hA (cmr_HA_Ho_1_2_3_4_5_6 D cI cJ a τ σ hP) 0 rfl rfl rfl rfl hl.1 rfl (Nat.le_of_ble_eq_true rfl) dX2_thing_5 ⟨Nat.le_refl _, Nat.le_refl _⟩ (fun v1 H locs hP hS hf => ?_)
  refine k_if_ne (tgt := 17) hx hb dX2_thing_8 (by decide) hf (fun hf => ?_) (fun hf => ?_)
  · refine lv_iload_n hx hb dX2_thing_17 rfl (lv_at hl 2 rfl) ?_
    refine sw_if hf (fun c3 hf => ?_) (fun c3 hf => ?_)
    · refine lv_tableIn (off := 34) (tgt := 52) hx hb dX2_thing_18 (by rw [c3]; decide) (by rw [c3]; decide) (by rw [c3]; decide) (by decide) ?_
      refine lv_aload_n hx hb dX2_thing_52 rfl (lv_at hl 0 rfl) ?_
      refine va_get (D := D) (ci := 2) (v := .ref (a 1)) (C := RX2) (T := TX2) (N := 14) hx hb hts inX2 hown hK hP 0 rfl rfl 0 (by decide) ln1 (fun _ h9 => h9) rfl dX2_thing_53 ?_
      refine lv_iload_n hx hb dX2_thing_56 rfl (lv_at hl 1 rfl) ?_
      refine c_callV (As := [.int p1]) (rest := []) ⟨hx, hb, hml, hown, hts⟩ hf (fun vq hq => mX0_kindOf l D cI cJ (sb [1, 2, 3, 4, 5, 6] a) H.size N (sb [1, 2, 3, 4, 5, 6] σ) p1 vq hq) (cwV 1 hts gX2_thing_X0_kindOf rfl rfl rfl qX0_kindOf ⟨Nat.le_of_ble_eq_true rfl, Nat.le_of_ble_eq_true rfl⟩) hK hP hS hA (cmr_HA_Ho_1_2_3_4_5_6 D cI cJ a τ σ hP) 0 rfl rfl rfl rfl hl.1 rfl (Nat.le_of_ble_eq_true rfl) dX2_thing_57 ⟨Nat.le_refl _, Nat.le_refl _⟩ (fun v2 H locs hP hS hf => ?_)
      exact W_iret (wHA cI cJ a τ) hx hb hr hlk hP hS hAe hf dX2_thing_60
    · have c3 := i32_ne c3 (n := 0) (by decide)
      refine sw_if hf (fun c5 hf => ?_) (fun c5 hf => ?_)
      · refine lv_tableIn (off := 43) (tgt := 61) hx hb dX2_thing_18 (by rw [c5]; decide) (by rw [c5]; decide) (by rw [c5]; decide) (by decide) ?_
        refine lv_aload_n hx hb dX2_thing_61 rfl (lv_at hl 0 rfl) ?_
        refine va_get (D := D) (ci := 2) (v := .ref (a 1)) (C := RX2) (T := TX2) (N := 14) hx hb hts inX2 hown hK hP 0 rfl rfl 0 (by decide) ln1 (fun _ h9 => h9) rfl dX2_thing_62 ?_
        refine lv_iload_n hx hb dX2_thing_65 rfl (lv_at hl 1 rfl) ?_
        refine c_callV (As := [.int p1]) (rest := []) ⟨hx, hb, hml, hown, hts⟩ hf (fun vq hq => mX0_figureOf l D cI cJ (sb [1, 2, 3, 4, 5, 6] a) H.size N (sb [1, 2, 3, 4, 5, 6] σ) p1 vq hq) (cwV 1 hts gX2_thing_X0_figureOf rfl rfl rfl qX0_figureOf ⟨Nat.le_of_ble_eq_true rfl, Nat.le_of_ble_eq_true rfl⟩) hK hP hS hA (cmr_HA_Ho_1_2_3_4_5_6 D cI cJ a τ σ hP) 0 rfl rfl rfl rfl hl.1 rfl (Nat.le_of_ble_eq_true rfl) dX2_thing_66 ⟨Nat.le_refl _, Nat.le_refl _⟩ (fun v4 H locs hP hS hf => ?_)
        exact W_iret (wHA cI cJ a τ) hx hb hr hlk hP hS hAe hf dX2_thing_69
      · have c5 := i32_ne c5 (n := 1) (by decide)
        refine sw_if hf (fun c7 hf => ?_) (fun c7 hf => ?_)
        · refine lv_tableIn (off := 52) (tgt := 70) hx hb dX2_thing_18 (by rw [c7]; decide) (by rw [c7]; decide) (by rw [c7]; decide) (by decide) ?_
          refine lv_aload_n hx hb dX2_thing_70 rfl (lv_at hl 0 rfl) ?_
          refine va_get (D := D) (ci := 2) (v := .ref (a 1)) (C := RX2) (T := TX2) (N := 14) hx hb hts inX2 hown hK hP 0 rfl rfl 0 (by decide) ln1 (fun _ h9 => h9) rfl dX2_thing_71 ?_
          refine lv_iload_n hx hb dX2_thing_74 rfl (lv_at hl 1 rfl) ?_
          refine c_callV (As := [.int p1]) (rest := []) ⟨hx, hb, hml, hown, hts⟩ hf (fun vq hq => mX0_placeOf l D cI cJ (sb [1, 2, 3, 4, 5, 6] a) H.size N (sb [1, 2, 3, 4, 5, 6] σ) p1 vq hq) (cwV 1 hts gX2_thing_X0_placeOf rfl rfl rfl qX0_placeOf ⟨Nat.le_of_ble_eq_true rfl, Nat.le_of_ble_eq_true rfl⟩) hK hP hS hA (cmr_HA_Ho_1_2_3_4_5_6 D cI cJ a τ σ hP) 0 rfl rfl rfl rfl hl.1 rfl (Nat.le_of_ble_eq_true rfl) dX2_thing_75 ⟨Nat.le_refl _, Nat.le_refl _⟩ (fun v6 H locs hP hS hf => ?_)
          exact W_iret (wHA cI cJ a τ) hx hb hr hlk hP hS hAe hf dX2_thing_78
        · have c7 := i32_ne c7 (n := 2) (by decide)
          refine sw_if hf (fun c9 hf => ?_) (fun c9 hf => ?_)
          · refine lv_tableIn (off := 61) (tgt := 79) hx hb dX2_thing_18 (by rw [c9]; decide) (by rw [c9]; decide) (by rw [c9]; decide) (by decide) ?_
            refine lv_aload_n hx hb dX2_thing_79 rfl (lv_at hl 0 rfl) ?_
            refine va_get (D := D) (ci := 2) (v := .ref (a 1)) (C := RX2) (T := TX2) (N := 14) hx hb hts inX2 hown hK hP 0 rfl rfl 0 (by decide) ln1 (fun _ h9 => h9) rfl dX2_thing_80 ?_
            refine lv_iload_n hx hb dX2_thing_83 rfl (lv_at hl 1 rfl) ?_
            refine c_callV (As := [.int p1]) (rest := []) ⟨hx, hb, hml, hown, hts⟩ hf (fun vq hq => mX0_sinceOf l D cI cJ (sb [1, 2, 3, 4, 5, 6] a) H.size N (sb [1, 2, 3, 4, 5, 6] σ) p1 vq hq) (cwV 1 hts gX2_thing_X0_sinceOf rfl rfl rfl qX0_sinceOf ⟨Nat.le_of_ble_eq_true rfl, Nat.le_of_ble_eq_true rfl⟩) hK hP hS hA (cmr_HA_Ho_1_2_3_4_5_6 D cI cJ a τ σ hP) 0 rfl rfl rfl rfl hl.1 rfl (Nat.le_of_ble_eq_true rfl) dX2_thing_84 ⟨Nat.le_refl _, Nat.le_refl _⟩ (fun v8 H locs hP hS hf => ?_)
            exact W_iret (wHA cI cJ a τ) hx hb hr hlk hP hS hAe hf dX2_thing_87
          · have c9 := i32_ne c9 (n := 3) (by decide)
            refine sw_if hf (fun c11 hf => ?_) (fun c11 hf => ?_)
            · refine lv_tableIn (off := 70) (tgt := 88) hx hb dX2_thing_18 (by rw [c11]; decide) (by rw [c11]; decide) (by rw [c11]; decide) (by decide) ?_
              refine lv_aload_n hx hb dX2_thing_88 rfl (lv_at hl 0 rfl) ?_
              refine va_get (D := D) (ci := 2) (v := .ref (a 1)) (C := RX2) (T := TX2) (N := 14) hx hb hts inX2 hown hK hP 0 rfl rfl 0 (by decide) ln1 (fun _ h9 => h9) rfl dX2_thing_89 ?_
              refine lv_iload_n hx hb dX2_thing_92 rfl (lv_at hl 1 rfl) ?_
              refine lv_iconst (v := (0 : Int32)) hx hb dX2_thing_93 (by decide) ?_
              refine c_callV (As := [.int p1, .int (0 : Int32)]) (rest := []) ⟨hx, hb, hml, hown, hts⟩ hf (fun vq hq => mX0_weighs l D cI cJ (sb [1, 2, 3, 4, 5, 6] a) H.size N (sb [1, 2, 3, 4, 5, 6] σ) p1 (0 : Int32) vq hq) (cwV 2 hts gX2_thing_X0_weighs rfl rfl rfl qX0_weighs ⟨Nat.le_of_ble_eq_true rfl, Nat.le_of_ble_eq_true rfl⟩) hK hP hS hA (cmr_HA_Ho_1_2_3_4_5_6 D cI cJ a τ σ hP) 0 rfl rfl rfl rfl hl.1 rfl (Nat.le_of_ble_eq_true rfl) dX2_thing_94 ⟨Nat.le_refl _, Nat.le_refl _⟩ (fun v10 H locs hP hS hf => ?_)
              exact W_iret (wHA cI cJ a τ) hx hb hr hlk hP hS hAe hf dX2_thing_97
            · have c11 := i32_ne c11 (n := 4) (by decide)
              refine lv_tableOut (tgt := 98) hx hb dX2_thing_18 (by omega) (by decide) ?_
              refine lv_aload_n hx hb dX2_thing_98 rfl (lv_at hl 0 rfl) ?_
              refine lv_bipush (v := (-2 : Int32)) hx hb dX2_thing_99 (by decide) ?_
              refine d_callV (As := [.int (-2 : Int32)]) (rest := []) (w := (wHA cI cJ a τ)) (wc := (wHA cI cJ a τ)) (put := (fun uq => uq)) (σ := σ) (τ0 := σ) ⟨hx, hb, hml, hown, hts⟩ hf (fun vq zq hq => mX2_refuse l D cI cJ a H.size N τ σ (-2 : Int32) (vq, zq) hq) (cwV 1 hts gX2_thing_X2_refuse rfl rfl rfl qX2_refuse ⟨Nat.le_of_ble_eq_true rfl, Nat.le_of_ble_eq_true rfl⟩) hK hP hD hS hA ⟨hP, hD _, fun _ _ _ h => h⟩ 2 rfl rfl rfl rfl hl.1 rfl (Nat.le_of_ble_eq_true rfl) dX2_thing_101 ⟨Nat.le_refl _, Nat.le_refl _⟩ (fun v13 z12 H locs hP hS hf => ?_)
              exact W_iret (wHA cI cJ a τ) hx hb hr hlk hP hS hAe hf dX2_thing_104
  · refine lv_aload_n hx hb dX2_thing_11 rfl (lv_at hl 0 rfl) ?_
    refine lv_iconst (v := (-1 : Int32)) hx hb dX2_thing_12 (by decide) ?_
    refine d_callV (As := [.int (-1 : Int32)]) (rest := []) (w := (wHA cI cJ a τ)) (wc := (wHA cI cJ a τ)) (put := (fun uq => uq)) (σ := σ) (τ0 := σ) ⟨hx, hb, hml, hown, hts⟩ hf (fun vq zq hq => mX2_refuse l D cI cJ a H.size N τ σ (-1 : Int32) (vq, zq) hq) (cwV 1 hts gX2_thing_X2_refuse rfl rfl rfl qX2_refuse ⟨Nat.le_of_ble_eq_true rfl, Nat.le_of_ble_eq_true rfl⟩) hK hP hD hS hA ⟨hP, hD _, fun _ _ _ h => h⟩ 2 rfl rfl rfl rfl hl.1 rfl (Nat.le_of_ble_eq_true rfl) dX2_thing_13 ⟨Nat.le_refl _, Nat.le_refl _⟩ (fun v15 z14 H locs hP hS hf => ?_)
    exact W_iret (wHA cI cJ a τ) hx hb hr hlk hP hS hAe hf dX2_thing_16
def fX2_howFar (N : Nat) (σ : St) (p1 : Int32) : Option Int32 :=
    bo (fX0_nearestDoor N (sb [1, 2, 3, 4, 5, 6] σ) p1) (fun v1 =>
    if v1 = (-9 : Int32) then some (-9 : Int32)
    else bo (fX0_heightOf N p1 (σ 1 0)) (fun v2 =>
    lt_ (absI (v1 - v2)) (fun v3 =>
    some v3)))
abbrev rmX2_howFar : Room := { frames := 3, cells := 0, slots := 0, locals := 66 }
theorem qX2_howFar : yX2_howFar.cls = RX2 ∧ yX2_howFar.cls ≠ "java/lang/invoke/MethodHandle" ∧ yX2_howFar.cls ≠ "java/lang/invoke/VarHandle" ∧ (parseMethodDescriptor yX2_howFar.desc).map (fun d => d.parameters.length) = some 1 := by decide +kernel
set_option maxHeartbeats 400000 in
set_option maxRecDepth 100000 in
theorem mX2_howFar (l : Launch) (D : va_G) (cI cJ : ClassId) (a : Nat → Nat) (sz N : Nat) (τ : LSt) (σ : St) (p1 : Int32) (r : Int32) (hf : fX2_howFar N σ p1 = some r) : Met l yX2_howFar wsX2_howFar rmX2_howFar (RPre ([.ref (a 0), .int p1] : List Value) sz D (tyIJ cI cJ) (wHA cI cJ a τ σ)) (RQi sz r) 0 0 (fr0 sz) := by
  refine R_start (cc := cX2_howFar) (maxL := 3) (ret := (some .int)) (by decide) rfl (Nat.le_of_ble_eq_true rfl) (fun p e s m below meth c ls hx hb hr hml hown hts hlk hP hK hS hA hsz hl => ?_)
  have hown : s.vm.findClass RX2 = some m.cls := hown
  have hl : lv_has ls 3 [(0, .ref (a 0)), (1, .int p1)] := hl
  have ln1 := hts (Cond.fieldLink RX2 10 "HoistsAreShared" "now" "LHoistsAreShared$Hoist;") (List.mem_of_getElem? (i := 1) rfl)
  have inX2 : ∀ w ∈ u_ws RX2 TX2 14, w ∈ wsX2_howFar := fun _ h => List.mem_cons_of_mem _ (List.mem_append_left _ (List.mem_append_right _ h))
  have ln3 := hts (Cond.fieldLink RX2 112 "HoistsAreShared$Hoist" "floor" "I") (List.mem_of_getElem? (i := 2) rfl)
  have inX0 : ∀ w ∈ u_ws RX0 TX0 9, w ∈ wsX2_howFar := fun _ h => List.mem_cons_of_mem _ (List.mem_append_right _ h)
  have ln5 := hts (Cond.methodLink RX2 272 Lib.Math.abs.name) (List.mem_of_getElem? (i := 3) rfl)
  have ln6 := hts (Cond.static Lib.Math.abs.name) (List.mem_of_getElem? (i := 4) rfl)
  have ln7 := hts (Cond.initialized "java/lang/Math") (List.mem_of_getElem? (i := 5) rfl)
  have ln8 := hts (Cond.code Lib.Math.abs.name Lib.Math.abs.code 1 (some .int)) (List.mem_of_getElem? (i := 6) rfl)
  unfold fX2_howFar at hf
  refine lv_aload_n hx hb dX2_howFar_0 rfl (lv_at hl 0 rfl) ?_
  refine va_get (D := D) (ci := 2) (v := .ref (a 1)) (C := RX2) (T := TX2) (N := 14) hx hb hts inX2 hown hK hP 0 rfl rfl 0 (by decide) ln1 (fun _ h9 => h9) rfl dX2_howFar_1 ?_
  refine lv_iload_n hx hb dX2_howFar_4 rfl (lv_at hl 1 rfl) ?_
  refine c_callV (As := [.int p1]) (rest := []) ⟨hx, hb, hml, hown, hts⟩ hf (fun vq hq => mX0_nearestDoor l D cI cJ (sb [1, 2, 3, 4, 5, 6] a) s.heap.size N (sb [1, 2, 3, 4, 5, 6] σ) p1 vq hq) (cwV 1 hts gX2_howFar_X0_nearestDoor rfl rfl rfl qX0_nearestDoor ⟨Nat.le_of_ble_eq_true rfl, Nat.le_of_ble_eq_true rfl⟩) hK hP hS hA (cmr_HA_Ho_1_2_3_4_5_6 D cI cJ a τ σ hP) 0 rfl rfl rfl rfl hl.1 rfl (Nat.le_of_ble_eq_true rfl) dX2_howFar_5 ⟨Nat.le_refl _, Nat.le_refl _⟩ (fun v1 H locs hP hS hf => ?_)
  refine lv_istore_n (lv' := [(2, .int v1), (0, .ref (a 0)), (1, .int p1)]) hx hb dX2_howFar_8 rfl hl (by decide) rfl (fun ls hl => ?_)
  refine lv_iload_n hx hb dX2_howFar_9 rfl (lv_at hl 0 rfl) ?_
  refine lv_bipush (v := (-9 : Int32)) hx hb dX2_howFar_10 (by decide) ?_
  refine k_icmp_ne (tgt := 20) hx hb dX2_howFar_12 (by decide) hf (fun hf => ?_) (fun hf => ?_)
  · refine lv_iload_n hx hb dX2_howFar_20 rfl (lv_at hl 0 rfl) ?_
    refine lv_iload_n hx hb dX2_howFar_21 rfl (lv_at hl 2 rfl) ?_
    refine lv_aload_n hx hb dX2_howFar_22 rfl (lv_at hl 1 rfl) ?_
    refine va_get (D := D) (ci := 2) (v := .ref (a 1)) (C := RX2) (T := TX2) (N := 14) hx hb hts inX2 hown hK hP 0 rfl rfl 0 (by decide) ln1 (fun _ h9 => h9) rfl dX2_howFar_23 ?_
    refine va_get (D := D) (ci := 0) (v := .int (σ 1 0)) (C := RX0) (T := TX0) (N := 9) hx hb hts inX0 hown hK hP 1 rfl rfl 0 (by decide) ln3 (fun _ h9 => h9) rfl dX2_howFar_26 ?_
    refine c_callS (As := [.int p1, .int (σ 1 0)]) (rest := [.int v1]) ⟨hx, hb, hml, hown, hts⟩ hf (fun vq hq => mX0_heightOf l D cI cJ H.size N p1 (σ 1 0) vq hq) (va_cwS 2 hts gX2_howFar_X0_heightOf rfl rfl rfl qX0_heightOf ⟨Nat.le_of_ble_eq_true rfl, Nat.le_of_ble_eq_true rfl⟩) hK hP hS hA va_P_nil rfl hl.1 rfl (Nat.le_of_ble_eq_true rfl) dX2_howFar_29 ⟨Nat.le_refl _, Nat.le_refl _⟩ (fun v2 H locs hP hS hf => ?_)
    refine lv_isub hx hb dX2_howFar_32 ?_
    refine k_mabs hx hb (hml.trans hl.1.symm) hown ln5 ln6 ln7 ln8 (Nat.le_of_ble_eq_true rfl) (Nat.le_of_ble_eq_true rfl) (Nat.zero_le _) (Nat.zero_le _) dX2_howFar_33 hf (fun v3 hf => ?_)
    exact R_iret hx hb hr hlk hS hsz hf dX2_howFar_36
  · refine lv_bipush (v := (-9 : Int32)) hx hb dX2_howFar_15 (by decide) ?_
    refine lv_goto (tgt := 36) hx hb dX2_howFar_17 (by decide) ?_
    exact R_iret hx hb hr hlk hS hsz hf dX2_howFar_36
def fX2_side (N : Nat) (σ : St) (p1 : Int32) (p2 : Int32) : Option (Int32 × St) :=
    bo (fX0_isSide N p1) (fun v1 =>
    if v1 = 0 then bx (fX2_refuse N σ (-1 : Int32)) (fun uq => uq) (fun v17 z16 =>
    some (v17, z16))
    else if p2 = (0 : Int32) then bo (fX0_heightOf N p1 (σ 1 0)) (fun v2 =>
    some (v2, σ))
    else if p2 = (1 : Int32) then bo (fX0_ballastOf N (sb [1, 2, 3, 4, 5, 6] σ) p1) (fun v4 =>
    some (v4, σ))
    else if p2 = (2 : Int32) then bo (fX0_weightOf N (sb [1, 2, 3, 4, 5, 6] σ) p1) (fun v6 =>
    some (v6, σ))
    else if p2 = (3 : Int32) then bo (fX0_bitsAt N (sb [1, 2, 3, 4, 5, 6] σ) p1) (fun v8 =>
    some (v8, σ))
    else if p2 = (4 : Int32) then bo (fX0_nearestDoor N (sb [1, 2, 3, 4, 5, 6] σ) p1) (fun v10 =>
    some (v10, σ))
    else if p2 = (5 : Int32) then bo (fX2_howFar N σ p1) (fun v12 =>
    some (v12, σ))
    else bx (fX2_refuse N σ (-2 : Int32)) (fun uq => uq) (fun v15 z14 =>
    some (v15, z14)))
abbrev rmX2_side : Room := { frames := 4, cells := 0, slots := 0, locals := 88 }
theorem qX2_side : yX2_side.cls = RX2 ∧ yX2_side.cls ≠ "java/lang/invoke/MethodHandle" ∧ yX2_side.cls ≠ "java/lang/invoke/VarHandle" ∧ (parseMethodDescriptor yX2_side.desc).map (fun d => d.parameters.length) = some 2 := by decide +kernel
set_option maxHeartbeats 400000 in
set_option maxRecDepth 100000 in
theorem mX2_side (l : Launch) (D : va_G) (cI cJ : ClassId) (a : Nat → Nat) (sz N : Nat) (τ : LSt) (σ : St) (p1 : Int32) (p2 : Int32) (r : (Int32 × St)) (hf : fX2_side N σ p1 p2 = some r) : Met l yX2_side wsX2_side rmX2_side (WPre ([.ref (a 0), .int p1, .int p2] : List Value) sz D (tyIJ cI cJ) (wHA cI cJ a τ σ)) (WQi sz D (wHA cI cJ a τ σ) (wHA cI cJ a τ (r.2)) r.1) 0 0 (va_A (wHA cI cJ a τ σ) sz) := by
  refine W_start (cc := cX2_side) (maxL := 3) (ret := (some .int)) (by decide) rfl (Nat.le_of_ble_eq_true rfl) (fun p e s m below meth c ls A hx hb hr hml hown hts hlk hP hK hS hA hD0 hAe hl => ?_)
  have hD : ∀ z, va_D A ((wHA cI cJ a τ) z) := fun z => hD0.ad rfl
  have hown : s.vm.findClass RX2 = some m.cls := hown
  have hl : lv_has ls 3 [(0, .ref (a 0)), (1, .int p1), (2, .int p2)] := hl
  have ln1 := hts (Cond.fieldLink RX2 10 "HoistsAreShared" "now" "LHoistsAreShared$Hoist;") (List.mem_of_getElem? (i := 1) rfl)
  have inX2 : ∀ w ∈ u_ws RX2 TX2 14, w ∈ wsX2_side := fun _ h => List.mem_cons_of_mem _ (List.mem_append_left _ (List.mem_append_right _ h))
  have ln3 := hts (Cond.fieldLink RX2 112 "HoistsAreShared$Hoist" "floor" "I") (List.mem_of_getElem? (i := 2) rfl)
  have inX0 : ∀ w ∈ u_ws RX0 TX0 9, w ∈ wsX2_side := fun _ h => List.mem_cons_of_mem _ (List.mem_append_right _ h)
  unfold fX2_side at hf
  refine lv_iload_n hx hb dX2_side_0 rfl (lv_at hl 1 rfl) ?_
  refine c_callS (As := [.int p1]) (rest := []) ⟨hx, hb, hml, hown, hts⟩ hf (fun vq hq => mX0_isSide l D cI cJ s.heap.size N p1 vq hq) (va_cwS 1 hts gX2_side_X0_isSide rfl rfl rfl qX0_isSide ⟨Nat.le_of_ble_eq_true rfl, Nat.le_of_ble_eq_true rfl⟩) hK hP hS hA va_P_nil rfl hl.1 rfl (Nat.le_of_ble_eq_true rfl) dX2_side_1 ⟨Nat.le_refl _, Nat.le_refl _⟩ (fun v1 H locs hP hS hf => ?_)
  refine k_if_ne (tgt := 13) hx hb dX2_side_4 (by decide) hf (fun hf => ?_) (fun hf => ?_)
  · refine lv_iload_n hx hb dX2_side_13 rfl (lv_at hl 2 rfl) ?_
    refine sw_if hf (fun c3 hf => ?_) (fun c3 hf => ?_)
    · refine lv_tableIn (off := 38) (tgt := 52) hx hb dX2_side_14 (by rw [c3]; decide) (by rw [c3]; decide) (by rw [c3]; decide) (by decide) ?_
      refine lv_iload_n hx hb dX2_side_52 rfl (lv_at hl 1 rfl) ?_
      refine lv_aload_n hx hb dX2_side_53 rfl (lv_at hl 0 rfl) ?_
      refine va_get (D := D) (ci := 2) (v := .ref (a 1)) (C := RX2) (T := TX2) (N := 14) hx hb hts inX2 hown hK hP 0 rfl rfl 0 (by decide) ln1 (fun _ h9 => h9) rfl dX2_side_54 ?_
      refine va_get (D := D) (ci := 0) (v := .int (σ 1 0)) (C := RX0) (T := TX0) (N := 9) hx hb hts inX0 hown hK hP 1 rfl rfl 0 (by decide) ln3 (fun _ h9 => h9) rfl dX2_side_57 ?_
      refine c_callS (As := [.int p1, .int (σ 1 0)]) (rest := []) ⟨hx, hb, hml, hown, hts⟩ hf (fun vq hq => mX0_heightOf l D cI cJ H.size N p1 (σ 1 0) vq hq) (va_cwS 2 hts gX2_side_X0_heightOf rfl rfl rfl qX0_heightOf ⟨Nat.le_of_ble_eq_true rfl, Nat.le_of_ble_eq_true rfl⟩) hK hP hS hA va_P_nil rfl hl.1 rfl (Nat.le_of_ble_eq_true rfl) dX2_side_60 ⟨Nat.le_refl _, Nat.le_refl _⟩ (fun v2 H locs hP hS hf => ?_)
      exact W_iret (wHA cI cJ a τ) hx hb hr hlk hP hS hAe hf dX2_side_63
    · have c3 := i32_ne c3 (n := 0) (by decide)
      refine sw_if hf (fun c5 hf => ?_) (fun c5 hf => ?_)
      · refine lv_tableIn (off := 50) (tgt := 64) hx hb dX2_side_14 (by rw [c5]; decide) (by rw [c5]; decide) (by rw [c5]; decide) (by decide) ?_
        refine lv_aload_n hx hb dX2_side_64 rfl (lv_at hl 0 rfl) ?_
        refine va_get (D := D) (ci := 2) (v := .ref (a 1)) (C := RX2) (T := TX2) (N := 14) hx hb hts inX2 hown hK hP 0 rfl rfl 0 (by decide) ln1 (fun _ h9 => h9) rfl dX2_side_65 ?_
        refine lv_iload_n hx hb dX2_side_68 rfl (lv_at hl 1 rfl) ?_
        refine c_callV (As := [.int p1]) (rest := []) ⟨hx, hb, hml, hown, hts⟩ hf (fun vq hq => mX0_ballastOf l D cI cJ (sb [1, 2, 3, 4, 5, 6] a) H.size N (sb [1, 2, 3, 4, 5, 6] σ) p1 vq hq) (cwV 1 hts gX2_side_X0_ballastOf rfl rfl rfl qX0_ballastOf ⟨Nat.le_of_ble_eq_true rfl, Nat.le_of_ble_eq_true rfl⟩) hK hP hS hA (cmr_HA_Ho_1_2_3_4_5_6 D cI cJ a τ σ hP) 0 rfl rfl rfl rfl hl.1 rfl (Nat.le_of_ble_eq_true rfl) dX2_side_69 ⟨Nat.le_refl _, Nat.le_refl _⟩ (fun v4 H locs hP hS hf => ?_)
        exact W_iret (wHA cI cJ a τ) hx hb hr hlk hP hS hAe hf dX2_side_72
      · have c5 := i32_ne c5 (n := 1) (by decide)
        refine sw_if hf (fun c7 hf => ?_) (fun c7 hf => ?_)
        · refine lv_tableIn (off := 59) (tgt := 73) hx hb dX2_side_14 (by rw [c7]; decide) (by rw [c7]; decide) (by rw [c7]; decide) (by decide) ?_
          refine lv_aload_n hx hb dX2_side_73 rfl (lv_at hl 0 rfl) ?_
          refine va_get (D := D) (ci := 2) (v := .ref (a 1)) (C := RX2) (T := TX2) (N := 14) hx hb hts inX2 hown hK hP 0 rfl rfl 0 (by decide) ln1 (fun _ h9 => h9) rfl dX2_side_74 ?_
          refine lv_iload_n hx hb dX2_side_77 rfl (lv_at hl 1 rfl) ?_
          refine c_callV (As := [.int p1]) (rest := []) ⟨hx, hb, hml, hown, hts⟩ hf (fun vq hq => mX0_weightOf l D cI cJ (sb [1, 2, 3, 4, 5, 6] a) H.size N (sb [1, 2, 3, 4, 5, 6] σ) p1 vq hq) (cwV 1 hts gX2_side_X0_weightOf rfl rfl rfl qX0_weightOf ⟨Nat.le_of_ble_eq_true rfl, Nat.le_of_ble_eq_true rfl⟩) hK hP hS hA (cmr_HA_Ho_1_2_3_4_5_6 D cI cJ a τ σ hP) 0 rfl rfl rfl rfl hl.1 rfl (Nat.le_of_ble_eq_true rfl) dX2_side_78 ⟨Nat.le_refl _, Nat.le_refl _⟩ (fun v6 H locs hP hS hf => ?_)
          exact W_iret (wHA cI cJ a τ) hx hb hr hlk hP hS hAe hf dX2_side_81
        · have c7 := i32_ne c7 (n := 2) (by decide)
          refine sw_if hf (fun c9 hf => ?_) (fun c9 hf => ?_)
          · refine lv_tableIn (off := 68) (tgt := 82) hx hb dX2_side_14 (by rw [c9]; decide) (by rw [c9]; decide) (by rw [c9]; decide) (by decide) ?_
            refine lv_aload_n hx hb dX2_side_82 rfl (lv_at hl 0 rfl) ?_
            refine va_get (D := D) (ci := 2) (v := .ref (a 1)) (C := RX2) (T := TX2) (N := 14) hx hb hts inX2 hown hK hP 0 rfl rfl 0 (by decide) ln1 (fun _ h9 => h9) rfl dX2_side_83 ?_
            refine lv_iload_n hx hb dX2_side_86 rfl (lv_at hl 1 rfl) ?_
            refine c_callV (As := [.int p1]) (rest := []) ⟨hx, hb, hml, hown, hts⟩ hf (fun vq hq => mX0_bitsAt l D cI cJ (sb [1, 2, 3, 4, 5, 6] a) H.size N (sb [1, 2, 3, 4, 5, 6] σ) p1 vq hq) (cwV 1 hts gX2_side_X0_bitsAt rfl rfl rfl qX0_bitsAt ⟨Nat.le_of_ble_eq_true rfl, Nat.le_of_ble_eq_true rfl⟩) hK hP hS hA (cmr_HA_Ho_1_2_3_4_5_6 D cI cJ a τ σ hP) 0 rfl rfl rfl rfl hl.1 rfl (Nat.le_of_ble_eq_true rfl) dX2_side_87 ⟨Nat.le_refl _, Nat.le_refl _⟩ (fun v8 H locs hP hS hf => ?_)
            exact W_iret (wHA cI cJ a τ) hx hb hr hlk hP hS hAe hf dX2_side_90
          · have c9 := i32_ne c9 (n := 3) (by decide)
            refine sw_if hf (fun c11 hf => ?_) (fun c11 hf => ?_)
            · refine lv_tableIn (off := 77) (tgt := 91) hx hb dX2_side_14 (by rw [c11]; decide) (by rw [c11]; decide) (by rw [c11]; decide) (by decide) ?_
              refine lv_aload_n hx hb dX2_side_91 rfl (lv_at hl 0 rfl) ?_
              refine va_get (D := D) (ci := 2) (v := .ref (a 1)) (C := RX2) (T := TX2) (N := 14) hx hb hts inX2 hown hK hP 0 rfl rfl 0 (by decide) ln1 (fun _ h9 => h9) rfl dX2_side_92 ?_
              refine lv_iload_n hx hb dX2_side_95 rfl (lv_at hl 1 rfl) ?_
              refine c_callV (As := [.int p1]) (rest := []) ⟨hx, hb, hml, hown, hts⟩ hf (fun vq hq => mX0_nearestDoor l D cI cJ (sb [1, 2, 3, 4, 5, 6] a) H.size N (sb [1, 2, 3, 4, 5, 6] σ) p1 vq hq) (cwV 1 hts gX2_side_X0_nearestDoor rfl rfl rfl qX0_nearestDoor ⟨Nat.le_of_ble_eq_true rfl, Nat.le_of_ble_eq_true rfl⟩) hK hP hS hA (cmr_HA_Ho_1_2_3_4_5_6 D cI cJ a τ σ hP) 0 rfl rfl rfl rfl hl.1 rfl (Nat.le_of_ble_eq_true rfl) dX2_side_96 ⟨Nat.le_refl _, Nat.le_refl _⟩ (fun v10 H locs hP hS hf => ?_)
              exact W_iret (wHA cI cJ a τ) hx hb hr hlk hP hS hAe hf dX2_side_99
            · have c11 := i32_ne c11 (n := 4) (by decide)
              refine sw_if hf (fun c13 hf => ?_) (fun c13 hf => ?_)
              · refine lv_tableIn (off := 86) (tgt := 100) hx hb dX2_side_14 (by rw [c13]; decide) (by rw [c13]; decide) (by rw [c13]; decide) (by decide) ?_
                refine lv_aload_n hx hb dX2_side_100 rfl (lv_at hl 0 rfl) ?_
                refine lv_iload_n hx hb dX2_side_101 rfl (lv_at hl 1 rfl) ?_
                refine c_callV (As := [.int p1]) (rest := []) ⟨hx, hb, hml, hown, hts⟩ hf (fun vq hq => mX2_howFar l D cI cJ a H.size N τ σ p1 vq hq) (cwV 1 hts gX2_side_X2_howFar rfl rfl rfl qX2_howFar ⟨Nat.le_of_ble_eq_true rfl, Nat.le_of_ble_eq_true rfl⟩) hK hP hS hA hP 2 rfl rfl rfl rfl hl.1 rfl (Nat.le_of_ble_eq_true rfl) dX2_side_102 ⟨Nat.le_refl _, Nat.le_refl _⟩ (fun v12 H locs hP hS hf => ?_)
                exact W_iret (wHA cI cJ a τ) hx hb hr hlk hP hS hAe hf dX2_side_105
              · have c13 := i32_ne c13 (n := 5) (by decide)
                refine lv_tableOut (tgt := 106) hx hb dX2_side_14 (by omega) (by decide) ?_
                refine lv_aload_n hx hb dX2_side_106 rfl (lv_at hl 0 rfl) ?_
                refine lv_bipush (v := (-2 : Int32)) hx hb dX2_side_107 (by decide) ?_
                refine d_callV (As := [.int (-2 : Int32)]) (rest := []) (w := (wHA cI cJ a τ)) (wc := (wHA cI cJ a τ)) (put := (fun uq => uq)) (σ := σ) (τ0 := σ) ⟨hx, hb, hml, hown, hts⟩ hf (fun vq zq hq => mX2_refuse l D cI cJ a H.size N τ σ (-2 : Int32) (vq, zq) hq) (cwV 1 hts gX2_side_X2_refuse rfl rfl rfl qX2_refuse ⟨Nat.le_of_ble_eq_true rfl, Nat.le_of_ble_eq_true rfl⟩) hK hP hD hS hA ⟨hP, hD _, fun _ _ _ h => h⟩ 2 rfl rfl rfl rfl hl.1 rfl (Nat.le_of_ble_eq_true rfl) dX2_side_109 ⟨Nat.le_refl _, Nat.le_refl _⟩ (fun v15 z14 H locs hP hS hf => ?_)
                exact W_iret (wHA cI cJ a τ) hx hb hr hlk hP hS hAe hf dX2_side_112
  · refine lv_aload_n hx hb dX2_side_7 rfl (lv_at hl 0 rfl) ?_
    refine lv_iconst (v := (-1 : Int32)) hx hb dX2_side_8 (by decide) ?_
    refine d_callV (As := [.int (-1 : Int32)]) (rest := []) (w := (wHA cI cJ a τ)) (wc := (wHA cI cJ a τ)) (put := (fun uq => uq)) (σ := σ) (τ0 := σ) ⟨hx, hb, hml, hown, hts⟩ hf (fun vq zq hq => mX2_refuse l D cI cJ a H.size N τ σ (-1 : Int32) (vq, zq) hq) (cwV 1 hts gX2_side_X2_refuse rfl rfl rfl qX2_refuse ⟨Nat.le_of_ble_eq_true rfl, Nat.le_of_ble_eq_true rfl⟩) hK hP hD hS hA ⟨hP, hD _, fun _ _ _ h => h⟩ 2 rfl rfl rfl rfl hl.1 rfl (Nat.le_of_ble_eq_true rfl) dX2_side_9 ⟨Nat.le_refl _, Nat.le_refl _⟩ (fun v17 z16 H locs hP hS hf => ?_)
    exact W_iret (wHA cI cJ a τ) hx hb hr hlk hP hS hAe hf dX2_side_12
def fX2_hangs (N : Nat) (σ : St) (p1 : Int32) (p2 : Int32) : Option (Int32 × St) :=
    bo (fX0_has N (sb [1, 2, 3, 4, 5, 6] σ) p1) (fun v1 =>
    if v1 = 0 then bx (fX2_refuse N σ (-1 : Int32)) (fun uq => uq) (fun v9 z8 =>
    some (v9, z8))
    else bo (fX0_isPlace N p2) (fun v2 =>
    if v2 = 0 then bx (fX2_refuse N σ (-2 : Int32)) (fun uq => uq) (fun v7 z6 =>
    some (v7, z6))
    else bo (fX0_placeOf N (sb [1, 2, 3, 4, 5, 6] σ) p1) (fun v3 =>
    bx (fX0_put N (sb [1, 2, 3, 4, 5, 6] σ) p1 p2) (fun uq => pb [1, 2, 3, 4, 5, 6] uq σ) (fun v5 z4 =>
    some (v3, z4)))))
abbrev rmX2_hangs : Room := { frames := 2, cells := 0, slots := 0, locals := 43 }
theorem qX2_hangs : yX2_hangs.cls = RX2 ∧ yX2_hangs.cls ≠ "java/lang/invoke/MethodHandle" ∧ yX2_hangs.cls ≠ "java/lang/invoke/VarHandle" ∧ (parseMethodDescriptor yX2_hangs.desc).map (fun d => d.parameters.length) = some 2 := by decide +kernel
set_option maxHeartbeats 400000 in
set_option maxRecDepth 100000 in
theorem mX2_hangs (l : Launch) (D : va_G) (cI cJ : ClassId) (a : Nat → Nat) (sz N : Nat) (τ : LSt) (σ : St) (p1 : Int32) (p2 : Int32) (r : (Int32 × St)) (hf : fX2_hangs N σ p1 p2 = some r) : Met l yX2_hangs wsX2_hangs rmX2_hangs (WPre ([.ref (a 0), .int p1, .int p2] : List Value) sz D (tyIJ cI cJ) (wHA cI cJ a τ σ)) (WQi sz D (wHA cI cJ a τ σ) (wHA cI cJ a τ (r.2)) r.1) 0 0 (va_A (wHA cI cJ a τ σ) sz) := by
  refine W_start (cc := cX2_hangs) (maxL := 4) (ret := (some .int)) (by decide) rfl (Nat.le_of_ble_eq_true rfl) (fun p e s m below meth c ls A hx hb hr hml hown hts hlk hP hK hS hA hD0 hAe hl => ?_)
  have hD : ∀ z, va_D A ((wHA cI cJ a τ) z) := fun z => hD0.ad rfl
  have hown : s.vm.findClass RX2 = some m.cls := hown
  have hl : lv_has ls 4 [(0, .ref (a 0)), (1, .int p1), (2, .int p2)] := hl
  have ln1 := hts (Cond.fieldLink RX2 10 "HoistsAreShared" "now" "LHoistsAreShared$Hoist;") (List.mem_of_getElem? (i := 1) rfl)
  have inX2 : ∀ w ∈ u_ws RX2 TX2 14, w ∈ wsX2_hangs := fun _ h => List.mem_cons_of_mem _ (List.mem_append_left _ (List.mem_append_right _ h))
  unfold fX2_hangs at hf
  refine lv_aload_n hx hb dX2_hangs_0 rfl (lv_at hl 0 rfl) ?_
  refine va_get (D := D) (ci := 2) (v := .ref (a 1)) (C := RX2) (T := TX2) (N := 14) hx hb hts inX2 hown hK hP 0 rfl rfl 0 (by decide) ln1 (fun _ h9 => h9) rfl dX2_hangs_1 ?_
  refine lv_iload_n hx hb dX2_hangs_4 rfl (lv_at hl 1 rfl) ?_
  refine c_callV (As := [.int p1]) (rest := []) ⟨hx, hb, hml, hown, hts⟩ hf (fun vq hq => mX0_has l D cI cJ (sb [1, 2, 3, 4, 5, 6] a) s.heap.size N (sb [1, 2, 3, 4, 5, 6] σ) p1 vq hq) (cwV 1 hts gX2_hangs_X0_has rfl rfl rfl qX0_has ⟨Nat.le_of_ble_eq_true rfl, Nat.le_of_ble_eq_true rfl⟩) hK hP hS hA (cmr_HA_Ho_1_2_3_4_5_6 D cI cJ a τ σ hP) 0 rfl rfl rfl rfl hl.1 rfl (Nat.le_of_ble_eq_true rfl) dX2_hangs_5 ⟨Nat.le_refl _, Nat.le_refl _⟩ (fun v1 H locs hP hS hf => ?_)
  refine k_if_ne (tgt := 17) hx hb dX2_hangs_8 (by decide) hf (fun hf => ?_) (fun hf => ?_)
  · refine lv_iload_n hx hb dX2_hangs_17 rfl (lv_at hl 2 rfl) ?_
    refine c_callS (As := [.int p2]) (rest := []) ⟨hx, hb, hml, hown, hts⟩ hf (fun vq hq => mX0_isPlace l D cI cJ H.size N p2 vq hq) (va_cwS 1 hts gX2_hangs_X0_isPlace rfl rfl rfl qX0_isPlace ⟨Nat.le_of_ble_eq_true rfl, Nat.le_of_ble_eq_true rfl⟩) hK hP hS hA va_P_nil rfl hl.1 rfl (Nat.le_of_ble_eq_true rfl) dX2_hangs_18 ⟨Nat.le_refl _, Nat.le_refl _⟩ (fun v2 H locs hP hS hf => ?_)
    refine k_if_ne (tgt := 31) hx hb dX2_hangs_21 (by decide) hf (fun hf => ?_) (fun hf => ?_)
    · refine lv_aload_n hx hb dX2_hangs_31 rfl (lv_at hl 0 rfl) ?_
      refine va_get (D := D) (ci := 2) (v := .ref (a 1)) (C := RX2) (T := TX2) (N := 14) hx hb hts inX2 hown hK hP 0 rfl rfl 0 (by decide) ln1 (fun _ h9 => h9) rfl dX2_hangs_32 ?_
      refine lv_iload_n hx hb dX2_hangs_35 rfl (lv_at hl 1 rfl) ?_
      refine c_callV (As := [.int p1]) (rest := []) ⟨hx, hb, hml, hown, hts⟩ hf (fun vq hq => mX0_placeOf l D cI cJ (sb [1, 2, 3, 4, 5, 6] a) H.size N (sb [1, 2, 3, 4, 5, 6] σ) p1 vq hq) (cwV 1 hts gX2_hangs_X0_placeOf rfl rfl rfl qX0_placeOf ⟨Nat.le_of_ble_eq_true rfl, Nat.le_of_ble_eq_true rfl⟩) hK hP hS hA (cmr_HA_Ho_1_2_3_4_5_6 D cI cJ a τ σ hP) 0 rfl rfl rfl rfl hl.1 rfl (Nat.le_of_ble_eq_true rfl) dX2_hangs_36 ⟨Nat.le_refl _, Nat.le_refl _⟩ (fun v3 H locs hP hS hf => ?_)
      refine lv_istore_n (lv' := [(3, .int v3), (0, .ref (a 0)), (1, .int p1), (2, .int p2)]) hx hb dX2_hangs_39 rfl hl (by decide) rfl (fun ls hl => ?_)
      refine lv_aload_n hx hb dX2_hangs_40 rfl (lv_at hl 1 rfl) ?_
      refine va_get (D := D) (ci := 2) (v := .ref (a 1)) (C := RX2) (T := TX2) (N := 14) hx hb hts inX2 hown hK hP 0 rfl rfl 0 (by decide) ln1 (fun _ h9 => h9) rfl dX2_hangs_41 ?_
      refine lv_iload_n hx hb dX2_hangs_44 rfl (lv_at hl 2 rfl) ?_
      refine lv_iload_n hx hb dX2_hangs_45 rfl (lv_at hl 3 rfl) ?_
      refine d_callV (As := [.int p1, .int p2]) (rest := []) (w := (wHA cI cJ a τ)) (wc := (wHo cI (sb [1, 2, 3, 4, 5, 6] a))) (put := (fun uq => pb [1, 2, 3, 4, 5, 6] uq σ)) (σ := σ) (τ0 := (sb [1, 2, 3, 4, 5, 6] σ)) ⟨hx, hb, hml, hown, hts⟩ hf (fun vq zq hq => mX0_put l D cI cJ (sb [1, 2, 3, 4, 5, 6] a) H.size N (sb [1, 2, 3, 4, 5, 6] σ) p1 p2 (vq, zq) hq) (cwV 2 hts gX2_hangs_X0_put rfl rfl rfl qX0_put ⟨Nat.le_of_ble_eq_true rfl, Nat.le_of_ble_eq_true rfl⟩) hK hP hD hS hA (cmb_HA_Ho_1_2_3_4_5_6 D cI cJ a τ σ hP (hD _)) 0 rfl rfl rfl rfl hl.1 rfl (Nat.le_of_ble_eq_true rfl) dX2_hangs_46 ⟨Nat.le_refl _, Nat.le_refl _⟩ (fun v5 z4 H locs hP hS hf => ?_)
      refine lv_pop hx hb dX2_hangs_49 rfl ?_
      refine lv_iload_n hx hb dX2_hangs_50 rfl (lv_at hl 0 rfl) ?_
      exact W_iret (wHA cI cJ a τ) hx hb hr hlk hP hS hAe hf dX2_hangs_51
    · refine lv_aload_n hx hb dX2_hangs_24 rfl (lv_at hl 0 rfl) ?_
      refine lv_bipush (v := (-2 : Int32)) hx hb dX2_hangs_25 (by decide) ?_
      refine d_callV (As := [.int (-2 : Int32)]) (rest := []) (w := (wHA cI cJ a τ)) (wc := (wHA cI cJ a τ)) (put := (fun uq => uq)) (σ := σ) (τ0 := σ) ⟨hx, hb, hml, hown, hts⟩ hf (fun vq zq hq => mX2_refuse l D cI cJ a H.size N τ σ (-2 : Int32) (vq, zq) hq) (cwV 1 hts gX2_hangs_X2_refuse rfl rfl rfl qX2_refuse ⟨Nat.le_of_ble_eq_true rfl, Nat.le_of_ble_eq_true rfl⟩) hK hP hD hS hA ⟨hP, hD _, fun _ _ _ h => h⟩ 2 rfl rfl rfl rfl hl.1 rfl (Nat.le_of_ble_eq_true rfl) dX2_hangs_27 ⟨Nat.le_refl _, Nat.le_refl _⟩ (fun v7 z6 H locs hP hS hf => ?_)
      exact W_iret (wHA cI cJ a τ) hx hb hr hlk hP hS hAe hf dX2_hangs_30
  · refine lv_aload_n hx hb dX2_hangs_11 rfl (lv_at hl 0 rfl) ?_
    refine lv_iconst (v := (-1 : Int32)) hx hb dX2_hangs_12 (by decide) ?_
    refine d_callV (As := [.int (-1 : Int32)]) (rest := []) (w := (wHA cI cJ a τ)) (wc := (wHA cI cJ a τ)) (put := (fun uq => uq)) (σ := σ) (τ0 := σ) ⟨hx, hb, hml, hown, hts⟩ hf (fun vq zq hq => mX2_refuse l D cI cJ a H.size N τ σ (-1 : Int32) (vq, zq) hq) (cwV 1 hts gX2_hangs_X2_refuse rfl rfl rfl qX2_refuse ⟨Nat.le_of_ble_eq_true rfl, Nat.le_of_ble_eq_true rfl⟩) hK hP hD hS hA ⟨hP, hD _, fun _ _ _ h => h⟩ 2 rfl rfl rfl rfl hl.1 rfl (Nat.le_of_ble_eq_true rfl) dX2_hangs_13 ⟨Nat.le_refl _, Nat.le_refl _⟩ (fun v9 z8 H locs hP hS hf => ?_)
    exact W_iret (wHA cI cJ a τ) hx hb hr hlk hP hS hAe hf dX2_hangs_16
def fX2_faultOf (N : Nat) (p1 : Int32) (p2 : Int32) (p3 : Int32) : Option Int32 :=
    if p2 ≤ p1 then if p1 ≤ p3 then some (0 : Int32)
    else some (-6 : Int32)
    else some (-4 : Int32)
abbrev rmX2_faultOf : Room := { frames := 0, cells := 0, slots := 0, locals := 0 }
theorem qX2_faultOf : yX2_faultOf.cls ≠ "java/lang/invoke/MethodHandle" ∧ yX2_faultOf.cls ≠ "java/lang/invoke/VarHandle" ∧ (parseMethodDescriptor yX2_faultOf.desc).map (fun d => d.parameters.length) = some 3 := by decide +kernel
set_option maxHeartbeats 400000 in
set_option maxRecDepth 100000 in
theorem mX2_faultOf (l : Launch) (D : va_G) (cI cJ : ClassId) (sz N : Nat) (p1 : Int32) (p2 : Int32) (p3 : Int32) (r : Int32) (hf : fX2_faultOf N p1 p2 p3 = some r) : Met l yX2_faultOf wsX2_faultOf rmX2_faultOf (RPre ([.int p1, .int p2, .int p3] : List Value) sz D (tyIJ cI cJ) (wNo)) (RQi sz r) 0 0 (fr0 sz) := by
  refine R_start (cc := cX2_faultOf) (maxL := 3) (ret := (some .int)) (by decide) rfl (Nat.le_of_ble_eq_true rfl) (fun p e s m below meth c ls hx hb hr hml hown hts hlk hP hK hS hA hsz hl => ?_)
  have hown : s.vm.findClass RX2 = some m.cls := hown
  have hl : lv_has ls 3 [(0, .int p1), (1, .int p2), (2, .int p3)] := hl
  unfold fX2_faultOf at hf
  refine lv_iload_n hx hb dX2_faultOf_0 rfl (lv_at hl 0 rfl) ?_
  refine lv_iload_n hx hb dX2_faultOf_1 rfl (lv_at hl 1 rfl) ?_
  refine k_icmp_ge (tgt := 8) hx hb dX2_faultOf_2 (by decide) hf (fun hf => ?_) (fun hf => ?_)
  · refine lv_iload_n hx hb dX2_faultOf_8 rfl (lv_at hl 0 rfl) ?_
    refine lv_iload_n hx hb dX2_faultOf_9 rfl (lv_at hl 2 rfl) ?_
    refine k_icmp_le (tgt := 18) hx hb dX2_faultOf_10 (by decide) hf (fun hf => ?_) (fun hf => ?_)
    · refine lv_iconst (v := (0 : Int32)) hx hb dX2_faultOf_18 (by decide) ?_
      exact R_iret hx hb hr hlk hS hsz hf dX2_faultOf_19
    · refine lv_bipush (v := (-6 : Int32)) hx hb dX2_faultOf_13 (by decide) ?_
      refine lv_goto (tgt := 19) hx hb dX2_faultOf_15 (by decide) ?_
      exact R_iret hx hb hr hlk hS hsz hf dX2_faultOf_19
  · refine lv_bipush (v := (-4 : Int32)) hx hb dX2_faultOf_5 (by decide) ?_
    exact R_iret hx hb hr hlk hS hsz hf dX2_faultOf_7
def fX2_loads (N : Nat) (σ : St) (p1 : Int32) (p2 : Int32) : Option (Int32 × St) :=
    bo (fX0_isSide N p1) (fun v1 =>
    if v1 = 0 then bx (fX2_refuse N σ (-1 : Int32)) (fun uq => uq) (fun v9 z8 =>
    some (v9, z8))
    else bo (fX2_faultOf N p2 (0 : Int32) (50 : Int32)) (fun v2 =>
    if v2 = 0 then bo (fX0_ballastOf N (sb [1, 2, 3, 4, 5, 6] σ) p1) (fun v3 =>
    bx (fX0_load N (sb [1, 2, 3, 4, 5, 6] σ) p1 p2) (fun uq => pb [1, 2, 3, 4, 5, 6] uq σ) (fun v5 z4 =>
    some (v3, z4)))
    else bx (fX2_refuse N σ v2) (fun uq => uq) (fun v7 z6 =>
    some (v7, z6))))
abbrev rmX2_loads : Room := { frames := 2, cells := 0, slots := 0, locals := 42 }
theorem qX2_loads : yX2_loads.cls = RX2 ∧ yX2_loads.cls ≠ "java/lang/invoke/MethodHandle" ∧ yX2_loads.cls ≠ "java/lang/invoke/VarHandle" ∧ (parseMethodDescriptor yX2_loads.desc).map (fun d => d.parameters.length) = some 2 := by decide +kernel
set_option maxHeartbeats 400000 in
set_option maxRecDepth 100000 in
theorem mX2_loads (l : Launch) (D : va_G) (cI cJ : ClassId) (a : Nat → Nat) (sz N : Nat) (τ : LSt) (σ : St) (p1 : Int32) (p2 : Int32) (r : (Int32 × St)) (hf : fX2_loads N σ p1 p2 = some r) : Met l yX2_loads wsX2_loads rmX2_loads (WPre ([.ref (a 0), .int p1, .int p2] : List Value) sz D (tyIJ cI cJ) (wHA cI cJ a τ σ)) (WQi sz D (wHA cI cJ a τ σ) (wHA cI cJ a τ (r.2)) r.1) 0 0 (va_A (wHA cI cJ a τ σ) sz) := by
  refine W_start (cc := cX2_loads) (maxL := 5) (ret := (some .int)) (by decide) rfl (Nat.le_of_ble_eq_true rfl) (fun p e s m below meth c ls A hx hb hr hml hown hts hlk hP hK hS hA hD0 hAe hl => ?_)
  have hD : ∀ z, va_D A ((wHA cI cJ a τ) z) := fun z => hD0.ad rfl
  have hown : s.vm.findClass RX2 = some m.cls := hown
  have hl : lv_has ls 5 [(0, .ref (a 0)), (1, .int p1), (2, .int p2)] := hl
  have ln1 := hts (Cond.fieldLink RX2 10 "HoistsAreShared" "now" "LHoistsAreShared$Hoist;") (List.mem_of_getElem? (i := 1) rfl)
  have inX2 : ∀ w ∈ u_ws RX2 TX2 14, w ∈ wsX2_loads := fun _ h => List.mem_cons_of_mem _ (List.mem_append_left _ (List.mem_append_right _ h))
  unfold fX2_loads at hf
  refine lv_iload_n hx hb dX2_loads_0 rfl (lv_at hl 1 rfl) ?_
  refine c_callS (As := [.int p1]) (rest := []) ⟨hx, hb, hml, hown, hts⟩ hf (fun vq hq => mX0_isSide l D cI cJ s.heap.size N p1 vq hq) (va_cwS 1 hts gX2_loads_X0_isSide rfl rfl rfl qX0_isSide ⟨Nat.le_of_ble_eq_true rfl, Nat.le_of_ble_eq_true rfl⟩) hK hP hS hA va_P_nil rfl hl.1 rfl (Nat.le_of_ble_eq_true rfl) dX2_loads_1 ⟨Nat.le_refl _, Nat.le_refl _⟩ (fun v1 H locs hP hS hf => ?_)
  refine k_if_ne (tgt := 13) hx hb dX2_loads_4 (by decide) hf (fun hf => ?_) (fun hf => ?_)
  · refine lv_iload_n hx hb dX2_loads_13 rfl (lv_at hl 2 rfl) ?_
    refine lv_iconst (v := (0 : Int32)) hx hb dX2_loads_14 (by decide) ?_
    refine lv_bipush (v := (50 : Int32)) hx hb dX2_loads_15 (by decide) ?_
    refine c_callS (As := [.int p2, .int (0 : Int32), .int (50 : Int32)]) (rest := []) ⟨hx, hb, hml, hown, hts⟩ hf (fun vq hq => mX2_faultOf l D cI cJ H.size N p2 (0 : Int32) (50 : Int32) vq hq) (va_cwS 3 hts gX2_loads_X2_faultOf rfl rfl rfl qX2_faultOf ⟨Nat.le_of_ble_eq_true rfl, Nat.le_of_ble_eq_true rfl⟩) hK hP hS hA va_P_nil rfl hl.1 rfl (Nat.le_of_ble_eq_true rfl) dX2_loads_17 ⟨Nat.le_refl _, Nat.le_refl _⟩ (fun v2 H locs hP hS hf => ?_)
    refine lv_istore_n (lv' := [(3, .int v2), (0, .ref (a 0)), (1, .int p1), (2, .int p2)]) hx hb dX2_loads_20 rfl hl (by decide) rfl (fun ls hl => ?_)
    refine lv_iload_n hx hb dX2_loads_21 rfl (lv_at hl 0 rfl) ?_
    refine k_if_eq (tgt := 31) hx hb dX2_loads_22 (by decide) hf (fun hf => ?_) (fun hf => ?_)
    · refine lv_aload_n hx hb dX2_loads_31 rfl (lv_at hl 1 rfl) ?_
      refine va_get (D := D) (ci := 2) (v := .ref (a 1)) (C := RX2) (T := TX2) (N := 14) hx hb hts inX2 hown hK hP 0 rfl rfl 0 (by decide) ln1 (fun _ h9 => h9) rfl dX2_loads_32 ?_
      refine lv_iload_n hx hb dX2_loads_35 rfl (lv_at hl 2 rfl) ?_
      refine c_callV (As := [.int p1]) (rest := []) ⟨hx, hb, hml, hown, hts⟩ hf (fun vq hq => mX0_ballastOf l D cI cJ (sb [1, 2, 3, 4, 5, 6] a) H.size N (sb [1, 2, 3, 4, 5, 6] σ) p1 vq hq) (cwV 1 hts gX2_loads_X0_ballastOf rfl rfl rfl qX0_ballastOf ⟨Nat.le_of_ble_eq_true rfl, Nat.le_of_ble_eq_true rfl⟩) hK hP hS hA (cmr_HA_Ho_1_2_3_4_5_6 D cI cJ a τ σ hP) 0 rfl rfl rfl rfl hl.1 rfl (Nat.le_of_ble_eq_true rfl) dX2_loads_36 ⟨Nat.le_refl _, Nat.le_refl _⟩ (fun v3 H locs hP hS hf => ?_)
      refine lv_istore (lv' := [(4, .int v3), (3, .int v2), (0, .ref (a 0)), (1, .int p1), (2, .int p2)]) hx hb dX2_loads_39 hl (by decide) rfl (fun ls hl => ?_)
      refine lv_aload_n hx hb dX2_loads_41 rfl (lv_at hl 2 rfl) ?_
      refine va_get (D := D) (ci := 2) (v := .ref (a 1)) (C := RX2) (T := TX2) (N := 14) hx hb hts inX2 hown hK hP 0 rfl rfl 0 (by decide) ln1 (fun _ h9 => h9) rfl dX2_loads_42 ?_
      refine lv_iload_n hx hb dX2_loads_45 rfl (lv_at hl 3 rfl) ?_
      refine lv_iload_n hx hb dX2_loads_46 rfl (lv_at hl 4 rfl) ?_
      refine d_callV (As := [.int p1, .int p2]) (rest := []) (w := (wHA cI cJ a τ)) (wc := (wHo cI (sb [1, 2, 3, 4, 5, 6] a))) (put := (fun uq => pb [1, 2, 3, 4, 5, 6] uq σ)) (σ := σ) (τ0 := (sb [1, 2, 3, 4, 5, 6] σ)) ⟨hx, hb, hml, hown, hts⟩ hf (fun vq zq hq => mX0_load l D cI cJ (sb [1, 2, 3, 4, 5, 6] a) H.size N (sb [1, 2, 3, 4, 5, 6] σ) p1 p2 (vq, zq) hq) (cwV 2 hts gX2_loads_X0_load rfl rfl rfl qX0_load ⟨Nat.le_of_ble_eq_true rfl, Nat.le_of_ble_eq_true rfl⟩) hK hP hD hS hA (cmb_HA_Ho_1_2_3_4_5_6 D cI cJ a τ σ hP (hD _)) 0 rfl rfl rfl rfl hl.1 rfl (Nat.le_of_ble_eq_true rfl) dX2_loads_47 ⟨Nat.le_refl _, Nat.le_refl _⟩ (fun v5 z4 H locs hP hS hf => ?_)
      refine lv_pop hx hb dX2_loads_50 rfl ?_
      refine lv_iload hx hb dX2_loads_51 (lv_at hl 0 rfl) ?_
      exact W_iret (wHA cI cJ a τ) hx hb hr hlk hP hS hAe hf dX2_loads_53
    · refine lv_aload_n hx hb dX2_loads_25 rfl (lv_at hl 1 rfl) ?_
      refine lv_iload_n hx hb dX2_loads_26 rfl (lv_at hl 0 rfl) ?_
      refine d_callV (As := [.int v2]) (rest := []) (w := (wHA cI cJ a τ)) (wc := (wHA cI cJ a τ)) (put := (fun uq => uq)) (σ := σ) (τ0 := σ) ⟨hx, hb, hml, hown, hts⟩ hf (fun vq zq hq => mX2_refuse l D cI cJ a H.size N τ σ v2 (vq, zq) hq) (cwV 1 hts gX2_loads_X2_refuse rfl rfl rfl qX2_refuse ⟨Nat.le_of_ble_eq_true rfl, Nat.le_of_ble_eq_true rfl⟩) hK hP hD hS hA ⟨hP, hD _, fun _ _ _ h => h⟩ 2 rfl rfl rfl rfl hl.1 rfl (Nat.le_of_ble_eq_true rfl) dX2_loads_27 ⟨Nat.le_refl _, Nat.le_refl _⟩ (fun v7 z6 H locs hP hS hf => ?_)
      exact W_iret (wHA cI cJ a τ) hx hb hr hlk hP hS hAe hf dX2_loads_30
  · refine lv_aload_n hx hb dX2_loads_7 rfl (lv_at hl 0 rfl) ?_
    refine lv_iconst (v := (-1 : Int32)) hx hb dX2_loads_8 (by decide) ?_
    refine d_callV (As := [.int (-1 : Int32)]) (rest := []) (w := (wHA cI cJ a τ)) (wc := (wHA cI cJ a τ)) (put := (fun uq => uq)) (σ := σ) (τ0 := σ) ⟨hx, hb, hml, hown, hts⟩ hf (fun vq zq hq => mX2_refuse l D cI cJ a H.size N τ σ (-1 : Int32) (vq, zq) hq) (cwV 1 hts gX2_loads_X2_refuse rfl rfl rfl qX2_refuse ⟨Nat.le_of_ble_eq_true rfl, Nat.le_of_ble_eq_true rfl⟩) hK hP hD hS hA ⟨hP, hD _, fun _ _ _ h => h⟩ 2 rfl rfl rfl rfl hl.1 rfl (Nat.le_of_ble_eq_true rfl) dX2_loads_9 ⟨Nat.le_refl _, Nat.le_refl _⟩ (fun v9 z8 H locs hP hS hf => ?_)
    exact W_iret (wHA cI cJ a τ) hx hb hr hlk hP hS hAe hf dX2_loads_12
def fX2_lifts (N : Nat) (σ : St) (p1 : Int32) : Option (Int32 × St) :=
    bo (fX0_isFloor N p1) (fun v1 =>
    if v1 = 0 then bx (fX2_refuse N σ (-1 : Int32)) (fun uq => uq) (fun v5 z4 =>
    some (v5, z4))
    else bx (fX0_lift N (sb [1, 2, 3, 4, 5, 6] σ) p1) (fun uq => pb [1, 2, 3, 4, 5, 6] uq σ) (fun v3 z2 =>
    some ((σ 1 0), z2)))
abbrev rmX2_lifts : Room := { frames := 2, cells := 0, slots := 0, locals := 41 }
theorem qX2_lifts : yX2_lifts.cls = RX2 ∧ yX2_lifts.cls ≠ "java/lang/invoke/MethodHandle" ∧ yX2_lifts.cls ≠ "java/lang/invoke/VarHandle" ∧ (parseMethodDescriptor yX2_lifts.desc).map (fun d => d.parameters.length) = some 1 := by decide +kernel
set_option maxHeartbeats 400000 in
set_option maxRecDepth 100000 in
theorem mX2_lifts (l : Launch) (D : va_G) (cI cJ : ClassId) (a : Nat → Nat) (sz N : Nat) (τ : LSt) (σ : St) (p1 : Int32) (r : (Int32 × St)) (hf : fX2_lifts N σ p1 = some r) : Met l yX2_lifts wsX2_lifts rmX2_lifts (WPre ([.ref (a 0), .int p1] : List Value) sz D (tyIJ cI cJ) (wHA cI cJ a τ σ)) (WQi sz D (wHA cI cJ a τ σ) (wHA cI cJ a τ (r.2)) r.1) 0 0 (va_A (wHA cI cJ a τ σ) sz) := by
  refine W_start (cc := cX2_lifts) (maxL := 3) (ret := (some .int)) (by decide) rfl (Nat.le_of_ble_eq_true rfl) (fun p e s m below meth c ls A hx hb hr hml hown hts hlk hP hK hS hA hD0 hAe hl => ?_)
  have hD : ∀ z, va_D A ((wHA cI cJ a τ) z) := fun z => hD0.ad rfl
  have hown : s.vm.findClass RX2 = some m.cls := hown
  have hl : lv_has ls 3 [(0, .ref (a 0)), (1, .int p1)] := hl
  have ln1 := hts (Cond.fieldLink RX2 10 "HoistsAreShared" "now" "LHoistsAreShared$Hoist;") (List.mem_of_getElem? (i := 1) rfl)
  have inX2 : ∀ w ∈ u_ws RX2 TX2 14, w ∈ wsX2_lifts := fun _ h => List.mem_cons_of_mem _ (List.mem_append_left _ (List.mem_append_right _ h))
  have ln3 := hts (Cond.fieldLink RX2 112 "HoistsAreShared$Hoist" "floor" "I") (List.mem_of_getElem? (i := 2) rfl)
  have inX0 : ∀ w ∈ u_ws RX0 TX0 9, w ∈ wsX2_lifts := fun _ h => List.mem_cons_of_mem _ (List.mem_append_right _ h)
  unfold fX2_lifts at hf
  refine lv_iload_n hx hb dX2_lifts_0 rfl (lv_at hl 1 rfl) ?_
  refine c_callS (As := [.int p1]) (rest := []) ⟨hx, hb, hml, hown, hts⟩ hf (fun vq hq => mX0_isFloor l D cI cJ s.heap.size N p1 vq hq) (va_cwS 1 hts gX2_lifts_X0_isFloor rfl rfl rfl qX0_isFloor ⟨Nat.le_of_ble_eq_true rfl, Nat.le_of_ble_eq_true rfl⟩) hK hP hS hA va_P_nil rfl hl.1 rfl (Nat.le_of_ble_eq_true rfl) dX2_lifts_1 ⟨Nat.le_refl _, Nat.le_refl _⟩ (fun v1 H locs hP hS hf => ?_)
  refine k_if_ne (tgt := 13) hx hb dX2_lifts_4 (by decide) hf (fun hf => ?_) (fun hf => ?_)
  · refine lv_aload_n hx hb dX2_lifts_13 rfl (lv_at hl 0 rfl) ?_
    refine va_get (D := D) (ci := 2) (v := .ref (a 1)) (C := RX2) (T := TX2) (N := 14) hx hb hts inX2 hown hK hP 0 rfl rfl 0 (by decide) ln1 (fun _ h9 => h9) rfl dX2_lifts_14 ?_
    refine va_get (D := D) (ci := 0) (v := .int (σ 1 0)) (C := RX0) (T := TX0) (N := 9) hx hb hts inX0 hown hK hP 1 rfl rfl 0 (by decide) ln3 (fun _ h9 => h9) rfl dX2_lifts_17 ?_
    refine lv_istore_n (lv' := [(2, .int (σ 1 0)), (0, .ref (a 0)), (1, .int p1)]) hx hb dX2_lifts_20 rfl hl (by decide) rfl (fun ls hl => ?_)
    refine lv_aload_n hx hb dX2_lifts_21 rfl (lv_at hl 1 rfl) ?_
    refine va_get (D := D) (ci := 2) (v := .ref (a 1)) (C := RX2) (T := TX2) (N := 14) hx hb hts inX2 hown hK hP 0 rfl rfl 0 (by decide) ln1 (fun _ h9 => h9) rfl dX2_lifts_22 ?_
    refine lv_iload_n hx hb dX2_lifts_25 rfl (lv_at hl 2 rfl) ?_
    refine d_callV (As := [.int p1]) (rest := []) (w := (wHA cI cJ a τ)) (wc := (wHo cI (sb [1, 2, 3, 4, 5, 6] a))) (put := (fun uq => pb [1, 2, 3, 4, 5, 6] uq σ)) (σ := σ) (τ0 := (sb [1, 2, 3, 4, 5, 6] σ)) ⟨hx, hb, hml, hown, hts⟩ hf (fun vq zq hq => mX0_lift l D cI cJ (sb [1, 2, 3, 4, 5, 6] a) H.size N (sb [1, 2, 3, 4, 5, 6] σ) p1 (vq, zq) hq) (cwV 1 hts gX2_lifts_X0_lift rfl rfl rfl qX0_lift ⟨Nat.le_of_ble_eq_true rfl, Nat.le_of_ble_eq_true rfl⟩) hK hP hD hS hA (cmb_HA_Ho_1_2_3_4_5_6 D cI cJ a τ σ hP (hD _)) 0 rfl rfl rfl rfl hl.1 rfl (Nat.le_of_ble_eq_true rfl) dX2_lifts_26 ⟨Nat.le_refl _, Nat.le_refl _⟩ (fun v3 z2 H locs hP hS hf => ?_)
    refine lv_pop hx hb dX2_lifts_29 rfl ?_
    refine lv_iload_n hx hb dX2_lifts_30 rfl (lv_at hl 0 rfl) ?_
    exact W_iret (wHA cI cJ a τ) hx hb hr hlk hP hS hAe hf dX2_lifts_31
  · refine lv_aload_n hx hb dX2_lifts_7 rfl (lv_at hl 0 rfl) ?_
    refine lv_iconst (v := (-1 : Int32)) hx hb dX2_lifts_8 (by decide) ?_
    refine d_callV (As := [.int (-1 : Int32)]) (rest := []) (w := (wHA cI cJ a τ)) (wc := (wHA cI cJ a τ)) (put := (fun uq => uq)) (σ := σ) (τ0 := σ) ⟨hx, hb, hml, hown, hts⟩ hf (fun vq zq hq => mX2_refuse l D cI cJ a H.size N τ σ (-1 : Int32) (vq, zq) hq) (cwV 1 hts gX2_lifts_X2_refuse rfl rfl rfl qX2_refuse ⟨Nat.le_of_ble_eq_true rfl, Nat.le_of_ble_eq_true rfl⟩) hK hP hD hS hA ⟨hP, hD _, fun _ _ _ h => h⟩ 2 rfl rfl rfl rfl hl.1 rfl (Nat.le_of_ble_eq_true rfl) dX2_lifts_9 ⟨Nat.le_refl _, Nat.le_refl _⟩ (fun v5 z4 H locs hP hS hf => ?_)
    exact W_iret (wHA cI cJ a τ) hx hb hr hlk hP hS hAe hf dX2_lifts_12
def fX2_doors (N : Nat) (σ : St) (p1 : Int32) : Option (Int32 × St) :=
    bo (fX0_isFloor N p1) (fun v1 =>
    if v1 = 0 then bx (fX2_refuse N σ (-1 : Int32)) (fun uq => uq) (fun v6 z5 =>
    some (v6, z5))
    else bx (fX0_switchDoor N (sb [1, 2, 3, 4, 5, 6] σ) p1) (fun uq => pb [1, 2, 3, 4, 5, 6] uq σ) (fun v3 z2 =>
    bo (fX0_isDoor N (sb [1, 2, 3, 4, 5, 6] z2) p1) (fun v4 =>
    if v4 = 0 then some ((0 : Int32), z2)
    else some ((1 : Int32), z2))))
abbrev rmX2_doors : Room := { frames := 2, cells := 0, slots := 0, locals := 41 }
theorem qX2_doors : yX2_doors.cls = RX2 ∧ yX2_doors.cls ≠ "java/lang/invoke/MethodHandle" ∧ yX2_doors.cls ≠ "java/lang/invoke/VarHandle" ∧ (parseMethodDescriptor yX2_doors.desc).map (fun d => d.parameters.length) = some 1 := by decide +kernel
set_option maxHeartbeats 400000 in
set_option maxRecDepth 100000 in
theorem mX2_doors (l : Launch) (D : va_G) (cI cJ : ClassId) (a : Nat → Nat) (sz N : Nat) (τ : LSt) (σ : St) (p1 : Int32) (r : (Int32 × St)) (hf : fX2_doors N σ p1 = some r) : Met l yX2_doors wsX2_doors rmX2_doors (WPre ([.ref (a 0), .int p1] : List Value) sz D (tyIJ cI cJ) (wHA cI cJ a τ σ)) (WQi sz D (wHA cI cJ a τ σ) (wHA cI cJ a τ (r.2)) r.1) 0 0 (va_A (wHA cI cJ a τ σ) sz) := by
  refine W_start (cc := cX2_doors) (maxL := 2) (ret := (some .int)) (by decide) rfl (Nat.le_of_ble_eq_true rfl) (fun p e s m below meth c ls A hx hb hr hml hown hts hlk hP hK hS hA hD0 hAe hl => ?_)
  have hD : ∀ z, va_D A ((wHA cI cJ a τ) z) := fun z => hD0.ad rfl
  have hown : s.vm.findClass RX2 = some m.cls := hown
  have hl : lv_has ls 2 [(0, .ref (a 0)), (1, .int p1)] := hl
  have ln1 := hts (Cond.fieldLink RX2 10 "HoistsAreShared" "now" "LHoistsAreShared$Hoist;") (List.mem_of_getElem? (i := 1) rfl)
  have inX2 : ∀ w ∈ u_ws RX2 TX2 14, w ∈ wsX2_doors := fun _ h => List.mem_cons_of_mem _ (List.mem_append_left _ (List.mem_append_right _ h))
  unfold fX2_doors at hf
  refine lv_iload_n hx hb dX2_doors_0 rfl (lv_at hl 1 rfl) ?_
  refine c_callS (As := [.int p1]) (rest := []) ⟨hx, hb, hml, hown, hts⟩ hf (fun vq hq => mX0_isFloor l D cI cJ s.heap.size N p1 vq hq) (va_cwS 1 hts gX2_doors_X0_isFloor rfl rfl rfl qX0_isFloor ⟨Nat.le_of_ble_eq_true rfl, Nat.le_of_ble_eq_true rfl⟩) hK hP hS hA va_P_nil rfl hl.1 rfl (Nat.le_of_ble_eq_true rfl) dX2_doors_1 ⟨Nat.le_refl _, Nat.le_refl _⟩ (fun v1 H locs hP hS hf => ?_)
  refine k_if_ne (tgt := 13) hx hb dX2_doors_4 (by decide) hf (fun hf => ?_) (fun hf => ?_)
  · refine lv_aload_n hx hb dX2_doors_13 rfl (lv_at hl 0 rfl) ?_
    refine va_get (D := D) (ci := 2) (v := .ref (a 1)) (C := RX2) (T := TX2) (N := 14) hx hb hts inX2 hown hK hP 0 rfl rfl 0 (by decide) ln1 (fun _ h9 => h9) rfl dX2_doors_14 ?_
    refine lv_iload_n hx hb dX2_doors_17 rfl (lv_at hl 1 rfl) ?_
    refine d_callV (As := [.int p1]) (rest := []) (w := (wHA cI cJ a τ)) (wc := (wHo cI (sb [1, 2, 3, 4, 5, 6] a))) (put := (fun uq => pb [1, 2, 3, 4, 5, 6] uq σ)) (σ := σ) (τ0 := (sb [1, 2, 3, 4, 5, 6] σ)) ⟨hx, hb, hml, hown, hts⟩ hf (fun vq zq hq => mX0_switchDoor l D cI cJ (sb [1, 2, 3, 4, 5, 6] a) H.size N (sb [1, 2, 3, 4, 5, 6] σ) p1 (vq, zq) hq) (cwV 1 hts gX2_doors_X0_switchDoor rfl rfl rfl qX0_switchDoor ⟨Nat.le_of_ble_eq_true rfl, Nat.le_of_ble_eq_true rfl⟩) hK hP hD hS hA (cmb_HA_Ho_1_2_3_4_5_6 D cI cJ a τ σ hP (hD _)) 0 rfl rfl rfl rfl hl.1 rfl (Nat.le_of_ble_eq_true rfl) dX2_doors_18 ⟨Nat.le_refl _, Nat.le_refl _⟩ (fun v3 z2 H locs hP hS hf => ?_)
    refine lv_pop hx hb dX2_doors_21 rfl ?_
    refine lv_aload_n hx hb dX2_doors_22 rfl (lv_at hl 0 rfl) ?_
    refine va_get (D := D) (ci := 2) (v := .ref (a 1)) (C := RX2) (T := TX2) (N := 14) hx hb hts inX2 hown hK hP 0 rfl rfl 0 (by decide) ln1 (fun _ h9 => h9) rfl dX2_doors_23 ?_
    refine lv_iload_n hx hb dX2_doors_26 rfl (lv_at hl 1 rfl) ?_
    refine c_callV (As := [.int p1]) (rest := []) ⟨hx, hb, hml, hown, hts⟩ hf (fun vq hq => mX0_isDoor l D cI cJ (sb [1, 2, 3, 4, 5, 6] a) H.size N (sb [1, 2, 3, 4, 5, 6] z2) p1 vq hq) (cwV 1 hts gX2_doors_X0_isDoor rfl rfl rfl qX0_isDoor ⟨Nat.le_of_ble_eq_true rfl, Nat.le_of_ble_eq_true rfl⟩) hK hP hS hA (cmr_HA_Ho_1_2_3_4_5_6 D cI cJ a τ z2 hP) 0 rfl rfl rfl rfl hl.1 rfl (Nat.le_of_ble_eq_true rfl) dX2_doors_27 ⟨Nat.le_refl _, Nat.le_refl _⟩ (fun v4 H locs hP hS hf => ?_)
    refine k_if_eq (tgt := 37) hx hb dX2_doors_30 (by decide) hf (fun hf => ?_) (fun hf => ?_)
    · refine lv_iconst (v := (0 : Int32)) hx hb dX2_doors_37 (by decide) ?_
      exact W_iret (wHA cI cJ a τ) hx hb hr hlk hP hS hAe hf dX2_doors_38
    · refine lv_iconst (v := (1 : Int32)) hx hb dX2_doors_33 (by decide) ?_
      refine lv_goto (tgt := 38) hx hb dX2_doors_34 (by decide) ?_
      exact W_iret (wHA cI cJ a τ) hx hb hr hlk hP hS hAe hf dX2_doors_38
  · refine lv_aload_n hx hb dX2_doors_7 rfl (lv_at hl 0 rfl) ?_
    refine lv_iconst (v := (-1 : Int32)) hx hb dX2_doors_8 (by decide) ?_
    refine d_callV (As := [.int (-1 : Int32)]) (rest := []) (w := (wHA cI cJ a τ)) (wc := (wHA cI cJ a τ)) (put := (fun uq => uq)) (σ := σ) (τ0 := σ) ⟨hx, hb, hml, hown, hts⟩ hf (fun vq zq hq => mX2_refuse l D cI cJ a H.size N τ σ (-1 : Int32) (vq, zq) hq) (cwV 1 hts gX2_doors_X2_refuse rfl rfl rfl qX2_refuse ⟨Nat.le_of_ble_eq_true rfl, Nat.le_of_ble_eq_true rfl⟩) hK hP hD hS hA ⟨hP, hD _, fun _ _ _ h => h⟩ 2 rfl rfl rfl rfl hl.1 rfl (Nat.le_of_ble_eq_true rfl) dX2_doors_9 ⟨Nat.le_refl _, Nat.le_refl _⟩ (fun v6 z5 H locs hP hS hf => ?_)
    exact W_iret (wHA cI cJ a τ) hx hb hr hlk hP hS hAe hf dX2_doors_12
def fX2_turn (N : Nat) (σ : St) (p1 : Int32) (p2 : Int32) (p3 : Int32) : Option (Int32 × St) :=
    bo (fX0_has N (sb [1, 2, 3, 4, 5, 6] σ) p1) (fun v1 =>
    if v1 = 0 then bx (fX2_refuse N σ (-1 : Int32)) (fun uq => uq) (fun v13 z12 =>
    some (v13, z12))
    else bo (fX0_isKind N p2) (fun v2 =>
    if v2 = 0 then bx (fX2_refuse N σ (-2 : Int32)) (fun uq => uq) (fun v11 z10 =>
    some (v11, z10))
    else bo (fX2_faultOf N p3 (0 : Int32) (9 : Int32)) (fun v3 =>
    if v3 = 0 then bo (fX0_kindOf N (sb [1, 2, 3, 4, 5, 6] σ) p1) (fun v4 =>
    bo (fX0_figureOf N (sb [1, 2, 3, 4, 5, 6] σ) p1) (fun v5 =>
    lt_ ((((10 : Int32) * v4) + v5) : Int32) (fun v6 =>
    by_ (fX0_become N (sb [1, 2, 3, 4, 5, 6] σ) p1 p2 p3) (fun uq => pb [1, 2, 3, 4, 5, 6] uq σ) (fun z7 =>
    some (v6, z7)))))
    else bx (fX2_refuse N σ v3) (fun uq => uq) (fun v9 z8 =>
    some (v9, z8)))))
abbrev rmX2_turn : Room := { frames := 2, cells := 0, slots := 0, locals := 44 }
theorem qX2_turn : yX2_turn.cls = RX2 ∧ yX2_turn.cls ≠ "java/lang/invoke/MethodHandle" ∧ yX2_turn.cls ≠ "java/lang/invoke/VarHandle" ∧ (parseMethodDescriptor yX2_turn.desc).map (fun d => d.parameters.length) = some 3 := by decide +kernel
set_option maxHeartbeats 400000 in
set_option maxRecDepth 100000 in
theorem mX2_turn (l : Launch) (D : va_G) (cI cJ : ClassId) (a : Nat → Nat) (sz N : Nat) (τ : LSt) (σ : St) (p1 : Int32) (p2 : Int32) (p3 : Int32) (r : (Int32 × St)) (hf : fX2_turn N σ p1 p2 p3 = some r) : Met l yX2_turn wsX2_turn rmX2_turn (WPre ([.ref (a 0), .int p1, .int p2, .int p3] : List Value) sz D (tyIJ cI cJ) (wHA cI cJ a τ σ)) (WQi sz D (wHA cI cJ a τ σ) (wHA cI cJ a τ (r.2)) r.1) 0 0 (va_A (wHA cI cJ a τ σ) sz) := by
  refine W_start (cc := cX2_turn) (maxL := 6) (ret := (some .int)) (by decide) rfl (Nat.le_of_ble_eq_true rfl) (fun p e s m below meth c ls A hx hb hr hml hown hts hlk hP hK hS hA hD0 hAe hl => ?_)
  have hD : ∀ z, va_D A ((wHA cI cJ a τ) z) := fun z => hD0.ad rfl
  have hown : s.vm.findClass RX2 = some m.cls := hown
  have hl : lv_has ls 6 [(0, .ref (a 0)), (1, .int p1), (2, .int p2), (3, .int p3)] := hl
  have ln1 := hts (Cond.fieldLink RX2 10 "HoistsAreShared" "now" "LHoistsAreShared$Hoist;") (List.mem_of_getElem? (i := 1) rfl)
  have inX2 : ∀ w ∈ u_ws RX2 TX2 14, w ∈ wsX2_turn := fun _ h => List.mem_cons_of_mem _ (List.mem_append_left _ (List.mem_append_right _ h))
  unfold fX2_turn at hf
  refine lv_aload_n hx hb dX2_turn_0 rfl (lv_at hl 0 rfl) ?_
  refine va_get (D := D) (ci := 2) (v := .ref (a 1)) (C := RX2) (T := TX2) (N := 14) hx hb hts inX2 hown hK hP 0 rfl rfl 0 (by decide) ln1 (fun _ h9 => h9) rfl dX2_turn_1 ?_
  refine lv_iload_n hx hb dX2_turn_4 rfl (lv_at hl 1 rfl) ?_
  refine c_callV (As := [.int p1]) (rest := []) ⟨hx, hb, hml, hown, hts⟩ hf (fun vq hq => mX0_has l D cI cJ (sb [1, 2, 3, 4, 5, 6] a) s.heap.size N (sb [1, 2, 3, 4, 5, 6] σ) p1 vq hq) (cwV 1 hts gX2_turn_X0_has rfl rfl rfl qX0_has ⟨Nat.le_of_ble_eq_true rfl, Nat.le_of_ble_eq_true rfl⟩) hK hP hS hA (cmr_HA_Ho_1_2_3_4_5_6 D cI cJ a τ σ hP) 0 rfl rfl rfl rfl hl.1 rfl (Nat.le_of_ble_eq_true rfl) dX2_turn_5 ⟨Nat.le_refl _, Nat.le_refl _⟩ (fun v1 H locs hP hS hf => ?_)
  refine k_if_ne (tgt := 17) hx hb dX2_turn_8 (by decide) hf (fun hf => ?_) (fun hf => ?_)
  · refine lv_iload_n hx hb dX2_turn_17 rfl (lv_at hl 2 rfl) ?_
    refine c_callS (As := [.int p2]) (rest := []) ⟨hx, hb, hml, hown, hts⟩ hf (fun vq hq => mX0_isKind l D cI cJ H.size N p2 vq hq) (va_cwS 1 hts gX2_turn_X0_isKind rfl rfl rfl qX0_isKind ⟨Nat.le_of_ble_eq_true rfl, Nat.le_of_ble_eq_true rfl⟩) hK hP hS hA va_P_nil rfl hl.1 rfl (Nat.le_of_ble_eq_true rfl) dX2_turn_18 ⟨Nat.le_refl _, Nat.le_refl _⟩ (fun v2 H locs hP hS hf => ?_)
    refine k_if_ne (tgt := 31) hx hb dX2_turn_21 (by decide) hf (fun hf => ?_) (fun hf => ?_)
    · refine lv_iload_n hx hb dX2_turn_31 rfl (lv_at hl 3 rfl) ?_
      refine lv_iconst (v := (0 : Int32)) hx hb dX2_turn_32 (by decide) ?_
      refine lv_bipush (v := (9 : Int32)) hx hb dX2_turn_33 (by decide) ?_
      refine c_callS (As := [.int p3, .int (0 : Int32), .int (9 : Int32)]) (rest := []) ⟨hx, hb, hml, hown, hts⟩ hf (fun vq hq => mX2_faultOf l D cI cJ H.size N p3 (0 : Int32) (9 : Int32) vq hq) (va_cwS 3 hts gX2_turn_X2_faultOf rfl rfl rfl qX2_faultOf ⟨Nat.le_of_ble_eq_true rfl, Nat.le_of_ble_eq_true rfl⟩) hK hP hS hA va_P_nil rfl hl.1 rfl (Nat.le_of_ble_eq_true rfl) dX2_turn_35 ⟨Nat.le_refl _, Nat.le_refl _⟩ (fun v3 H locs hP hS hf => ?_)
      refine lv_istore (lv' := [(4, .int v3), (0, .ref (a 0)), (1, .int p1), (2, .int p2), (3, .int p3)]) hx hb dX2_turn_38 hl (by decide) rfl (fun ls hl => ?_)
      refine lv_iload hx hb dX2_turn_40 (lv_at hl 0 rfl) ?_
      refine k_if_eq (tgt := 52) hx hb dX2_turn_42 (by decide) hf (fun hf => ?_) (fun hf => ?_)
      · refine lv_bipush (v := (10 : Int32)) hx hb dX2_turn_52 (by decide) ?_
        refine lv_aload_n hx hb dX2_turn_54 rfl (lv_at hl 1 rfl) ?_
        refine va_get (D := D) (ci := 2) (v := .ref (a 1)) (C := RX2) (T := TX2) (N := 14) hx hb hts inX2 hown hK hP 0 rfl rfl 0 (by decide) ln1 (fun _ h9 => h9) rfl dX2_turn_55 ?_
        refine lv_iload_n hx hb dX2_turn_58 rfl (lv_at hl 2 rfl) ?_
        refine c_callV (As := [.int p1]) (rest := [.int (10 : Int32)]) ⟨hx, hb, hml, hown, hts⟩ hf (fun vq hq => mX0_kindOf l D cI cJ (sb [1, 2, 3, 4, 5, 6] a) H.size N (sb [1, 2, 3, 4, 5, 6] σ) p1 vq hq) (cwV 1 hts gX2_turn_X0_kindOf rfl rfl rfl qX0_kindOf ⟨Nat.le_of_ble_eq_true rfl, Nat.le_of_ble_eq_true rfl⟩) hK hP hS hA (cmr_HA_Ho_1_2_3_4_5_6 D cI cJ a τ σ hP) 0 rfl rfl rfl rfl hl.1 rfl (Nat.le_of_ble_eq_true rfl) dX2_turn_59 ⟨Nat.le_refl _, Nat.le_refl _⟩ (fun v4 H locs hP hS hf => ?_)
        refine lv_imul hx hb dX2_turn_62 ?_
        refine lv_aload_n hx hb dX2_turn_63 rfl (lv_at hl 1 rfl) ?_
        refine va_get (D := D) (ci := 2) (v := .ref (a 1)) (C := RX2) (T := TX2) (N := 14) hx hb hts inX2 hown hK hP 0 rfl rfl 0 (by decide) ln1 (fun _ h9 => h9) rfl dX2_turn_64 ?_
        refine lv_iload_n hx hb dX2_turn_67 rfl (lv_at hl 2 rfl) ?_
        refine c_callV (As := [.int p1]) (rest := [.int ((10 : Int32) * v4)]) ⟨hx, hb, hml, hown, hts⟩ hf (fun vq hq => mX0_figureOf l D cI cJ (sb [1, 2, 3, 4, 5, 6] a) H.size N (sb [1, 2, 3, 4, 5, 6] σ) p1 vq hq) (cwV 1 hts gX2_turn_X0_figureOf rfl rfl rfl qX0_figureOf ⟨Nat.le_of_ble_eq_true rfl, Nat.le_of_ble_eq_true rfl⟩) hK hP hS hA (cmr_HA_Ho_1_2_3_4_5_6 D cI cJ a τ σ hP) 0 rfl rfl rfl rfl hl.1 rfl (Nat.le_of_ble_eq_true rfl) dX2_turn_68 ⟨Nat.le_refl _, Nat.le_refl _⟩ (fun v5 H locs hP hS hf => ?_)
        refine lv_iadd hx hb dX2_turn_71 ?_
        refine k_let hf (fun v6 hf => ?_)
        refine lv_istore (lv' := [(5, .int v6), (4, .int v3), (0, .ref (a 0)), (1, .int p1), (2, .int p2), (3, .int p3)]) hx hb dX2_turn_72 hl (by decide) rfl (fun ls hl => ?_)
        refine lv_aload_n hx hb dX2_turn_74 rfl (lv_at hl 2 rfl) ?_
        refine va_get (D := D) (ci := 2) (v := .ref (a 1)) (C := RX2) (T := TX2) (N := 14) hx hb hts inX2 hown hK hP 0 rfl rfl 0 (by decide) ln1 (fun _ h9 => h9) rfl dX2_turn_75 ?_
        refine lv_iload_n hx hb dX2_turn_78 rfl (lv_at hl 3 rfl) ?_
        refine lv_iload_n hx hb dX2_turn_79 rfl (lv_at hl 4 rfl) ?_
        refine lv_iload_n hx hb dX2_turn_80 rfl (lv_at hl 5 rfl) ?_
        refine d_callVv (As := [.int p1, .int p2, .int p3]) (rest := []) (w := (wHA cI cJ a τ)) (wc := (wHo cI (sb [1, 2, 3, 4, 5, 6] a))) (put := (fun uq => pb [1, 2, 3, 4, 5, 6] uq σ)) (σ := σ) (τ0 := (sb [1, 2, 3, 4, 5, 6] σ)) ⟨hx, hb, hml, hown, hts⟩ hf (fun zq hq => mX0_become l D cI cJ (sb [1, 2, 3, 4, 5, 6] a) H.size N (sb [1, 2, 3, 4, 5, 6] σ) p1 p2 p3 zq hq) (cwV 3 hts gX2_turn_X0_become rfl rfl rfl qX0_become ⟨Nat.le_of_ble_eq_true rfl, Nat.le_of_ble_eq_true rfl⟩) hK hP hD hS hA (cmb_HA_Ho_1_2_3_4_5_6 D cI cJ a τ σ hP (hD _)) 0 rfl rfl rfl rfl hl.1 rfl (Nat.le_of_ble_eq_true rfl) dX2_turn_81 ⟨Nat.le_refl _, Nat.le_refl _⟩ (fun z7 H locs hP hS hf => ?_)
        refine lv_iload hx hb dX2_turn_84 (lv_at hl 0 rfl) ?_
        exact W_iret (wHA cI cJ a τ) hx hb hr hlk hP hS hAe hf dX2_turn_86
      · refine lv_aload_n hx hb dX2_turn_45 rfl (lv_at hl 1 rfl) ?_
        refine lv_iload hx hb dX2_turn_46 (lv_at hl 0 rfl) ?_
        refine d_callV (As := [.int v3]) (rest := []) (w := (wHA cI cJ a τ)) (wc := (wHA cI cJ a τ)) (put := (fun uq => uq)) (σ := σ) (τ0 := σ) ⟨hx, hb, hml, hown, hts⟩ hf (fun vq zq hq => mX2_refuse l D cI cJ a H.size N τ σ v3 (vq, zq) hq) (cwV 1 hts gX2_turn_X2_refuse rfl rfl rfl qX2_refuse ⟨Nat.le_of_ble_eq_true rfl, Nat.le_of_ble_eq_true rfl⟩) hK hP hD hS hA ⟨hP, hD _, fun _ _ _ h => h⟩ 2 rfl rfl rfl rfl hl.1 rfl (Nat.le_of_ble_eq_true rfl) dX2_turn_48 ⟨Nat.le_refl _, Nat.le_refl _⟩ (fun v9 z8 H locs hP hS hf => ?_)
        exact W_iret (wHA cI cJ a τ) hx hb hr hlk hP hS hAe hf dX2_turn_51
    · refine lv_aload_n hx hb dX2_turn_24 rfl (lv_at hl 0 rfl) ?_
      refine lv_bipush (v := (-2 : Int32)) hx hb dX2_turn_25 (by decide) ?_
      refine d_callV (As := [.int (-2 : Int32)]) (rest := []) (w := (wHA cI cJ a τ)) (wc := (wHA cI cJ a τ)) (put := (fun uq => uq)) (σ := σ) (τ0 := σ) ⟨hx, hb, hml, hown, hts⟩ hf (fun vq zq hq => mX2_refuse l D cI cJ a H.size N τ σ (-2 : Int32) (vq, zq) hq) (cwV 1 hts gX2_turn_X2_refuse rfl rfl rfl qX2_refuse ⟨Nat.le_of_ble_eq_true rfl, Nat.le_of_ble_eq_true rfl⟩) hK hP hD hS hA ⟨hP, hD _, fun _ _ _ h => h⟩ 2 rfl rfl rfl rfl hl.1 rfl (Nat.le_of_ble_eq_true rfl) dX2_turn_27 ⟨Nat.le_refl _, Nat.le_refl _⟩ (fun v11 z10 H locs hP hS hf => ?_)
      exact W_iret (wHA cI cJ a τ) hx hb hr hlk hP hS hAe hf dX2_turn_30
  · refine lv_aload_n hx hb dX2_turn_11 rfl (lv_at hl 0 rfl) ?_
    refine lv_iconst (v := (-1 : Int32)) hx hb dX2_turn_12 (by decide) ?_
    refine d_callV (As := [.int (-1 : Int32)]) (rest := []) (w := (wHA cI cJ a τ)) (wc := (wHA cI cJ a τ)) (put := (fun uq => uq)) (σ := σ) (τ0 := σ) ⟨hx, hb, hml, hown, hts⟩ hf (fun vq zq hq => mX2_refuse l D cI cJ a H.size N τ σ (-1 : Int32) (vq, zq) hq) (cwV 1 hts gX2_turn_X2_refuse rfl rfl rfl qX2_refuse ⟨Nat.le_of_ble_eq_true rfl, Nat.le_of_ble_eq_true rfl⟩) hK hP hD hS hA ⟨hP, hD _, fun _ _ _ h => h⟩ 2 rfl rfl rfl rfl hl.1 rfl (Nat.le_of_ble_eq_true rfl) dX2_turn_13 ⟨Nat.le_refl _, Nat.le_refl _⟩ (fun v13 z12 H locs hP hS hf => ?_)
    exact W_iret (wHA cI cJ a τ) hx hb hr hlk hP hS hAe hf dX2_turn_16
def fX2_days (N : Nat) (σ : St) (p1 : Int32) : Option (Int32 × St) :=
    bo (fX2_faultOf N p1 (1 : Int32) (60 : Int32)) (fun v1 =>
    if v1 = 0 then bo (fX0_hasDays N (sb [1, 2, 3, 4, 5, 6] σ) p1) (fun v2 =>
    if v2 = 0 then bx (fX2_refuse N σ (-6 : Int32)) (fun uq => uq) (fun v6 z5 =>
    some (v6, z5))
    else bx (fX0_pass N (sb [1, 2, 3, 4, 5, 6] σ) p1) (fun uq => pb [1, 2, 3, 4, 5, 6] uq σ) (fun v4 z3 =>
    some ((z3 1 0), z3)))
    else bx (fX2_refuse N σ v1) (fun uq => uq) (fun v8 z7 =>
    some (v8, z7)))
abbrev rmX2_days : Room := { frames := 4, cells := 0, slots := 0, locals := 94 }
theorem qX2_days : yX2_days.cls = RX2 ∧ yX2_days.cls ≠ "java/lang/invoke/MethodHandle" ∧ yX2_days.cls ≠ "java/lang/invoke/VarHandle" ∧ (parseMethodDescriptor yX2_days.desc).map (fun d => d.parameters.length) = some 1 := by decide +kernel
set_option maxHeartbeats 400000 in
set_option maxRecDepth 100000 in
theorem mX2_days (l : Launch) (D : va_G) (cI cJ : ClassId) (a : Nat → Nat) (sz N : Nat) (τ : LSt) (σ : St) (p1 : Int32) (r : (Int32 × St)) (hf : fX2_days N σ p1 = some r) : Met l yX2_days wsX2_days rmX2_days (WPre ([.ref (a 0), .int p1] : List Value) sz D (tyIJ cI cJ) (wHA cI cJ a τ σ)) (WQi sz D (wHA cI cJ a τ σ) (wHA cI cJ a τ (r.2)) r.1) 0 0 (va_A (wHA cI cJ a τ σ) sz) := by
  refine W_start (cc := cX2_days) (maxL := 3) (ret := (some .int)) (by decide) rfl (Nat.le_of_ble_eq_true rfl) (fun p e s m below meth c ls A hx hb hr hml hown hts hlk hP hK hS hA hD0 hAe hl => ?_)
  have hD : ∀ z, va_D A ((wHA cI cJ a τ) z) := fun z => hD0.ad rfl
  have hown : s.vm.findClass RX2 = some m.cls := hown
  have hl : lv_has ls 3 [(0, .ref (a 0)), (1, .int p1)] := hl
  have ln1 := hts (Cond.fieldLink RX2 10 "HoistsAreShared" "now" "LHoistsAreShared$Hoist;") (List.mem_of_getElem? (i := 1) rfl)
  have inX2 : ∀ w ∈ u_ws RX2 TX2 14, w ∈ wsX2_days := fun _ h => List.mem_cons_of_mem _ (List.mem_append_left _ (List.mem_append_right _ h))
  have ln3 := hts (Cond.fieldLink RX2 112 "HoistsAreShared$Hoist" "floor" "I") (List.mem_of_getElem? (i := 2) rfl)
  have inX0 : ∀ w ∈ u_ws RX0 TX0 9, w ∈ wsX2_days := fun _ h => List.mem_cons_of_mem _ (List.mem_append_right _ h)
  unfold fX2_days at hf
  refine lv_iload_n hx hb dX2_days_0 rfl (lv_at hl 1 rfl) ?_
  refine lv_iconst (v := (1 : Int32)) hx hb dX2_days_1 (by decide) ?_
  refine lv_bipush (v := (60 : Int32)) hx hb dX2_days_2 (by decide) ?_
  refine c_callS (As := [.int p1, .int (1 : Int32), .int (60 : Int32)]) (rest := []) ⟨hx, hb, hml, hown, hts⟩ hf (fun vq hq => mX2_faultOf l D cI cJ s.heap.size N p1 (1 : Int32) (60 : Int32) vq hq) (va_cwS 3 hts gX2_days_X2_faultOf rfl rfl rfl qX2_faultOf ⟨Nat.le_of_ble_eq_true rfl, Nat.le_of_ble_eq_true rfl⟩) hK hP hS hA va_P_nil rfl hl.1 rfl (Nat.le_of_ble_eq_true rfl) dX2_days_4 ⟨Nat.le_refl _, Nat.le_refl _⟩ (fun v1 H locs hP hS hf => ?_)
  refine lv_istore_n (lv' := [(2, .int v1), (0, .ref (a 0)), (1, .int p1)]) hx hb dX2_days_7 rfl hl (by decide) rfl (fun ls hl => ?_)
  refine lv_iload_n hx hb dX2_days_8 rfl (lv_at hl 0 rfl) ?_
  refine k_if_eq (tgt := 18) hx hb dX2_days_9 (by decide) hf (fun hf => ?_) (fun hf => ?_)
  · refine lv_aload_n hx hb dX2_days_18 rfl (lv_at hl 1 rfl) ?_
    refine va_get (D := D) (ci := 2) (v := .ref (a 1)) (C := RX2) (T := TX2) (N := 14) hx hb hts inX2 hown hK hP 0 rfl rfl 0 (by decide) ln1 (fun _ h9 => h9) rfl dX2_days_19 ?_
    refine lv_iload_n hx hb dX2_days_22 rfl (lv_at hl 2 rfl) ?_
    refine c_callV (As := [.int p1]) (rest := []) ⟨hx, hb, hml, hown, hts⟩ hf (fun vq hq => mX0_hasDays l D cI cJ (sb [1, 2, 3, 4, 5, 6] a) H.size N (sb [1, 2, 3, 4, 5, 6] σ) p1 vq hq) (cwV 1 hts gX2_days_X0_hasDays rfl rfl rfl qX0_hasDays ⟨Nat.le_of_ble_eq_true rfl, Nat.le_of_ble_eq_true rfl⟩) hK hP hS hA (cmr_HA_Ho_1_2_3_4_5_6 D cI cJ a τ σ hP) 0 rfl rfl rfl rfl hl.1 rfl (Nat.le_of_ble_eq_true rfl) dX2_days_23 ⟨Nat.le_refl _, Nat.le_refl _⟩ (fun v2 H locs hP hS hf => ?_)
    refine k_if_ne (tgt := 36) hx hb dX2_days_26 (by decide) hf (fun hf => ?_) (fun hf => ?_)
    · refine lv_aload_n hx hb dX2_days_36 rfl (lv_at hl 1 rfl) ?_
      refine va_get (D := D) (ci := 2) (v := .ref (a 1)) (C := RX2) (T := TX2) (N := 14) hx hb hts inX2 hown hK hP 0 rfl rfl 0 (by decide) ln1 (fun _ h9 => h9) rfl dX2_days_37 ?_
      refine lv_iload_n hx hb dX2_days_40 rfl (lv_at hl 2 rfl) ?_
      refine d_callV (As := [.int p1]) (rest := []) (w := (wHA cI cJ a τ)) (wc := (wHo cI (sb [1, 2, 3, 4, 5, 6] a))) (put := (fun uq => pb [1, 2, 3, 4, 5, 6] uq σ)) (σ := σ) (τ0 := (sb [1, 2, 3, 4, 5, 6] σ)) ⟨hx, hb, hml, hown, hts⟩ hf (fun vq zq hq => mX0_pass l D cI cJ (sb [1, 2, 3, 4, 5, 6] a) H.size N (sb [1, 2, 3, 4, 5, 6] σ) p1 (vq, zq) hq) (cwV 1 hts gX2_days_X0_pass rfl rfl rfl qX0_pass ⟨Nat.le_of_ble_eq_true rfl, Nat.le_of_ble_eq_true rfl⟩) hK hP hD hS hA (cmb_HA_Ho_1_2_3_4_5_6 D cI cJ a τ σ hP (hD _)) 0 rfl rfl rfl rfl hl.1 rfl (Nat.le_of_ble_eq_true rfl) dX2_days_41 ⟨Nat.le_refl _, Nat.le_refl _⟩ (fun v4 z3 H locs hP hS hf => ?_)
      refine lv_pop hx hb dX2_days_44 rfl ?_
      refine lv_aload_n hx hb dX2_days_45 rfl (lv_at hl 1 rfl) ?_
      refine va_get (D := D) (ci := 2) (v := .ref (a 1)) (C := RX2) (T := TX2) (N := 14) hx hb hts inX2 hown hK hP 0 rfl rfl 0 (by decide) ln1 (fun _ h9 => h9) rfl dX2_days_46 ?_
      refine va_get (D := D) (ci := 0) (v := .int (z3 1 0)) (C := RX0) (T := TX0) (N := 9) hx hb hts inX0 hown hK hP 1 rfl rfl 0 (by decide) ln3 (fun _ h9 => h9) rfl dX2_days_49 ?_
      exact W_iret (wHA cI cJ a τ) hx hb hr hlk hP hS hAe hf dX2_days_52
    · refine lv_aload_n hx hb dX2_days_29 rfl (lv_at hl 1 rfl) ?_
      refine lv_bipush (v := (-6 : Int32)) hx hb dX2_days_30 (by decide) ?_
      refine d_callV (As := [.int (-6 : Int32)]) (rest := []) (w := (wHA cI cJ a τ)) (wc := (wHA cI cJ a τ)) (put := (fun uq => uq)) (σ := σ) (τ0 := σ) ⟨hx, hb, hml, hown, hts⟩ hf (fun vq zq hq => mX2_refuse l D cI cJ a H.size N τ σ (-6 : Int32) (vq, zq) hq) (cwV 1 hts gX2_days_X2_refuse rfl rfl rfl qX2_refuse ⟨Nat.le_of_ble_eq_true rfl, Nat.le_of_ble_eq_true rfl⟩) hK hP hD hS hA ⟨hP, hD _, fun _ _ _ h => h⟩ 2 rfl rfl rfl rfl hl.1 rfl (Nat.le_of_ble_eq_true rfl) dX2_days_32 ⟨Nat.le_refl _, Nat.le_refl _⟩ (fun v6 z5 H locs hP hS hf => ?_)
      exact W_iret (wHA cI cJ a τ) hx hb hr hlk hP hS hAe hf dX2_days_35
  · refine lv_aload_n hx hb dX2_days_12 rfl (lv_at hl 1 rfl) ?_
    refine lv_iload_n hx hb dX2_days_13 rfl (lv_at hl 0 rfl) ?_
    refine d_callV (As := [.int v1]) (rest := []) (w := (wHA cI cJ a τ)) (wc := (wHA cI cJ a τ)) (put := (fun uq => uq)) (σ := σ) (τ0 := σ) ⟨hx, hb, hml, hown, hts⟩ hf (fun vq zq hq => mX2_refuse l D cI cJ a H.size N τ σ v1 (vq, zq) hq) (cwV 1 hts gX2_days_X2_refuse rfl rfl rfl qX2_refuse ⟨Nat.le_of_ble_eq_true rfl, Nat.le_of_ble_eq_true rfl⟩) hK hP hD hS hA ⟨hP, hD _, fun _ _ _ h => h⟩ 2 rfl rfl rfl rfl hl.1 rfl (Nat.le_of_ble_eq_true rfl) dX2_days_14 ⟨Nat.le_refl _, Nat.le_refl _⟩ (fun v8 z7 H locs hP hS hf => ?_)
    exact W_iret (wHA cI cJ a τ) hx hb hr hlk hP hS hAe hf dX2_days_17
def fX2_floorThen (N : Nat) (σ : St) (p1 : Int32) (p2 : Int32) : Option (Int32 × St) :=
    bo (fX0_isSide N p1) (fun v1 =>
    if v1 = 0 then bx (fX2_refuse N σ (-1 : Int32)) (fun uq => uq) (fun v8 z7 =>
    some (v8, z7))
    else bo (fX2_faultOf N p2 (0 : Int32) (60 : Int32)) (fun v2 =>
    if v2 = 0 then bo (fX0_floorAfter N (sb [1, 2, 3, 4, 5, 6] σ) p2) (fun v3 =>
    bo (fX0_heightOf N p1 v3) (fun v4 =>
    some (v4, σ)))
    else bx (fX2_refuse N σ v2) (fun uq => uq) (fun v6 z5 =>
    some (v6, z5))))
abbrev rmX2_floorThen : Room := { frames := 4, cells := 0, slots := 0, locals := 95 }
theorem qX2_floorThen : yX2_floorThen.cls = RX2 ∧ yX2_floorThen.cls ≠ "java/lang/invoke/MethodHandle" ∧ yX2_floorThen.cls ≠ "java/lang/invoke/VarHandle" ∧ (parseMethodDescriptor yX2_floorThen.desc).map (fun d => d.parameters.length) = some 2 := by decide +kernel
set_option maxHeartbeats 400000 in
set_option maxRecDepth 100000 in
theorem mX2_floorThen (l : Launch) (D : va_G) (cI cJ : ClassId) (a : Nat → Nat) (sz N : Nat) (τ : LSt) (σ : St) (p1 : Int32) (p2 : Int32) (r : (Int32 × St)) (hf : fX2_floorThen N σ p1 p2 = some r) : Met l yX2_floorThen wsX2_floorThen rmX2_floorThen (WPre ([.ref (a 0), .int p1, .int p2] : List Value) sz D (tyIJ cI cJ) (wHA cI cJ a τ σ)) (WQi sz D (wHA cI cJ a τ σ) (wHA cI cJ a τ (r.2)) r.1) 0 0 (va_A (wHA cI cJ a τ σ) sz) := by
  refine W_start (cc := cX2_floorThen) (maxL := 4) (ret := (some .int)) (by decide) rfl (Nat.le_of_ble_eq_true rfl) (fun p e s m below meth c ls A hx hb hr hml hown hts hlk hP hK hS hA hD0 hAe hl => ?_)
  have hD : ∀ z, va_D A ((wHA cI cJ a τ) z) := fun z => hD0.ad rfl
  have hown : s.vm.findClass RX2 = some m.cls := hown
  have hl : lv_has ls 4 [(0, .ref (a 0)), (1, .int p1), (2, .int p2)] := hl
  have ln1 := hts (Cond.fieldLink RX2 10 "HoistsAreShared" "now" "LHoistsAreShared$Hoist;") (List.mem_of_getElem? (i := 1) rfl)
  have inX2 : ∀ w ∈ u_ws RX2 TX2 14, w ∈ wsX2_floorThen := fun _ h => List.mem_cons_of_mem _ (List.mem_append_left _ (List.mem_append_right _ h))
  unfold fX2_floorThen at hf
  refine lv_iload_n hx hb dX2_floorThen_0 rfl (lv_at hl 1 rfl) ?_
  refine c_callS (As := [.int p1]) (rest := []) ⟨hx, hb, hml, hown, hts⟩ hf (fun vq hq => mX0_isSide l D cI cJ s.heap.size N p1 vq hq) (va_cwS 1 hts gX2_floorThen_X0_isSide rfl rfl rfl qX0_isSide ⟨Nat.le_of_ble_eq_true rfl, Nat.le_of_ble_eq_true rfl⟩) hK hP hS hA va_P_nil rfl hl.1 rfl (Nat.le_of_ble_eq_true rfl) dX2_floorThen_1 ⟨Nat.le_refl _, Nat.le_refl _⟩ (fun v1 H locs hP hS hf => ?_)
  refine k_if_ne (tgt := 13) hx hb dX2_floorThen_4 (by decide) hf (fun hf => ?_) (fun hf => ?_)
  · refine lv_iload_n hx hb dX2_floorThen_13 rfl (lv_at hl 2 rfl) ?_
    refine lv_iconst (v := (0 : Int32)) hx hb dX2_floorThen_14 (by decide) ?_
    refine lv_bipush (v := (60 : Int32)) hx hb dX2_floorThen_15 (by decide) ?_
    refine c_callS (As := [.int p2, .int (0 : Int32), .int (60 : Int32)]) (rest := []) ⟨hx, hb, hml, hown, hts⟩ hf (fun vq hq => mX2_faultOf l D cI cJ H.size N p2 (0 : Int32) (60 : Int32) vq hq) (va_cwS 3 hts gX2_floorThen_X2_faultOf rfl rfl rfl qX2_faultOf ⟨Nat.le_of_ble_eq_true rfl, Nat.le_of_ble_eq_true rfl⟩) hK hP hS hA va_P_nil rfl hl.1 rfl (Nat.le_of_ble_eq_true rfl) dX2_floorThen_17 ⟨Nat.le_refl _, Nat.le_refl _⟩ (fun v2 H locs hP hS hf => ?_)
    refine lv_istore_n (lv' := [(3, .int v2), (0, .ref (a 0)), (1, .int p1), (2, .int p2)]) hx hb dX2_floorThen_20 rfl hl (by decide) rfl (fun ls hl => ?_)
    refine lv_iload_n hx hb dX2_floorThen_21 rfl (lv_at hl 0 rfl) ?_
    refine k_if_eq (tgt := 31) hx hb dX2_floorThen_22 (by decide) hf (fun hf => ?_) (fun hf => ?_)
    · refine lv_iload_n hx hb dX2_floorThen_31 rfl (lv_at hl 2 rfl) ?_
      refine lv_aload_n hx hb dX2_floorThen_32 rfl (lv_at hl 1 rfl) ?_
      refine va_get (D := D) (ci := 2) (v := .ref (a 1)) (C := RX2) (T := TX2) (N := 14) hx hb hts inX2 hown hK hP 0 rfl rfl 0 (by decide) ln1 (fun _ h9 => h9) rfl dX2_floorThen_33 ?_
      refine lv_iload_n hx hb dX2_floorThen_36 rfl (lv_at hl 3 rfl) ?_
      refine c_callV (As := [.int p2]) (rest := [.int p1]) ⟨hx, hb, hml, hown, hts⟩ hf (fun vq hq => mX0_floorAfter l D cI cJ (sb [1, 2, 3, 4, 5, 6] a) H.size N (sb [1, 2, 3, 4, 5, 6] σ) p2 vq hq) (cwV 1 hts gX2_floorThen_X0_floorAfter rfl rfl rfl qX0_floorAfter ⟨Nat.le_of_ble_eq_true rfl, Nat.le_of_ble_eq_true rfl⟩) hK hP hS hA (cmr_HA_Ho_1_2_3_4_5_6 D cI cJ a τ σ hP) 0 rfl rfl rfl rfl hl.1 rfl (Nat.le_of_ble_eq_true rfl) dX2_floorThen_37 ⟨Nat.le_refl _, Nat.le_refl _⟩ (fun v3 H locs hP hS hf => ?_)
      refine c_callS (As := [.int p1, .int v3]) (rest := []) ⟨hx, hb, hml, hown, hts⟩ hf (fun vq hq => mX0_heightOf l D cI cJ H.size N p1 v3 vq hq) (va_cwS 2 hts gX2_floorThen_X0_heightOf rfl rfl rfl qX0_heightOf ⟨Nat.le_of_ble_eq_true rfl, Nat.le_of_ble_eq_true rfl⟩) hK hP hS hA va_P_nil rfl hl.1 rfl (Nat.le_of_ble_eq_true rfl) dX2_floorThen_40 ⟨Nat.le_refl _, Nat.le_refl _⟩ (fun v4 H locs hP hS hf => ?_)
      exact W_iret (wHA cI cJ a τ) hx hb hr hlk hP hS hAe hf dX2_floorThen_43
    · refine lv_aload_n hx hb dX2_floorThen_25 rfl (lv_at hl 1 rfl) ?_
      refine lv_iload_n hx hb dX2_floorThen_26 rfl (lv_at hl 0 rfl) ?_
      refine d_callV (As := [.int v2]) (rest := []) (w := (wHA cI cJ a τ)) (wc := (wHA cI cJ a τ)) (put := (fun uq => uq)) (σ := σ) (τ0 := σ) ⟨hx, hb, hml, hown, hts⟩ hf (fun vq zq hq => mX2_refuse l D cI cJ a H.size N τ σ v2 (vq, zq) hq) (cwV 1 hts gX2_floorThen_X2_refuse rfl rfl rfl qX2_refuse ⟨Nat.le_of_ble_eq_true rfl, Nat.le_of_ble_eq_true rfl⟩) hK hP hD hS hA ⟨hP, hD _, fun _ _ _ h => h⟩ 2 rfl rfl rfl rfl hl.1 rfl (Nat.le_of_ble_eq_true rfl) dX2_floorThen_27 ⟨Nat.le_refl _, Nat.le_refl _⟩ (fun v6 z5 H locs hP hS hf => ?_)
      exact W_iret (wHA cI cJ a τ) hx hb hr hlk hP hS hAe hf dX2_floorThen_30
  · refine lv_aload_n hx hb dX2_floorThen_7 rfl (lv_at hl 0 rfl) ?_
    refine lv_iconst (v := (-1 : Int32)) hx hb dX2_floorThen_8 (by decide) ?_
    refine d_callV (As := [.int (-1 : Int32)]) (rest := []) (w := (wHA cI cJ a τ)) (wc := (wHA cI cJ a τ)) (put := (fun uq => uq)) (σ := σ) (τ0 := σ) ⟨hx, hb, hml, hown, hts⟩ hf (fun vq zq hq => mX2_refuse l D cI cJ a H.size N τ σ (-1 : Int32) (vq, zq) hq) (cwV 1 hts gX2_floorThen_X2_refuse rfl rfl rfl qX2_refuse ⟨Nat.le_of_ble_eq_true rfl, Nat.le_of_ble_eq_true rfl⟩) hK hP hD hS hA ⟨hP, hD _, fun _ _ _ h => h⟩ 2 rfl rfl rfl rfl hl.1 rfl (Nat.le_of_ble_eq_true rfl) dX2_floorThen_9 ⟨Nat.le_refl _, Nat.le_refl _⟩ (fun v8 z7 H locs hP hS hf => ?_)
    exact W_iret (wHA cI cJ a τ) hx hb hr hlk hP hS hAe hf dX2_floorThen_12
def fX2_weighsThen (N : Nat) (σ : St) (p1 : Int32) (p2 : Int32) : Option (Int32 × St) :=
    bo (fX0_has N (sb [1, 2, 3, 4, 5, 6] σ) p1) (fun v1 =>
    if v1 = 0 then bx (fX2_refuse N σ (-1 : Int32)) (fun uq => uq) (fun v7 z6 =>
    some (v7, z6))
    else bo (fX2_faultOf N p2 (0 : Int32) (60 : Int32)) (fun v2 =>
    if v2 = 0 then bo (fX0_weighs N (sb [1, 2, 3, 4, 5, 6] σ) p1 p2) (fun v3 =>
    some (v3, σ))
    else bx (fX2_refuse N σ v2) (fun uq => uq) (fun v5 z4 =>
    some (v5, z4))))
abbrev rmX2_weighsThen : Room := { frames := 2, cells := 0, slots := 0, locals := 49 }
theorem qX2_weighsThen : yX2_weighsThen.cls = RX2 ∧ yX2_weighsThen.cls ≠ "java/lang/invoke/MethodHandle" ∧ yX2_weighsThen.cls ≠ "java/lang/invoke/VarHandle" ∧ (parseMethodDescriptor yX2_weighsThen.desc).map (fun d => d.parameters.length) = some 2 := by decide +kernel
set_option maxHeartbeats 400000 in
set_option maxRecDepth 100000 in
theorem mX2_weighsThen (l : Launch) (D : va_G) (cI cJ : ClassId) (a : Nat → Nat) (sz N : Nat) (τ : LSt) (σ : St) (p1 : Int32) (p2 : Int32) (r : (Int32 × St)) (hf : fX2_weighsThen N σ p1 p2 = some r) : Met l yX2_weighsThen wsX2_weighsThen rmX2_weighsThen (WPre ([.ref (a 0), .int p1, .int p2] : List Value) sz D (tyIJ cI cJ) (wHA cI cJ a τ σ)) (WQi sz D (wHA cI cJ a τ σ) (wHA cI cJ a τ (r.2)) r.1) 0 0 (va_A (wHA cI cJ a τ σ) sz) := by
  refine W_start (cc := cX2_weighsThen) (maxL := 4) (ret := (some .int)) (by decide) rfl (Nat.le_of_ble_eq_true rfl) (fun p e s m below meth c ls A hx hb hr hml hown hts hlk hP hK hS hA hD0 hAe hl => ?_)
  have hD : ∀ z, va_D A ((wHA cI cJ a τ) z) := fun z => hD0.ad rfl
  have hown : s.vm.findClass RX2 = some m.cls := hown
  have hl : lv_has ls 4 [(0, .ref (a 0)), (1, .int p1), (2, .int p2)] := hl
  have ln1 := hts (Cond.fieldLink RX2 10 "HoistsAreShared" "now" "LHoistsAreShared$Hoist;") (List.mem_of_getElem? (i := 1) rfl)
  have inX2 : ∀ w ∈ u_ws RX2 TX2 14, w ∈ wsX2_weighsThen := fun _ h => List.mem_cons_of_mem _ (List.mem_append_left _ (List.mem_append_right _ h))
  unfold fX2_weighsThen at hf
  refine lv_aload_n hx hb dX2_weighsThen_0 rfl (lv_at hl 0 rfl) ?_
  refine va_get (D := D) (ci := 2) (v := .ref (a 1)) (C := RX2) (T := TX2) (N := 14) hx hb hts inX2 hown hK hP 0 rfl rfl 0 (by decide) ln1 (fun _ h9 => h9) rfl dX2_weighsThen_1 ?_
  refine lv_iload_n hx hb dX2_weighsThen_4 rfl (lv_at hl 1 rfl) ?_
  refine c_callV (As := [.int p1]) (rest := []) ⟨hx, hb, hml, hown, hts⟩ hf (fun vq hq => mX0_has l D cI cJ (sb [1, 2, 3, 4, 5, 6] a) s.heap.size N (sb [1, 2, 3, 4, 5, 6] σ) p1 vq hq) (cwV 1 hts gX2_weighsThen_X0_has rfl rfl rfl qX0_has ⟨Nat.le_of_ble_eq_true rfl, Nat.le_of_ble_eq_true rfl⟩) hK hP hS hA (cmr_HA_Ho_1_2_3_4_5_6 D cI cJ a τ σ hP) 0 rfl rfl rfl rfl hl.1 rfl (Nat.le_of_ble_eq_true rfl) dX2_weighsThen_5 ⟨Nat.le_refl _, Nat.le_refl _⟩ (fun v1 H locs hP hS hf => ?_)
  refine k_if_ne (tgt := 17) hx hb dX2_weighsThen_8 (by decide) hf (fun hf => ?_) (fun hf => ?_)
  · refine lv_iload_n hx hb dX2_weighsThen_17 rfl (lv_at hl 2 rfl) ?_
    refine lv_iconst (v := (0 : Int32)) hx hb dX2_weighsThen_18 (by decide) ?_
    refine lv_bipush (v := (60 : Int32)) hx hb dX2_weighsThen_19 (by decide) ?_
    refine c_callS (As := [.int p2, .int (0 : Int32), .int (60 : Int32)]) (rest := []) ⟨hx, hb, hml, hown, hts⟩ hf (fun vq hq => mX2_faultOf l D cI cJ H.size N p2 (0 : Int32) (60 : Int32) vq hq) (va_cwS 3 hts gX2_weighsThen_X2_faultOf rfl rfl rfl qX2_faultOf ⟨Nat.le_of_ble_eq_true rfl, Nat.le_of_ble_eq_true rfl⟩) hK hP hS hA va_P_nil rfl hl.1 rfl (Nat.le_of_ble_eq_true rfl) dX2_weighsThen_21 ⟨Nat.le_refl _, Nat.le_refl _⟩ (fun v2 H locs hP hS hf => ?_)
    refine lv_istore_n (lv' := [(3, .int v2), (0, .ref (a 0)), (1, .int p1), (2, .int p2)]) hx hb dX2_weighsThen_24 rfl hl (by decide) rfl (fun ls hl => ?_)
    refine lv_iload_n hx hb dX2_weighsThen_25 rfl (lv_at hl 0 rfl) ?_
    refine k_if_eq (tgt := 35) hx hb dX2_weighsThen_26 (by decide) hf (fun hf => ?_) (fun hf => ?_)
    · refine lv_aload_n hx hb dX2_weighsThen_35 rfl (lv_at hl 1 rfl) ?_
      refine va_get (D := D) (ci := 2) (v := .ref (a 1)) (C := RX2) (T := TX2) (N := 14) hx hb hts inX2 hown hK hP 0 rfl rfl 0 (by decide) ln1 (fun _ h9 => h9) rfl dX2_weighsThen_36 ?_
      refine lv_iload_n hx hb dX2_weighsThen_39 rfl (lv_at hl 2 rfl) ?_
      refine lv_iload_n hx hb dX2_weighsThen_40 rfl (lv_at hl 3 rfl) ?_
      refine c_callV (As := [.int p1, .int p2]) (rest := []) ⟨hx, hb, hml, hown, hts⟩ hf (fun vq hq => mX0_weighs l D cI cJ (sb [1, 2, 3, 4, 5, 6] a) H.size N (sb [1, 2, 3, 4, 5, 6] σ) p1 p2 vq hq) (cwV 2 hts gX2_weighsThen_X0_weighs rfl rfl rfl qX0_weighs ⟨Nat.le_of_ble_eq_true rfl, Nat.le_of_ble_eq_true rfl⟩) hK hP hS hA (cmr_HA_Ho_1_2_3_4_5_6 D cI cJ a τ σ hP) 0 rfl rfl rfl rfl hl.1 rfl (Nat.le_of_ble_eq_true rfl) dX2_weighsThen_41 ⟨Nat.le_refl _, Nat.le_refl _⟩ (fun v3 H locs hP hS hf => ?_)
      exact W_iret (wHA cI cJ a τ) hx hb hr hlk hP hS hAe hf dX2_weighsThen_44
    · refine lv_aload_n hx hb dX2_weighsThen_29 rfl (lv_at hl 1 rfl) ?_
      refine lv_iload_n hx hb dX2_weighsThen_30 rfl (lv_at hl 0 rfl) ?_
      refine d_callV (As := [.int v2]) (rest := []) (w := (wHA cI cJ a τ)) (wc := (wHA cI cJ a τ)) (put := (fun uq => uq)) (σ := σ) (τ0 := σ) ⟨hx, hb, hml, hown, hts⟩ hf (fun vq zq hq => mX2_refuse l D cI cJ a H.size N τ σ v2 (vq, zq) hq) (cwV 1 hts gX2_weighsThen_X2_refuse rfl rfl rfl qX2_refuse ⟨Nat.le_of_ble_eq_true rfl, Nat.le_of_ble_eq_true rfl⟩) hK hP hD hS hA ⟨hP, hD _, fun _ _ _ h => h⟩ 2 rfl rfl rfl rfl hl.1 rfl (Nat.le_of_ble_eq_true rfl) dX2_weighsThen_31 ⟨Nat.le_refl _, Nat.le_refl _⟩ (fun v5 z4 H locs hP hS hf => ?_)
      exact W_iret (wHA cI cJ a τ) hx hb hr hlk hP hS hAe hf dX2_weighsThen_34
  · refine lv_aload_n hx hb dX2_weighsThen_11 rfl (lv_at hl 0 rfl) ?_
    refine lv_iconst (v := (-1 : Int32)) hx hb dX2_weighsThen_12 (by decide) ?_
    refine d_callV (As := [.int (-1 : Int32)]) (rest := []) (w := (wHA cI cJ a τ)) (wc := (wHA cI cJ a τ)) (put := (fun uq => uq)) (σ := σ) (τ0 := σ) ⟨hx, hb, hml, hown, hts⟩ hf (fun vq zq hq => mX2_refuse l D cI cJ a H.size N τ σ (-1 : Int32) (vq, zq) hq) (cwV 1 hts gX2_weighsThen_X2_refuse rfl rfl rfl qX2_refuse ⟨Nat.le_of_ble_eq_true rfl, Nat.le_of_ble_eq_true rfl⟩) hK hP hD hS hA ⟨hP, hD _, fun _ _ _ h => h⟩ 2 rfl rfl rfl rfl hl.1 rfl (Nat.le_of_ble_eq_true rfl) dX2_weighsThen_13 ⟨Nat.le_refl _, Nat.le_refl _⟩ (fun v7 z6 H locs hP hS hf => ?_)
    exact W_iret (wHA cI cJ a τ) hx hb hr hlk hP hS hAe hf dX2_weighsThen_16
def fX2_pull (N : Nat) (σ : St) (p1 : Int32) : Option (Int32 × St) :=
    bo (fX2_faultOf N p1 (0 : Int32) (60 : Int32)) (fun v1 =>
    if v1 = 0 then bo (fX0_pullAfter N (sb [1, 2, 3, 4, 5, 6] σ) p1) (fun v2 =>
    some (v2, σ))
    else bx (fX2_refuse N σ v1) (fun uq => uq) (fun v4 z3 =>
    some (((1000000000 : Int32) - v4), z3)))
abbrev rmX2_pull : Room := { frames := 3, cells := 0, slots := 0, locals := 72 }
theorem qX2_pull : yX2_pull.cls = RX2 ∧ yX2_pull.cls ≠ "java/lang/invoke/MethodHandle" ∧ yX2_pull.cls ≠ "java/lang/invoke/VarHandle" ∧ (parseMethodDescriptor yX2_pull.desc).map (fun d => d.parameters.length) = some 1 := by decide +kernel
set_option maxHeartbeats 400000 in
set_option maxRecDepth 100000 in
theorem mX2_pull (l : Launch) (D : va_G) (cI cJ : ClassId) (a : Nat → Nat) (sz N : Nat) (τ : LSt) (σ : St) (p1 : Int32) (r : (Int32 × St)) (hf : fX2_pull N σ p1 = some r) : Met l yX2_pull wsX2_pull rmX2_pull (WPre ([.ref (a 0), .int p1] : List Value) sz D (tyIJ cI cJ) (wHA cI cJ a τ σ)) (WQi sz D (wHA cI cJ a τ σ) (wHA cI cJ a τ (r.2)) r.1) 0 0 (va_A (wHA cI cJ a τ σ) sz) := by
  refine W_start (cc := cX2_pull) (maxL := 3) (ret := (some .int)) (by decide) rfl (Nat.le_of_ble_eq_true rfl) (fun p e s m below meth c ls A hx hb hr hml hown hts hlk hP hK hS hA hD0 hAe hl => ?_)
  have hD : ∀ z, va_D A ((wHA cI cJ a τ) z) := fun z => hD0.ad rfl
  have hown : s.vm.findClass RX2 = some m.cls := hown
  have hl : lv_has ls 3 [(0, .ref (a 0)), (1, .int p1)] := hl
  have ln1 := hts (Cond.fieldLink RX2 10 "HoistsAreShared" "now" "LHoistsAreShared$Hoist;") (List.mem_of_getElem? (i := 2) rfl)
  have inX2 : ∀ w ∈ u_ws RX2 TX2 14, w ∈ wsX2_pull := fun _ h => List.mem_cons_of_mem _ (List.mem_append_left _ (List.mem_append_right _ h))
  have ln3 := hts (Cond.constant RX2 175 (1000000000)) (List.mem_of_getElem? (i := 1) rfl)
  unfold fX2_pull at hf
  refine lv_iload_n hx hb dX2_pull_0 rfl (lv_at hl 1 rfl) ?_
  refine lv_iconst (v := (0 : Int32)) hx hb dX2_pull_1 (by decide) ?_
  refine lv_bipush (v := (60 : Int32)) hx hb dX2_pull_2 (by decide) ?_
  refine c_callS (As := [.int p1, .int (0 : Int32), .int (60 : Int32)]) (rest := []) ⟨hx, hb, hml, hown, hts⟩ hf (fun vq hq => mX2_faultOf l D cI cJ s.heap.size N p1 (0 : Int32) (60 : Int32) vq hq) (va_cwS 3 hts gX2_pull_X2_faultOf rfl rfl rfl qX2_faultOf ⟨Nat.le_of_ble_eq_true rfl, Nat.le_of_ble_eq_true rfl⟩) hK hP hS hA va_P_nil rfl hl.1 rfl (Nat.le_of_ble_eq_true rfl) dX2_pull_4 ⟨Nat.le_refl _, Nat.le_refl _⟩ (fun v1 H locs hP hS hf => ?_)
  refine lv_istore_n (lv' := [(2, .int v1), (0, .ref (a 0)), (1, .int p1)]) hx hb dX2_pull_7 rfl hl (by decide) rfl (fun ls hl => ?_)
  refine lv_iload_n hx hb dX2_pull_8 rfl (lv_at hl 0 rfl) ?_
  refine k_if_eq (tgt := 21) hx hb dX2_pull_9 (by decide) hf (fun hf => ?_) (fun hf => ?_)
  · refine lv_aload_n hx hb dX2_pull_21 rfl (lv_at hl 1 rfl) ?_
    refine va_get (D := D) (ci := 2) (v := .ref (a 1)) (C := RX2) (T := TX2) (N := 14) hx hb hts inX2 hown hK hP 0 rfl rfl 0 (by decide) ln1 (fun _ h9 => h9) rfl dX2_pull_22 ?_
    refine lv_iload_n hx hb dX2_pull_25 rfl (lv_at hl 2 rfl) ?_
    refine c_callV (As := [.int p1]) (rest := []) ⟨hx, hb, hml, hown, hts⟩ hf (fun vq hq => mX0_pullAfter l D cI cJ (sb [1, 2, 3, 4, 5, 6] a) H.size N (sb [1, 2, 3, 4, 5, 6] σ) p1 vq hq) (cwV 1 hts gX2_pull_X0_pullAfter rfl rfl rfl qX0_pullAfter ⟨Nat.le_of_ble_eq_true rfl, Nat.le_of_ble_eq_true rfl⟩) hK hP hS hA (cmr_HA_Ho_1_2_3_4_5_6 D cI cJ a τ σ hP) 0 rfl rfl rfl rfl hl.1 rfl (Nat.le_of_ble_eq_true rfl) dX2_pull_26 ⟨Nat.le_refl _, Nat.le_refl _⟩ (fun v2 H locs hP hS hf => ?_)
    exact W_iret (wHA cI cJ a τ) hx hb hr hlk hP hS hAe hf dX2_pull_29
  · refine lv_ldc (v := (1000000000 : Int32)) hx hb hown ln3 dX2_pull_12 ?_
    refine lv_aload_n hx hb dX2_pull_14 rfl (lv_at hl 1 rfl) ?_
    refine lv_iload_n hx hb dX2_pull_15 rfl (lv_at hl 0 rfl) ?_
    refine d_callV (As := [.int v1]) (rest := [.int (1000000000 : Int32)]) (w := (wHA cI cJ a τ)) (wc := (wHA cI cJ a τ)) (put := (fun uq => uq)) (σ := σ) (τ0 := σ) ⟨hx, hb, hml, hown, hts⟩ hf (fun vq zq hq => mX2_refuse l D cI cJ a H.size N τ σ v1 (vq, zq) hq) (cwV 1 hts gX2_pull_X2_refuse rfl rfl rfl qX2_refuse ⟨Nat.le_of_ble_eq_true rfl, Nat.le_of_ble_eq_true rfl⟩) hK hP hD hS hA ⟨hP, hD _, fun _ _ _ h => h⟩ 2 rfl rfl rfl rfl hl.1 rfl (Nat.le_of_ble_eq_true rfl) dX2_pull_16 ⟨Nat.le_refl _, Nat.le_refl _⟩ (fun v4 z3 H locs hP hS hf => ?_)
    refine lv_isub hx hb dX2_pull_19 ?_
    exact W_iret (wHA cI cJ a τ) hx hb hr hlk hP hS hAe hf dX2_pull_20
