def fX2_firstAt_L15 (N : Nat)  : Nat → St → Int32 → Int32 → Int32 → Option (Int32 × St)
  | 0, _, _, _, _ => none
  | n + 1, z, x1, x2, x3 =>
    if (60 : Int32) < x3 then some ((-9 : Int32), z)
    else if (71 : Int32) ≤ x3 then some ((-9 : Int32), z)
    else bo (rdI z 21 71 x3) (fun v2 =>
    bo (fX0_heightOf N x1 v2) (fun v3 =>
    if v3 = x2 then some (x3, z)
    else lt_ (x3 + (1 : Int32) : Int32) (fun v4 =>
    (fX2_firstAt_L15 N n) z x1 x2 v4)))
def fX2_firstAt (N : Nat) (σ : St) (p1 : Int32) (p2 : Int32) : Option (Int32 × St) :=
    by_ (fX0_foresee N (sb [1, 2, 3, 4, 5, 6, 21] σ) (60 : Int32)) (fun uq => pb [1, 2, 3, 4, 5, 6, 21] uq σ) (fun z1 =>
    fX2_firstAt_L15 N  N z1 p1 p2 (0 : Int32))
abbrev rmX2_firstAt : Room := { frames := 4, cells := 0, slots := 0, locals := 96 }
theorem qX2_firstAt : yX2_firstAt.cls = RX2 ∧ yX2_firstAt.cls ≠ "java/lang/invoke/MethodHandle" ∧ yX2_firstAt.cls ≠ "java/lang/invoke/VarHandle" ∧ (parseMethodDescriptor yX2_firstAt.desc).map (fun d => d.parameters.length) = some 2 := by decide +kernel
set_option maxHeartbeats 400000 in
set_option maxRecDepth 100000 in
theorem mX2_firstAt (l : Launch) (D : va_G) (cI cJ : ClassId) (a : Nat → Nat) (sz N : Nat) (τ : LSt) (σ : St) (p1 : Int32) (p2 : Int32) (r : (Int32 × St)) (hf : fX2_firstAt N σ p1 p2 = some r) : Met l yX2_firstAt wsX2_firstAt rmX2_firstAt (WPre ([.ref (a 0), .int p1, .int p2] : List Value) sz D (tyIJ cI cJ) (wHA cI cJ a τ σ)) (WQi sz D (wHA cI cJ a τ σ) (wHA cI cJ a τ (r.2)) r.1) 0 0 (va_A (wHA cI cJ a τ σ) sz) := by
  refine W_start (cc := cX2_firstAt) (maxL := 4) (ret := (some .int)) (by decide) rfl (Nat.le_of_ble_eq_true rfl) (fun p e s m below meth c ls A hx hb hr hml hown hts hlk hP hK hS hA hD0 hAe hl => ?_)
  have hD : ∀ z, va_D A ((wHA cI cJ a τ) z) := fun z => hD0.ad rfl
  have hown : s.vm.findClass RX2 = some m.cls := hown
  have hl : lv_has ls 4 [(0, .ref (a 0)), (1, .int p1), (2, .int p2)] := hl
  have ln1 := hts (Cond.fieldLink RX2 10 "HoistsAreShared" "now" "LHoistsAreShared$Hoist;") (List.mem_of_getElem? (i := 1) rfl)
  have inX2 : ∀ w ∈ u_ws RX2 TX2 14, w ∈ wsX2_firstAt := fun _ h => List.mem_cons_of_mem _ (List.mem_append_left _ (List.mem_append_right _ h))
  have ln3 := hts (Cond.fieldLink RX2 29 "HoistsAreShared" "path" "[I") (List.mem_of_getElem? (i := 2) rfl)
  have b15 : ∀  (n : Nat) (z : St) (x1 : Int32) (x2 : Int32) (x3 : Int32) (H : Heap) (locs : List Loc) (ls : Array Slot), va_P D vwCl (wHA cI cJ a τ z) H → va_S A s.heap H locs → lv_has ls 4 [(0, .ref (a 0)), (1, .int x1), (2, .int x2), (3, .int x3)] → fX2_firstAt_L15 N n z x1 x2 x3 = some r → W p l e rmX2_firstAt s m ([.ref (a 0), .int p1, .int p2] : List Value).toArray below meth c H locs 0 0 (MQ below (WQi sz D (wHA cI cJ a τ σ) (wHA cI cJ a τ (r.2)) r.1) ([.ref (a 0), .int p1, .int p2] : List Value).toArray s 0 0 A) (F0 m 15 ls []) := by
    intro n
    induction n with
    | zero => intro z x1 x2 x3 H locs ls hP hS hl hf; cases hf
    | succ n ih =>
      intro z x1 x2 x3 H locs ls hP hS hl hf
      rw [fX2_firstAt_L15] at hf
      refine lv_iload_n hx hb dX2_firstAt_15 rfl (lv_at hl 3 rfl) ?_
      refine lv_bipush (v := (60 : Int32)) hx hb dX2_firstAt_16 (by decide) ?_
      refine k_icmp_gt (tgt := 52) hx hb dX2_firstAt_18 (by decide) hf (fun hf => ?_) (fun hf => ?_)
      · refine lv_bipush (v := (-9 : Int32)) hx hb dX2_firstAt_52 (by decide) ?_
        exact W_iret (wHA cI cJ a τ) hx hb hr hlk hP hS hAe hf dX2_firstAt_54
      · refine lv_iload_n hx hb dX2_firstAt_21 rfl (lv_at hl 3 rfl) ?_
        refine lv_aload_n hx hb dX2_firstAt_22 rfl (lv_at hl 0 rfl) ?_
        refine va_get (D := D) (ci := 2) (v := .ref (a 21)) (C := RX2) (T := TX2) (N := 14) hx hb hts inX2 hown hK hP 0 rfl rfl 4 (by decide) ln3 (fun _ h9 => h9) rfl dX2_firstAt_23 ?_
        refine va_alen (v := (71 : Int32)) hx hb hK hP 21 0 rfl rfl rfl dX2_firstAt_26 ?_
        refine k_icmp_ge (tgt := 52) hx hb dX2_firstAt_27 (by decide) hf (fun hf => ?_) (fun hf => ?_)
        · refine lv_bipush (v := (-9 : Int32)) hx hb dX2_firstAt_52 (by decide) ?_
          exact W_iret (wHA cI cJ a τ) hx hb hr hlk hP hS hAe hf dX2_firstAt_54
        · refine lv_iload_n hx hb dX2_firstAt_30 rfl (lv_at hl 1 rfl) ?_
          refine lv_aload_n hx hb dX2_firstAt_31 rfl (lv_at hl 0 rfl) ?_
          refine va_get (D := D) (ci := 2) (v := .ref (a 21)) (C := RX2) (T := TX2) (N := 14) hx hb hts inX2 hown hK hP 0 rfl rfl 4 (by decide) ln3 (fun _ h9 => h9) rfl dX2_firstAt_32 ?_
          refine lv_iload_n hx hb dX2_firstAt_35 rfl (lv_at hl 3 rfl) ?_
          refine k_iald hx hb hK hP 21 0 hf rfl rfl dX2_firstAt_36 (fun v2 hf => ?_)
          refine c_callS (As := [.int x1, .int v2]) (rest := []) ⟨hx, hb, hml, hown, hts⟩ hf (fun vq hq => mX0_heightOf l D cI cJ H.size N x1 v2 vq hq) (va_cwS 2 hts gX2_firstAt_X0_heightOf rfl rfl rfl qX0_heightOf ⟨Nat.le_of_ble_eq_true rfl, Nat.le_of_ble_eq_true rfl⟩) hK hP hS hA va_P_nil rfl hl.1 rfl (Nat.le_of_ble_eq_true rfl) dX2_firstAt_37 ⟨Nat.le_refl _, Nat.le_refl _⟩ (fun v3 H locs hP hS hf => ?_)
          refine lv_iload_n hx hb dX2_firstAt_40 rfl (lv_at hl 2 rfl) ?_
          refine k_icmp_ne (tgt := 46) hx hb dX2_firstAt_41 (by decide) hf (fun hf => ?_) (fun hf => ?_)
          · refine k_iinc (d := (1 : Int32)) (lv' := fun v4 => [(3, .int v4), (0, .ref (a 0)), (1, .int x1), (2, .int x2)]) hx hb dX2_firstAt_46 hl (k := 3) rfl (by decide) (by decide) (fun _ => rfl) hf (fun v4 ls hl hf => ?_)
            refine lv_goto (tgt := 15) hx hb dX2_firstAt_49 (by decide) ?_
            exact ih z x1 x2 v4 H locs ls hP hS (lv_sub hl [1, 2, 3, 0] rfl) hf
          · refine lv_iload_n hx hb dX2_firstAt_44 rfl (lv_at hl 3 rfl) ?_
            exact W_iret (wHA cI cJ a τ) hx hb hr hlk hP hS hAe hf dX2_firstAt_45
  unfold fX2_firstAt at hf
  refine lv_aload_n hx hb dX2_firstAt_0 rfl (lv_at hl 0 rfl) ?_
  refine va_get (D := D) (ci := 2) (v := .ref (a 1)) (C := RX2) (T := TX2) (N := 14) hx hb hts inX2 hown hK hP 0 rfl rfl 0 (by decide) ln1 (fun _ h9 => h9) rfl dX2_firstAt_1 ?_
  refine lv_aload_n hx hb dX2_firstAt_4 rfl (lv_at hl 0 rfl) ?_
  refine va_get (D := D) (ci := 2) (v := .ref (a 21)) (C := RX2) (T := TX2) (N := 14) hx hb hts inX2 hown hK hP 0 rfl rfl 4 (by decide) ln3 (fun _ h9 => h9) rfl dX2_firstAt_5 ?_
  refine lv_bipush (v := (60 : Int32)) hx hb dX2_firstAt_8 (by decide) ?_
  refine d_callVv (As := [.ref ((sb [1, 2, 3, 4, 5, 6, 21] a) 6), .int (60 : Int32)]) (rest := []) (w := (wHA cI cJ a τ)) (wc := (wHoP cI (sb [1, 2, 3, 4, 5, 6, 21] a))) (put := (fun uq => pb [1, 2, 3, 4, 5, 6, 21] uq σ)) (σ := σ) (τ0 := (sb [1, 2, 3, 4, 5, 6, 21] σ)) ⟨hx, hb, hml, hown, hts⟩ hf (fun zq hq => mX0_foresee l D cI cJ (sb [1, 2, 3, 4, 5, 6, 21] a) s.heap.size N (sb [1, 2, 3, 4, 5, 6, 21] σ) (60 : Int32) zq hq) (cwV 2 hts gX2_firstAt_X0_foresee rfl rfl rfl qX0_foresee ⟨Nat.le_of_ble_eq_true rfl, Nat.le_of_ble_eq_true rfl⟩) hK hP hD hS hA (cmb_HA_HoP_1_2_3_4_5_6_21 D cI cJ a τ σ hP (hD _)) 0 rfl rfl rfl rfl hl.1 rfl (Nat.le_of_ble_eq_true rfl) dX2_firstAt_10 ⟨Nat.le_refl _, Nat.le_refl _⟩ (fun z1 H locs hP hS hf => ?_)
  refine lv_iconst (v := (0 : Int32)) hx hb dX2_firstAt_13 (by decide) ?_
  refine lv_istore_n (lv' := [(3, .int (0 : Int32)), (0, .ref (a 0)), (1, .int p1), (2, .int p2)]) hx hb dX2_firstAt_14 rfl hl (by decide) rfl (fun ls hl => ?_)
  exact b15  N z1 p1 p2 (0 : Int32) H locs ls hP hS (lv_sub hl [1, 2, 3, 0] rfl) hf
def fX2_meets (N : Nat) (σ : St)  : Option (Int32 × St) :=
    bx (fX2_firstAt N σ (0 : Int32) (10 : Int32)) (fun uq => uq) (fun v2 z1 =>
    some (v2, z1))
abbrev rmX2_meets : Room := { frames := 5, cells := 0, slots := 0, locals := 119 }
theorem qX2_meets : yX2_meets.cls = RX2 ∧ yX2_meets.cls ≠ "java/lang/invoke/MethodHandle" ∧ yX2_meets.cls ≠ "java/lang/invoke/VarHandle" ∧ (parseMethodDescriptor yX2_meets.desc).map (fun d => d.parameters.length) = some 0 := by decide +kernel
set_option maxHeartbeats 400000 in
set_option maxRecDepth 100000 in
theorem mX2_meets (l : Launch) (D : va_G) (cI cJ : ClassId) (a : Nat → Nat) (sz N : Nat) (τ : LSt) (σ : St)  (r : (Int32 × St)) (hf : fX2_meets N σ = some r) : Met l yX2_meets wsX2_meets rmX2_meets (WPre ([.ref (a 0)] : List Value) sz D (tyIJ cI cJ) (wHA cI cJ a τ σ)) (WQi sz D (wHA cI cJ a τ σ) (wHA cI cJ a τ (r.2)) r.1) 0 0 (va_A (wHA cI cJ a τ σ) sz) := by
  refine W_start (cc := cX2_meets) (maxL := 1) (ret := (some .int)) (by decide) rfl (Nat.le_of_ble_eq_true rfl) (fun p e s m below meth c ls A hx hb hr hml hown hts hlk hP hK hS hA hD0 hAe hl => ?_)
  have hD : ∀ z, va_D A ((wHA cI cJ a τ) z) := fun z => hD0.ad rfl
  have hown : s.vm.findClass RX2 = some m.cls := hown
  have hl : lv_has ls 1 [(0, .ref (a 0))] := hl
  unfold fX2_meets at hf
  refine lv_aload_n hx hb dX2_meets_0 rfl (lv_at hl 0 rfl) ?_
  refine lv_iconst (v := (0 : Int32)) hx hb dX2_meets_1 (by decide) ?_
  refine lv_bipush (v := (10 : Int32)) hx hb dX2_meets_2 (by decide) ?_
  refine d_callV (As := [.int (0 : Int32), .int (10 : Int32)]) (rest := []) (w := (wHA cI cJ a τ)) (wc := (wHA cI cJ a τ)) (put := (fun uq => uq)) (σ := σ) (τ0 := σ) ⟨hx, hb, hml, hown, hts⟩ hf (fun vq zq hq => mX2_firstAt l D cI cJ a s.heap.size N τ σ (0 : Int32) (10 : Int32) (vq, zq) hq) (cwV 2 hts gX2_meets_X2_firstAt rfl rfl rfl qX2_firstAt ⟨Nat.le_of_ble_eq_true rfl, Nat.le_of_ble_eq_true rfl⟩) hK hP hD hS hA ⟨hP, hD _, fun _ _ _ h => h⟩ 2 rfl rfl rfl rfl hl.1 rfl (Nat.le_of_ble_eq_true rfl) dX2_meets_4 ⟨Nat.le_refl _, Nat.le_refl _⟩ (fun v2 z1 H locs hP hS hf => ?_)
  exact W_iret (wHA cI cJ a τ) hx hb hr hlk hP hS hAe hf dX2_meets_7
def fX2_comes_L14 (N : Nat)  (z : St) : Option (Int32 × St) :=
    bx (fX2_refuse N z (-1 : Int32)) (fun uq => uq) (fun v3 z2 =>
    some (v3, z2))
def fX2_comes (N : Nat) (σ : St) (p1 : Int32) (p2 : Int32) : Option (Int32 × St) :=
    bo (fX0_isSide N p1) (fun v1 =>
    if v1 = 0 then fX2_comes_L14 N  σ
    else bo (fX0_isFloor N p2) (fun v4 =>
    if v4 = 0 then fX2_comes_L14 N  σ
    else bx (fX2_firstAt N σ p1 p2) (fun uq => uq) (fun v6 z5 =>
    some (v6, z5))))
abbrev rmX2_comes : Room := { frames := 5, cells := 0, slots := 0, locals := 119 }
theorem qX2_comes : yX2_comes.cls = RX2 ∧ yX2_comes.cls ≠ "java/lang/invoke/MethodHandle" ∧ yX2_comes.cls ≠ "java/lang/invoke/VarHandle" ∧ (parseMethodDescriptor yX2_comes.desc).map (fun d => d.parameters.length) = some 2 := by decide +kernel
set_option maxHeartbeats 400000 in
set_option maxRecDepth 100000 in
theorem mX2_comes (l : Launch) (D : va_G) (cI cJ : ClassId) (a : Nat → Nat) (sz N : Nat) (τ : LSt) (σ : St) (p1 : Int32) (p2 : Int32) (r : (Int32 × St)) (hf : fX2_comes N σ p1 p2 = some r) : Met l yX2_comes wsX2_comes rmX2_comes (WPre ([.ref (a 0), .int p1, .int p2] : List Value) sz D (tyIJ cI cJ) (wHA cI cJ a τ σ)) (WQi sz D (wHA cI cJ a τ σ) (wHA cI cJ a τ (r.2)) r.1) 0 0 (va_A (wHA cI cJ a τ σ) sz) := by
  refine W_start (cc := cX2_comes) (maxL := 3) (ret := (some .int)) (by decide) rfl (Nat.le_of_ble_eq_true rfl) (fun p e s m below meth c ls A hx hb hr hml hown hts hlk hP hK hS hA hD0 hAe hl => ?_)
  have hD : ∀ z, va_D A ((wHA cI cJ a τ) z) := fun z => hD0.ad rfl
  have hown : s.vm.findClass RX2 = some m.cls := hown
  have hl : lv_has ls 3 [(0, .ref (a 0)), (1, .int p1), (2, .int p2)] := hl
  have b14 : ∀  (z : St) (H : Heap) (locs : List Loc) (ls : Array Slot), va_P D vwCl (wHA cI cJ a τ z) H → va_S A s.heap H locs → lv_has ls 3 [(0, .ref (a 0))] → fX2_comes_L14 N z = some r → W p l e rmX2_comes s m ([.ref (a 0), .int p1, .int p2] : List Value).toArray below meth c H locs 0 0 (MQ below (WQi sz D (wHA cI cJ a τ σ) (wHA cI cJ a τ (r.2)) r.1) ([.ref (a 0), .int p1, .int p2] : List Value).toArray s 0 0 A) (F0 m 14 ls []) := by
    intro  z H locs ls hP hS hl hf
    unfold fX2_comes_L14 at hf
    refine lv_aload_n hx hb dX2_comes_14 rfl (lv_at hl 0 rfl) ?_
    refine lv_iconst (v := (-1 : Int32)) hx hb dX2_comes_15 (by decide) ?_
    refine d_callV (As := [.int (-1 : Int32)]) (rest := []) (w := (wHA cI cJ a τ)) (wc := (wHA cI cJ a τ)) (put := (fun uq => uq)) (σ := z) (τ0 := z) ⟨hx, hb, hml, hown, hts⟩ hf (fun vq zq hq => mX2_refuse l D cI cJ a H.size N τ z (-1 : Int32) (vq, zq) hq) (cwV 1 hts gX2_comes_X2_refuse rfl rfl rfl qX2_refuse ⟨Nat.le_of_ble_eq_true rfl, Nat.le_of_ble_eq_true rfl⟩) hK hP hD hS hA ⟨hP, hD _, fun _ _ _ h => h⟩ 2 rfl rfl rfl rfl hl.1 rfl (Nat.le_of_ble_eq_true rfl) dX2_comes_16 ⟨Nat.le_refl _, Nat.le_refl _⟩ (fun v3 z2 H locs hP hS hf => ?_)
    exact W_iret (wHA cI cJ a τ) hx hb hr hlk hP hS hAe hf dX2_comes_19
  unfold fX2_comes at hf
  refine lv_iload_n hx hb dX2_comes_0 rfl (lv_at hl 1 rfl) ?_
  refine c_callS (As := [.int p1]) (rest := []) ⟨hx, hb, hml, hown, hts⟩ hf (fun vq hq => mX0_isSide l D cI cJ s.heap.size N p1 vq hq) (va_cwS 1 hts gX2_comes_X0_isSide rfl rfl rfl qX0_isSide ⟨Nat.le_of_ble_eq_true rfl, Nat.le_of_ble_eq_true rfl⟩) hK hP hS hA va_P_nil rfl hl.1 rfl (Nat.le_of_ble_eq_true rfl) dX2_comes_1 ⟨Nat.le_refl _, Nat.le_refl _⟩ (fun v1 H locs hP hS hf => ?_)
  refine k_if_eq (tgt := 14) hx hb dX2_comes_4 (by decide) hf (fun hf => ?_) (fun hf => ?_)
  · exact b14  σ H locs ls hP hS (lv_sub hl [0] rfl) hf
  · refine lv_iload_n hx hb dX2_comes_7 rfl (lv_at hl 2 rfl) ?_
    refine c_callS (As := [.int p2]) (rest := []) ⟨hx, hb, hml, hown, hts⟩ hf (fun vq hq => mX0_isFloor l D cI cJ H.size N p2 vq hq) (va_cwS 1 hts gX2_comes_X0_isFloor rfl rfl rfl qX0_isFloor ⟨Nat.le_of_ble_eq_true rfl, Nat.le_of_ble_eq_true rfl⟩) hK hP hS hA va_P_nil rfl hl.1 rfl (Nat.le_of_ble_eq_true rfl) dX2_comes_8 ⟨Nat.le_refl _, Nat.le_refl _⟩ (fun v4 H locs hP hS hf => ?_)
    refine k_if_ne (tgt := 20) hx hb dX2_comes_11 (by decide) hf (fun hf => ?_) (fun hf => ?_)
    · refine lv_aload_n hx hb dX2_comes_20 rfl (lv_at hl 0 rfl) ?_
      refine lv_iload_n hx hb dX2_comes_21 rfl (lv_at hl 1 rfl) ?_
      refine lv_iload_n hx hb dX2_comes_22 rfl (lv_at hl 2 rfl) ?_
      refine d_callV (As := [.int p1, .int p2]) (rest := []) (w := (wHA cI cJ a τ)) (wc := (wHA cI cJ a τ)) (put := (fun uq => uq)) (σ := σ) (τ0 := σ) ⟨hx, hb, hml, hown, hts⟩ hf (fun vq zq hq => mX2_firstAt l D cI cJ a H.size N τ σ p1 p2 (vq, zq) hq) (cwV 2 hts gX2_comes_X2_firstAt rfl rfl rfl qX2_firstAt ⟨Nat.le_of_ble_eq_true rfl, Nat.le_of_ble_eq_true rfl⟩) hK hP hD hS hA ⟨hP, hD _, fun _ _ _ h => h⟩ 2 rfl rfl rfl rfl hl.1 rfl (Nat.le_of_ble_eq_true rfl) dX2_comes_23 ⟨Nat.le_refl _, Nat.le_refl _⟩ (fun v6 z5 H locs hP hS hf => ?_)
      exact W_iret (wHA cI cJ a τ) hx hb hr hlk hP hS hAe hf dX2_comes_26
    · exact b14  σ H locs ls hP hS (lv_sub hl [0] rfl) hf
def fX2_firstStill_L51 (N : Nat) (k17 : St → Int32 → Int32 → Option (Int32 × St)) (z : St) (x1 : Int32) (x2 : Int32) : Option (Int32 × St) :=
    if (x2 - x1) < (10 : Int32) then lt_ (x2 + (1 : Int32) : Int32) (fun v4 =>
    k17 z x1 v4)
    else some (x1, z)
def fX2_firstStill_L17 (N : Nat)  : Nat → St → Int32 → Int32 → Option (Int32 × St)
  | 0, _, _, _ => none
  | n + 1, z, x1, x2 =>
    if (70 : Int32) < x2 then some ((-9 : Int32), z)
    else if (71 : Int32) ≤ x2 then some ((-9 : Int32), z)
    else bo (rdI z 21 71 x2) (fun v2 =>
    bo (rdI z 21 71 (x2 - (1 : Int32))) (fun v3 =>
    if v2 = v3 then fX2_firstStill_L51 N (fX2_firstStill_L17 N n) z x1 x2
    else fX2_firstStill_L51 N (fX2_firstStill_L17 N n) z x2 x2))
def fX2_firstStill (N : Nat) (σ : St)  : Option (Int32 × St) :=
    by_ (fX0_foresee N (sb [1, 2, 3, 4, 5, 6, 21] σ) (70 : Int32)) (fun uq => pb [1, 2, 3, 4, 5, 6, 21] uq σ) (fun z1 =>
    fX2_firstStill_L17 N  N z1 (0 : Int32) (1 : Int32))
abbrev rmX2_firstStill : Room := { frames := 4, cells := 0, slots := 0, locals := 96 }
theorem qX2_firstStill : yX2_firstStill.cls = RX2 ∧ yX2_firstStill.cls ≠ "java/lang/invoke/MethodHandle" ∧ yX2_firstStill.cls ≠ "java/lang/invoke/VarHandle" ∧ (parseMethodDescriptor yX2_firstStill.desc).map (fun d => d.parameters.length) = some 0 := by decide +kernel
set_option maxHeartbeats 400000 in
set_option maxRecDepth 100000 in
theorem mX2_firstStill (l : Launch) (D : va_G) (cI cJ : ClassId) (a : Nat → Nat) (sz N : Nat) (τ : LSt) (σ : St)  (r : (Int32 × St)) (hf : fX2_firstStill N σ = some r) : Met l yX2_firstStill wsX2_firstStill rmX2_firstStill (WPre ([.ref (a 0)] : List Value) sz D (tyIJ cI cJ) (wHA cI cJ a τ σ)) (WQi sz D (wHA cI cJ a τ σ) (wHA cI cJ a τ (r.2)) r.1) 0 0 (va_A (wHA cI cJ a τ σ) sz) := by
  refine W_start (cc := cX2_firstStill) (maxL := 3) (ret := (some .int)) (by decide) rfl (Nat.le_of_ble_eq_true rfl) (fun p e s m below meth c ls A hx hb hr hml hown hts hlk hP hK hS hA hD0 hAe hl => ?_)
  have hD : ∀ z, va_D A ((wHA cI cJ a τ) z) := fun z => hD0.ad rfl
  have hown : s.vm.findClass RX2 = some m.cls := hown
  have hl : lv_has ls 3 [(0, .ref (a 0))] := hl
  have ln1 := hts (Cond.fieldLink RX2 10 "HoistsAreShared" "now" "LHoistsAreShared$Hoist;") (List.mem_of_getElem? (i := 1) rfl)
  have inX2 : ∀ w ∈ u_ws RX2 TX2 14, w ∈ wsX2_firstStill := fun _ h => List.mem_cons_of_mem _ (List.mem_append_left _ (List.mem_append_right _ h))
  have ln3 := hts (Cond.fieldLink RX2 29 "HoistsAreShared" "path" "[I") (List.mem_of_getElem? (i := 2) rfl)
  have b51 : ∀ (k17 : St → Int32 → Int32 → Option (Int32 × St)) (hk17 : (∀ (z : St) (x1 : Int32) (x2 : Int32) (H : Heap) (locs : List Loc) (ls : Array Slot), va_P D vwCl (wHA cI cJ a τ z) H → va_S A s.heap H locs → lv_has ls 3 [(0, .ref (a 0)), (1, .int x1), (2, .int x2)] → k17 z x1 x2 = some r → W p l e rmX2_firstStill s m ([.ref (a 0)] : List Value).toArray below meth c H locs 0 0 (MQ below (WQi sz D (wHA cI cJ a τ σ) (wHA cI cJ a τ (r.2)) r.1) ([.ref (a 0)] : List Value).toArray s 0 0 A) (F0 m 17 ls []))) (z : St) (x1 : Int32) (x2 : Int32) (H : Heap) (locs : List Loc) (ls : Array Slot), va_P D vwCl (wHA cI cJ a τ z) H → va_S A s.heap H locs → lv_has ls 3 [(0, .ref (a 0)), (1, .int x1), (2, .int x2)] → fX2_firstStill_L51 N k17 z x1 x2 = some r → W p l e rmX2_firstStill s m ([.ref (a 0)] : List Value).toArray below meth c H locs 0 0 (MQ below (WQi sz D (wHA cI cJ a τ σ) (wHA cI cJ a τ (r.2)) r.1) ([.ref (a 0)] : List Value).toArray s 0 0 A) (F0 m 51 ls []) := by
    intro k17 hk17 z x1 x2 H locs ls hP hS hl hf
    unfold fX2_firstStill_L51 at hf
    refine lv_iload_n hx hb dX2_firstStill_51 rfl (lv_at hl 2 rfl) ?_
    refine lv_iload_n hx hb dX2_firstStill_52 rfl (lv_at hl 1 rfl) ?_
    refine lv_isub hx hb dX2_firstStill_53 ?_
    refine lv_bipush (v := (10 : Int32)) hx hb dX2_firstStill_54 (by decide) ?_
    refine k_icmp_lt (tgt := 61) hx hb dX2_firstStill_56 (by decide) hf (fun hf => ?_) (fun hf => ?_)
    · refine k_iinc (d := (1 : Int32)) (lv' := fun v4 => [(2, .int v4), (0, .ref (a 0)), (1, .int x1)]) hx hb dX2_firstStill_61 hl (k := 2) rfl (by decide) (by decide) (fun _ => rfl) hf (fun v4 ls hl hf => ?_)
      refine lv_goto (tgt := 17) hx hb dX2_firstStill_64 (by decide) ?_
      exact hk17 z x1 v4 H locs ls hP hS (lv_sub hl [1, 2, 0] rfl) hf
    · refine lv_iload_n hx hb dX2_firstStill_59 rfl (lv_at hl 1 rfl) ?_
      exact W_iret (wHA cI cJ a τ) hx hb hr hlk hP hS hAe hf dX2_firstStill_60
  have b17 : ∀  (n : Nat) (z : St) (x1 : Int32) (x2 : Int32) (H : Heap) (locs : List Loc) (ls : Array Slot), va_P D vwCl (wHA cI cJ a τ z) H → va_S A s.heap H locs → lv_has ls 3 [(0, .ref (a 0)), (1, .int x1), (2, .int x2)] → fX2_firstStill_L17 N n z x1 x2 = some r → W p l e rmX2_firstStill s m ([.ref (a 0)] : List Value).toArray below meth c H locs 0 0 (MQ below (WQi sz D (wHA cI cJ a τ σ) (wHA cI cJ a τ (r.2)) r.1) ([.ref (a 0)] : List Value).toArray s 0 0 A) (F0 m 17 ls []) := by
    intro n
    induction n with
    | zero => intro z x1 x2 H locs ls hP hS hl hf; cases hf
    | succ n ih =>
      intro z x1 x2 H locs ls hP hS hl hf
      rw [fX2_firstStill_L17] at hf
      refine lv_iload_n hx hb dX2_firstStill_17 rfl (lv_at hl 2 rfl) ?_
      refine lv_bipush (v := (70 : Int32)) hx hb dX2_firstStill_18 (by decide) ?_
      refine k_icmp_gt (tgt := 67) hx hb dX2_firstStill_20 (by decide) hf (fun hf => ?_) (fun hf => ?_)
      · refine lv_bipush (v := (-9 : Int32)) hx hb dX2_firstStill_67 (by decide) ?_
        exact W_iret (wHA cI cJ a τ) hx hb hr hlk hP hS hAe hf dX2_firstStill_69
      · refine lv_iload_n hx hb dX2_firstStill_23 rfl (lv_at hl 2 rfl) ?_
        refine lv_aload_n hx hb dX2_firstStill_24 rfl (lv_at hl 0 rfl) ?_
        refine va_get (D := D) (ci := 2) (v := .ref (a 21)) (C := RX2) (T := TX2) (N := 14) hx hb hts inX2 hown hK hP 0 rfl rfl 4 (by decide) ln3 (fun _ h9 => h9) rfl dX2_firstStill_25 ?_
        refine va_alen (v := (71 : Int32)) hx hb hK hP 21 0 rfl rfl rfl dX2_firstStill_28 ?_
        refine k_icmp_ge (tgt := 67) hx hb dX2_firstStill_29 (by decide) hf (fun hf => ?_) (fun hf => ?_)
        · refine lv_bipush (v := (-9 : Int32)) hx hb dX2_firstStill_67 (by decide) ?_
          exact W_iret (wHA cI cJ a τ) hx hb hr hlk hP hS hAe hf dX2_firstStill_69
        · refine lv_aload_n hx hb dX2_firstStill_32 rfl (lv_at hl 0 rfl) ?_
          refine va_get (D := D) (ci := 2) (v := .ref (a 21)) (C := RX2) (T := TX2) (N := 14) hx hb hts inX2 hown hK hP 0 rfl rfl 4 (by decide) ln3 (fun _ h9 => h9) rfl dX2_firstStill_33 ?_
          refine lv_iload_n hx hb dX2_firstStill_36 rfl (lv_at hl 2 rfl) ?_
          refine k_iald hx hb hK hP 21 0 hf rfl rfl dX2_firstStill_37 (fun v2 hf => ?_)
          refine lv_aload_n hx hb dX2_firstStill_38 rfl (lv_at hl 0 rfl) ?_
          refine va_get (D := D) (ci := 2) (v := .ref (a 21)) (C := RX2) (T := TX2) (N := 14) hx hb hts inX2 hown hK hP 0 rfl rfl 4 (by decide) ln3 (fun _ h9 => h9) rfl dX2_firstStill_39 ?_
          refine lv_iload_n hx hb dX2_firstStill_42 rfl (lv_at hl 2 rfl) ?_
          refine lv_iconst (v := (1 : Int32)) hx hb dX2_firstStill_43 (by decide) ?_
          refine lv_isub hx hb dX2_firstStill_44 ?_
          refine k_iald hx hb hK hP 21 0 hf rfl rfl dX2_firstStill_45 (fun v3 hf => ?_)
          refine k_icmp_eq (tgt := 51) hx hb dX2_firstStill_46 (by decide) hf (fun hf => ?_) (fun hf => ?_)
          · exact b51 (fX2_firstStill_L17 N n) ih z x1 x2 H locs ls hP hS (lv_sub hl [0, 1, 2] rfl) hf
          · refine lv_iload_n hx hb dX2_firstStill_49 rfl (lv_at hl 2 rfl) ?_
            refine lv_istore_n (lv' := [(1, .int x2), (0, .ref (a 0)), (2, .int x2)]) hx hb dX2_firstStill_50 rfl hl (by decide) rfl (fun ls hl => ?_)
            exact b51 (fX2_firstStill_L17 N n) ih z x2 x2 H locs ls hP hS (lv_sub hl [1, 0, 2] rfl) hf
  unfold fX2_firstStill at hf
  refine lv_aload_n hx hb dX2_firstStill_0 rfl (lv_at hl 0 rfl) ?_
  refine va_get (D := D) (ci := 2) (v := .ref (a 1)) (C := RX2) (T := TX2) (N := 14) hx hb hts inX2 hown hK hP 0 rfl rfl 0 (by decide) ln1 (fun _ h9 => h9) rfl dX2_firstStill_1 ?_
  refine lv_aload_n hx hb dX2_firstStill_4 rfl (lv_at hl 0 rfl) ?_
  refine va_get (D := D) (ci := 2) (v := .ref (a 21)) (C := RX2) (T := TX2) (N := 14) hx hb hts inX2 hown hK hP 0 rfl rfl 4 (by decide) ln3 (fun _ h9 => h9) rfl dX2_firstStill_5 ?_
  refine lv_bipush (v := (70 : Int32)) hx hb dX2_firstStill_8 (by decide) ?_
  refine d_callVv (As := [.ref ((sb [1, 2, 3, 4, 5, 6, 21] a) 6), .int (70 : Int32)]) (rest := []) (w := (wHA cI cJ a τ)) (wc := (wHoP cI (sb [1, 2, 3, 4, 5, 6, 21] a))) (put := (fun uq => pb [1, 2, 3, 4, 5, 6, 21] uq σ)) (σ := σ) (τ0 := (sb [1, 2, 3, 4, 5, 6, 21] σ)) ⟨hx, hb, hml, hown, hts⟩ hf (fun zq hq => mX0_foresee l D cI cJ (sb [1, 2, 3, 4, 5, 6, 21] a) s.heap.size N (sb [1, 2, 3, 4, 5, 6, 21] σ) (70 : Int32) zq hq) (cwV 2 hts gX2_firstStill_X0_foresee rfl rfl rfl qX0_foresee ⟨Nat.le_of_ble_eq_true rfl, Nat.le_of_ble_eq_true rfl⟩) hK hP hD hS hA (cmb_HA_HoP_1_2_3_4_5_6_21 D cI cJ a τ σ hP (hD _)) 0 rfl rfl rfl rfl hl.1 rfl (Nat.le_of_ble_eq_true rfl) dX2_firstStill_10 ⟨Nat.le_refl _, Nat.le_refl _⟩ (fun z1 H locs hP hS hf => ?_)
  refine lv_iconst (v := (0 : Int32)) hx hb dX2_firstStill_13 (by decide) ?_
  refine lv_istore_n (lv' := [(1, .int (0 : Int32)), (0, .ref (a 0))]) hx hb dX2_firstStill_14 rfl hl (by decide) rfl (fun ls hl => ?_)
  refine lv_iconst (v := (1 : Int32)) hx hb dX2_firstStill_15 (by decide) ?_
  refine lv_istore_n (lv' := [(2, .int (1 : Int32)), (1, .int (0 : Int32)), (0, .ref (a 0))]) hx hb dX2_firstStill_16 rfl hl (by decide) rfl (fun ls hl => ?_)
  exact b17  N z1 (0 : Int32) (1 : Int32) H locs ls hP hS (lv_sub hl [2, 1, 0] rfl) hf
def fX2_firstStrike_L15 (N : Nat)  : Nat → St → Int32 → Option (Int32 × St)
  | 0, _, _ => none
  | n + 1, z, x1 =>
    if (60 : Int32) < x1 then some ((-9 : Int32), z)
    else if (71 : Int32) ≤ x1 then some ((-9 : Int32), z)
    else bo (rdI z 21 71 x1) (fun v2 =>
    if v2 = 0 then some (x1, z)
    else bo (rdI z 21 71 x1) (fun v3 =>
    if v3 = (20 : Int32) then some (x1, z)
    else lt_ (x1 + (1 : Int32) : Int32) (fun v4 =>
    (fX2_firstStrike_L15 N n) z v4)))
def fX2_firstStrike (N : Nat) (σ : St)  : Option (Int32 × St) :=
    by_ (fX0_foresee N (sb [1, 2, 3, 4, 5, 6, 21] σ) (60 : Int32)) (fun uq => pb [1, 2, 3, 4, 5, 6, 21] uq σ) (fun z1 =>
    fX2_firstStrike_L15 N  N z1 (0 : Int32))
abbrev rmX2_firstStrike : Room := { frames := 4, cells := 0, slots := 0, locals := 96 }
theorem qX2_firstStrike : yX2_firstStrike.cls = RX2 ∧ yX2_firstStrike.cls ≠ "java/lang/invoke/MethodHandle" ∧ yX2_firstStrike.cls ≠ "java/lang/invoke/VarHandle" ∧ (parseMethodDescriptor yX2_firstStrike.desc).map (fun d => d.parameters.length) = some 0 := by decide +kernel
set_option maxHeartbeats 400000 in
set_option maxRecDepth 100000 in
theorem mX2_firstStrike (l : Launch) (D : va_G) (cI cJ : ClassId) (a : Nat → Nat) (sz N : Nat) (τ : LSt) (σ : St)  (r : (Int32 × St)) (hf : fX2_firstStrike N σ = some r) : Met l yX2_firstStrike wsX2_firstStrike rmX2_firstStrike (WPre ([.ref (a 0)] : List Value) sz D (tyIJ cI cJ) (wHA cI cJ a τ σ)) (WQi sz D (wHA cI cJ a τ σ) (wHA cI cJ a τ (r.2)) r.1) 0 0 (va_A (wHA cI cJ a τ σ) sz) := by
  refine W_start (cc := cX2_firstStrike) (maxL := 2) (ret := (some .int)) (by decide) rfl (Nat.le_of_ble_eq_true rfl) (fun p e s m below meth c ls A hx hb hr hml hown hts hlk hP hK hS hA hD0 hAe hl => ?_)
  have hD : ∀ z, va_D A ((wHA cI cJ a τ) z) := fun z => hD0.ad rfl
  have hown : s.vm.findClass RX2 = some m.cls := hown
  have hl : lv_has ls 2 [(0, .ref (a 0))] := hl
  have ln1 := hts (Cond.fieldLink RX2 10 "HoistsAreShared" "now" "LHoistsAreShared$Hoist;") (List.mem_of_getElem? (i := 1) rfl)
  have inX2 : ∀ w ∈ u_ws RX2 TX2 14, w ∈ wsX2_firstStrike := fun _ h => List.mem_cons_of_mem _ (List.mem_append_left _ (List.mem_append_right _ h))
  have ln3 := hts (Cond.fieldLink RX2 29 "HoistsAreShared" "path" "[I") (List.mem_of_getElem? (i := 2) rfl)
  have b15 : ∀  (n : Nat) (z : St) (x1 : Int32) (H : Heap) (locs : List Loc) (ls : Array Slot), va_P D vwCl (wHA cI cJ a τ z) H → va_S A s.heap H locs → lv_has ls 2 [(0, .ref (a 0)), (1, .int x1)] → fX2_firstStrike_L15 N n z x1 = some r → W p l e rmX2_firstStrike s m ([.ref (a 0)] : List Value).toArray below meth c H locs 0 0 (MQ below (WQi sz D (wHA cI cJ a τ σ) (wHA cI cJ a τ (r.2)) r.1) ([.ref (a 0)] : List Value).toArray s 0 0 A) (F0 m 15 ls []) := by
    intro n
    induction n with
    | zero => intro z x1 H locs ls hP hS hl hf; cases hf
    | succ n ih =>
      intro z x1 H locs ls hP hS hl hf
      rw [fX2_firstStrike_L15] at hf
      refine lv_iload_n hx hb dX2_firstStrike_15 rfl (lv_at hl 1 rfl) ?_
      refine lv_bipush (v := (60 : Int32)) hx hb dX2_firstStrike_16 (by decide) ?_
      refine k_icmp_gt (tgt := 58) hx hb dX2_firstStrike_18 (by decide) hf (fun hf => ?_) (fun hf => ?_)
      · refine lv_bipush (v := (-9 : Int32)) hx hb dX2_firstStrike_58 (by decide) ?_
        exact W_iret (wHA cI cJ a τ) hx hb hr hlk hP hS hAe hf dX2_firstStrike_60
      · refine lv_iload_n hx hb dX2_firstStrike_21 rfl (lv_at hl 1 rfl) ?_
        refine lv_aload_n hx hb dX2_firstStrike_22 rfl (lv_at hl 0 rfl) ?_
        refine va_get (D := D) (ci := 2) (v := .ref (a 21)) (C := RX2) (T := TX2) (N := 14) hx hb hts inX2 hown hK hP 0 rfl rfl 4 (by decide) ln3 (fun _ h9 => h9) rfl dX2_firstStrike_23 ?_
        refine va_alen (v := (71 : Int32)) hx hb hK hP 21 0 rfl rfl rfl dX2_firstStrike_26 ?_
        refine k_icmp_ge (tgt := 58) hx hb dX2_firstStrike_27 (by decide) hf (fun hf => ?_) (fun hf => ?_)
        · refine lv_bipush (v := (-9 : Int32)) hx hb dX2_firstStrike_58 (by decide) ?_
          exact W_iret (wHA cI cJ a τ) hx hb hr hlk hP hS hAe hf dX2_firstStrike_60
        · refine lv_aload_n hx hb dX2_firstStrike_30 rfl (lv_at hl 0 rfl) ?_
          refine va_get (D := D) (ci := 2) (v := .ref (a 21)) (C := RX2) (T := TX2) (N := 14) hx hb hts inX2 hown hK hP 0 rfl rfl 4 (by decide) ln3 (fun _ h9 => h9) rfl dX2_firstStrike_31 ?_
          refine lv_iload_n hx hb dX2_firstStrike_34 rfl (lv_at hl 1 rfl) ?_
          refine k_iald hx hb hK hP 21 0 hf rfl rfl dX2_firstStrike_35 (fun v2 hf => ?_)
          refine k_if_eq (tgt := 50) hx hb dX2_firstStrike_36 (by decide) hf (fun hf => ?_) (fun hf => ?_)
          · refine lv_iload_n hx hb dX2_firstStrike_50 rfl (lv_at hl 1 rfl) ?_
            exact W_iret (wHA cI cJ a τ) hx hb hr hlk hP hS hAe hf dX2_firstStrike_51
          · refine lv_aload_n hx hb dX2_firstStrike_39 rfl (lv_at hl 0 rfl) ?_
            refine va_get (D := D) (ci := 2) (v := .ref (a 21)) (C := RX2) (T := TX2) (N := 14) hx hb hts inX2 hown hK hP 0 rfl rfl 4 (by decide) ln3 (fun _ h9 => h9) rfl dX2_firstStrike_40 ?_
            refine lv_iload_n hx hb dX2_firstStrike_43 rfl (lv_at hl 1 rfl) ?_
            refine k_iald hx hb hK hP 21 0 hf rfl rfl dX2_firstStrike_44 (fun v3 hf => ?_)
            refine lv_bipush (v := (20 : Int32)) hx hb dX2_firstStrike_45 (by decide) ?_
            refine k_icmp_ne (tgt := 52) hx hb dX2_firstStrike_47 (by decide) hf (fun hf => ?_) (fun hf => ?_)
            · refine k_iinc (d := (1 : Int32)) (lv' := fun v4 => [(1, .int v4), (0, .ref (a 0))]) hx hb dX2_firstStrike_52 hl (k := 1) rfl (by decide) (by decide) (fun _ => rfl) hf (fun v4 ls hl hf => ?_)
              refine lv_goto (tgt := 15) hx hb dX2_firstStrike_55 (by decide) ?_
              exact ih z v4 H locs ls hP hS (lv_sub hl [1, 0] rfl) hf
            · refine lv_iload_n hx hb dX2_firstStrike_50 rfl (lv_at hl 1 rfl) ?_
              exact W_iret (wHA cI cJ a τ) hx hb hr hlk hP hS hAe hf dX2_firstStrike_51
  unfold fX2_firstStrike at hf
  refine lv_aload_n hx hb dX2_firstStrike_0 rfl (lv_at hl 0 rfl) ?_
  refine va_get (D := D) (ci := 2) (v := .ref (a 1)) (C := RX2) (T := TX2) (N := 14) hx hb hts inX2 hown hK hP 0 rfl rfl 0 (by decide) ln1 (fun _ h9 => h9) rfl dX2_firstStrike_1 ?_
  refine lv_aload_n hx hb dX2_firstStrike_4 rfl (lv_at hl 0 rfl) ?_
  refine va_get (D := D) (ci := 2) (v := .ref (a 21)) (C := RX2) (T := TX2) (N := 14) hx hb hts inX2 hown hK hP 0 rfl rfl 4 (by decide) ln3 (fun _ h9 => h9) rfl dX2_firstStrike_5 ?_
  refine lv_bipush (v := (60 : Int32)) hx hb dX2_firstStrike_8 (by decide) ?_
  refine d_callVv (As := [.ref ((sb [1, 2, 3, 4, 5, 6, 21] a) 6), .int (60 : Int32)]) (rest := []) (w := (wHA cI cJ a τ)) (wc := (wHoP cI (sb [1, 2, 3, 4, 5, 6, 21] a))) (put := (fun uq => pb [1, 2, 3, 4, 5, 6, 21] uq σ)) (σ := σ) (τ0 := (sb [1, 2, 3, 4, 5, 6, 21] σ)) ⟨hx, hb, hml, hown, hts⟩ hf (fun zq hq => mX0_foresee l D cI cJ (sb [1, 2, 3, 4, 5, 6, 21] a) s.heap.size N (sb [1, 2, 3, 4, 5, 6, 21] σ) (60 : Int32) zq hq) (cwV 2 hts gX2_firstStrike_X0_foresee rfl rfl rfl qX0_foresee ⟨Nat.le_of_ble_eq_true rfl, Nat.le_of_ble_eq_true rfl⟩) hK hP hD hS hA (cmb_HA_HoP_1_2_3_4_5_6_21 D cI cJ a τ σ hP (hD _)) 0 rfl rfl rfl rfl hl.1 rfl (Nat.le_of_ble_eq_true rfl) dX2_firstStrike_10 ⟨Nat.le_refl _, Nat.le_refl _⟩ (fun z1 H locs hP hS hf => ?_)
  refine lv_iconst (v := (0 : Int32)) hx hb dX2_firstStrike_13 (by decide) ?_
  refine lv_istore_n (lv' := [(1, .int (0 : Int32)), (0, .ref (a 0))]) hx hb dX2_firstStrike_14 rfl hl (by decide) rfl (fun ls hl => ?_)
  exact b15  N z1 (0 : Int32) H locs ls hP hS (lv_sub hl [1, 0] rfl) hf
def fX2_strikes (N : Nat) (σ : St) (p1 : Int32) : Option (Int32 × St) :=
    if p1 = (0 : Int32) then bx (fX2_firstStrike N σ) (fun uq => uq) (fun v2 z1 =>
    some (v2, z1))
    else if p1 = (1 : Int32) then bx (fX2_firstStill N σ) (fun uq => uq) (fun v5 z4 =>
    some (v5, z4))
    else bx (fX2_refuse N σ (-2 : Int32)) (fun uq => uq) (fun v8 z7 =>
    some (v8, z7))
abbrev rmX2_strikes : Room := { frames := 5, cells := 0, slots := 0, locals := 118 }
theorem qX2_strikes : yX2_strikes.cls = RX2 ∧ yX2_strikes.cls ≠ "java/lang/invoke/MethodHandle" ∧ yX2_strikes.cls ≠ "java/lang/invoke/VarHandle" ∧ (parseMethodDescriptor yX2_strikes.desc).map (fun d => d.parameters.length) = some 1 := by decide +kernel
set_option maxHeartbeats 400000 in
set_option maxRecDepth 100000 in
theorem mX2_strikes (l : Launch) (D : va_G) (cI cJ : ClassId) (a : Nat → Nat) (sz N : Nat) (τ : LSt) (σ : St) (p1 : Int32) (r : (Int32 × St)) (hf : fX2_strikes N σ p1 = some r) : Met l yX2_strikes wsX2_strikes rmX2_strikes (WPre ([.ref (a 0), .int p1] : List Value) sz D (tyIJ cI cJ) (wHA cI cJ a τ σ)) (WQi sz D (wHA cI cJ a τ σ) (wHA cI cJ a τ (r.2)) r.1) 0 0 (va_A (wHA cI cJ a τ σ) sz) := by
  refine W_start (cc := cX2_strikes) (maxL := 2) (ret := (some .int)) (by decide) rfl (Nat.le_of_ble_eq_true rfl) (fun p e s m below meth c ls A hx hb hr hml hown hts hlk hP hK hS hA hD0 hAe hl => ?_)
  have hD : ∀ z, va_D A ((wHA cI cJ a τ) z) := fun z => hD0.ad rfl
  have hown : s.vm.findClass RX2 = some m.cls := hown
  have hl : lv_has ls 2 [(0, .ref (a 0)), (1, .int p1)] := hl
  unfold fX2_strikes at hf
  refine lv_iload_n hx hb dX2_strikes_0 rfl (lv_at hl 1 rfl) ?_
  refine sw_if hf (fun c3 hf => ?_) (fun c3 hf => ?_)
  · refine lv_lookup (off := 27) (tgt := 28) hx hb dX2_strikes_1 (by decide) (by rw [c3]; decide) (by decide) ?_
    refine lv_aload_n hx hb dX2_strikes_28 rfl (lv_at hl 0 rfl) ?_
    refine d_callV (As := []) (rest := []) (w := (wHA cI cJ a τ)) (wc := (wHA cI cJ a τ)) (put := (fun uq => uq)) (σ := σ) (τ0 := σ) ⟨hx, hb, hml, hown, hts⟩ hf (fun vq zq hq => mX2_firstStrike l D cI cJ a s.heap.size N τ σ (vq, zq) hq) (cwV 0 hts gX2_strikes_X2_firstStrike rfl rfl rfl qX2_firstStrike ⟨Nat.le_of_ble_eq_true rfl, Nat.le_of_ble_eq_true rfl⟩) hK hP hD hS hA ⟨hP, hD _, fun _ _ _ h => h⟩ 2 rfl rfl rfl rfl hl.1 rfl (Nat.le_of_ble_eq_true rfl) dX2_strikes_29 ⟨Nat.le_refl _, Nat.le_refl _⟩ (fun v2 z1 H locs hP hS hf => ?_)
    exact W_iret (wHA cI cJ a τ) hx hb hr hlk hP hS hAe hf dX2_strikes_32
  · have c3 := i32_ne c3 (n := 0) (by decide)
    refine sw_if hf (fun c6 hf => ?_) (fun c6 hf => ?_)
    · refine lv_lookup (off := 32) (tgt := 33) hx hb dX2_strikes_1 (by decide) (by rw [c6]; decide) (by decide) ?_
      refine lv_aload_n hx hb dX2_strikes_33 rfl (lv_at hl 0 rfl) ?_
      refine d_callV (As := []) (rest := []) (w := (wHA cI cJ a τ)) (wc := (wHA cI cJ a τ)) (put := (fun uq => uq)) (σ := σ) (τ0 := σ) ⟨hx, hb, hml, hown, hts⟩ hf (fun vq zq hq => mX2_firstStill l D cI cJ a s.heap.size N τ σ (vq, zq) hq) (cwV 0 hts gX2_strikes_X2_firstStill rfl rfl rfl qX2_firstStill ⟨Nat.le_of_ble_eq_true rfl, Nat.le_of_ble_eq_true rfl⟩) hK hP hD hS hA ⟨hP, hD _, fun _ _ _ h => h⟩ 2 rfl rfl rfl rfl hl.1 rfl (Nat.le_of_ble_eq_true rfl) dX2_strikes_34 ⟨Nat.le_refl _, Nat.le_refl _⟩ (fun v5 z4 H locs hP hS hf => ?_)
      exact W_iret (wHA cI cJ a τ) hx hb hr hlk hP hS hAe hf dX2_strikes_37
    · have c6 := i32_ne c6 (n := 1) (by decide)
      refine lv_lookup (off := 37) (tgt := 38) hx hb dX2_strikes_1 (by decide) (by simp [Op.lookupswitch.offset, c3.symm, c6.symm]) (by decide) ?_
      refine lv_aload_n hx hb dX2_strikes_38 rfl (lv_at hl 0 rfl) ?_
      refine lv_bipush (v := (-2 : Int32)) hx hb dX2_strikes_39 (by decide) ?_
      refine d_callV (As := [.int (-2 : Int32)]) (rest := []) (w := (wHA cI cJ a τ)) (wc := (wHA cI cJ a τ)) (put := (fun uq => uq)) (σ := σ) (τ0 := σ) ⟨hx, hb, hml, hown, hts⟩ hf (fun vq zq hq => mX2_refuse l D cI cJ a s.heap.size N τ σ (-2 : Int32) (vq, zq) hq) (cwV 1 hts gX2_strikes_X2_refuse rfl rfl rfl qX2_refuse ⟨Nat.le_of_ble_eq_true rfl, Nat.le_of_ble_eq_true rfl⟩) hK hP hD hS hA ⟨hP, hD _, fun _ _ _ h => h⟩ 2 rfl rfl rfl rfl hl.1 rfl (Nat.le_of_ble_eq_true rfl) dX2_strikes_41 ⟨Nat.le_refl _, Nat.le_refl _⟩ (fun v8 z7 H locs hP hS hf => ?_)
      exact W_iret (wHA cI cJ a τ) hx hb hr hlk hP hS hAe hf dX2_strikes_44
def fX2_door_L28 (N : Nat)  : Nat → St → Int32 → Int32 → Option (Int32 × St)
  | 0, _, _, _ => none
  | n + 1, z, x1, x2 =>
    if (60 : Int32) < x2 then some ((-9 : Int32), z)
    else if (71 : Int32) ≤ x2 then some ((-9 : Int32), z)
    else bo (rdI z 21 71 x2) (fun v3 =>
    bo (fX0_heightOf N x1 v3) (fun v4 =>
    bo (fX0_isDoor N (sb [1, 2, 3, 4, 5, 6] z) v4) (fun v5 =>
    if v5 = 0 then lt_ (x2 + (1 : Int32) : Int32) (fun v6 =>
    (fX2_door_L28 N n) z x1 v6)
    else some (x2, z))))
def fX2_door (N : Nat) (σ : St) (p1 : Int32) : Option (Int32 × St) :=
    bo (fX0_isSide N p1) (fun v1 =>
    if v1 = 0 then bx (fX2_refuse N σ (-1 : Int32)) (fun uq => uq) (fun v8 z7 =>
    some (v8, z7))
    else by_ (fX0_foresee N (sb [1, 2, 3, 4, 5, 6, 21] σ) (60 : Int32)) (fun uq => pb [1, 2, 3, 4, 5, 6, 21] uq σ) (fun z2 =>
    fX2_door_L28 N  N z2 p1 (0 : Int32)))
abbrev rmX2_door : Room := { frames := 4, cells := 0, slots := 0, locals := 96 }
theorem qX2_door : yX2_door.cls = RX2 ∧ yX2_door.cls ≠ "java/lang/invoke/MethodHandle" ∧ yX2_door.cls ≠ "java/lang/invoke/VarHandle" ∧ (parseMethodDescriptor yX2_door.desc).map (fun d => d.parameters.length) = some 1 := by decide +kernel
set_option maxHeartbeats 400000 in
set_option maxRecDepth 100000 in
theorem mX2_door (l : Launch) (D : va_G) (cI cJ : ClassId) (a : Nat → Nat) (sz N : Nat) (τ : LSt) (σ : St) (p1 : Int32) (r : (Int32 × St)) (hf : fX2_door N σ p1 = some r) : Met l yX2_door wsX2_door rmX2_door (WPre ([.ref (a 0), .int p1] : List Value) sz D (tyIJ cI cJ) (wHA cI cJ a τ σ)) (WQi sz D (wHA cI cJ a τ σ) (wHA cI cJ a τ (r.2)) r.1) 0 0 (va_A (wHA cI cJ a τ σ) sz) := by
  refine W_start (cc := cX2_door) (maxL := 3) (ret := (some .int)) (by decide) rfl (Nat.le_of_ble_eq_true rfl) (fun p e s m below meth c ls A hx hb hr hml hown hts hlk hP hK hS hA hD0 hAe hl => ?_)
  have hD : ∀ z, va_D A ((wHA cI cJ a τ) z) := fun z => hD0.ad rfl
  have hown : s.vm.findClass RX2 = some m.cls := hown
  have hl : lv_has ls 3 [(0, .ref (a 0)), (1, .int p1)] := hl
  have ln1 := hts (Cond.fieldLink RX2 10 "HoistsAreShared" "now" "LHoistsAreShared$Hoist;") (List.mem_of_getElem? (i := 1) rfl)
  have inX2 : ∀ w ∈ u_ws RX2 TX2 14, w ∈ wsX2_door := fun _ h => List.mem_cons_of_mem _ (List.mem_append_left _ (List.mem_append_right _ h))
  have ln3 := hts (Cond.fieldLink RX2 29 "HoistsAreShared" "path" "[I") (List.mem_of_getElem? (i := 2) rfl)
  have b28 : ∀  (n : Nat) (z : St) (x1 : Int32) (x2 : Int32) (H : Heap) (locs : List Loc) (ls : Array Slot), va_P D vwCl (wHA cI cJ a τ z) H → va_S A s.heap H locs → lv_has ls 3 [(0, .ref (a 0)), (1, .int x1), (2, .int x2)] → fX2_door_L28 N n z x1 x2 = some r → W p l e rmX2_door s m ([.ref (a 0), .int p1] : List Value).toArray below meth c H locs 0 0 (MQ below (WQi sz D (wHA cI cJ a τ σ) (wHA cI cJ a τ (r.2)) r.1) ([.ref (a 0), .int p1] : List Value).toArray s 0 0 A) (F0 m 28 ls []) := by
    intro n
    induction n with
    | zero => intro z x1 x2 H locs ls hP hS hl hf; cases hf
    | succ n ih =>
      intro z x1 x2 H locs ls hP hS hl hf
      rw [fX2_door_L28] at hf
      refine lv_iload_n hx hb dX2_door_28 rfl (lv_at hl 2 rfl) ?_
      refine lv_bipush (v := (60 : Int32)) hx hb dX2_door_29 (by decide) ?_
      refine k_icmp_gt (tgt := 71) hx hb dX2_door_31 (by decide) hf (fun hf => ?_) (fun hf => ?_)
      · refine lv_bipush (v := (-9 : Int32)) hx hb dX2_door_71 (by decide) ?_
        exact W_iret (wHA cI cJ a τ) hx hb hr hlk hP hS hAe hf dX2_door_73
      · refine lv_iload_n hx hb dX2_door_34 rfl (lv_at hl 2 rfl) ?_
        refine lv_aload_n hx hb dX2_door_35 rfl (lv_at hl 0 rfl) ?_
        refine va_get (D := D) (ci := 2) (v := .ref (a 21)) (C := RX2) (T := TX2) (N := 14) hx hb hts inX2 hown hK hP 0 rfl rfl 4 (by decide) ln3 (fun _ h9 => h9) rfl dX2_door_36 ?_
        refine va_alen (v := (71 : Int32)) hx hb hK hP 21 0 rfl rfl rfl dX2_door_39 ?_
        refine k_icmp_ge (tgt := 71) hx hb dX2_door_40 (by decide) hf (fun hf => ?_) (fun hf => ?_)
        · refine lv_bipush (v := (-9 : Int32)) hx hb dX2_door_71 (by decide) ?_
          exact W_iret (wHA cI cJ a τ) hx hb hr hlk hP hS hAe hf dX2_door_73
        · refine lv_aload_n hx hb dX2_door_43 rfl (lv_at hl 0 rfl) ?_
          refine va_get (D := D) (ci := 2) (v := .ref (a 1)) (C := RX2) (T := TX2) (N := 14) hx hb hts inX2 hown hK hP 0 rfl rfl 0 (by decide) ln1 (fun _ h9 => h9) rfl dX2_door_44 ?_
          refine lv_iload_n hx hb dX2_door_47 rfl (lv_at hl 1 rfl) ?_
          refine lv_aload_n hx hb dX2_door_48 rfl (lv_at hl 0 rfl) ?_
          refine va_get (D := D) (ci := 2) (v := .ref (a 21)) (C := RX2) (T := TX2) (N := 14) hx hb hts inX2 hown hK hP 0 rfl rfl 4 (by decide) ln3 (fun _ h9 => h9) rfl dX2_door_49 ?_
          refine lv_iload_n hx hb dX2_door_52 rfl (lv_at hl 2 rfl) ?_
          refine k_iald hx hb hK hP 21 0 hf rfl rfl dX2_door_53 (fun v3 hf => ?_)
          refine c_callS (As := [.int x1, .int v3]) (rest := [.ref (a 1)]) ⟨hx, hb, hml, hown, hts⟩ hf (fun vq hq => mX0_heightOf l D cI cJ H.size N x1 v3 vq hq) (va_cwS 2 hts gX2_door_X0_heightOf rfl rfl rfl qX0_heightOf ⟨Nat.le_of_ble_eq_true rfl, Nat.le_of_ble_eq_true rfl⟩) hK hP hS hA va_P_nil rfl hl.1 rfl (Nat.le_of_ble_eq_true rfl) dX2_door_54 ⟨Nat.le_refl _, Nat.le_refl _⟩ (fun v4 H locs hP hS hf => ?_)
          refine c_callV (As := [.int v4]) (rest := []) ⟨hx, hb, hml, hown, hts⟩ hf (fun vq hq => mX0_isDoor l D cI cJ (sb [1, 2, 3, 4, 5, 6] a) H.size N (sb [1, 2, 3, 4, 5, 6] z) v4 vq hq) (cwV 1 hts gX2_door_X0_isDoor rfl rfl rfl qX0_isDoor ⟨Nat.le_of_ble_eq_true rfl, Nat.le_of_ble_eq_true rfl⟩) hK hP hS hA (cmr_HA_Ho_1_2_3_4_5_6 D cI cJ a τ z hP) 0 rfl rfl rfl rfl hl.1 rfl (Nat.le_of_ble_eq_true rfl) dX2_door_57 ⟨Nat.le_refl _, Nat.le_refl _⟩ (fun v5 H locs hP hS hf => ?_)
          refine k_if_eq (tgt := 65) hx hb dX2_door_60 (by decide) hf (fun hf => ?_) (fun hf => ?_)
          · refine k_iinc (d := (1 : Int32)) (lv' := fun v6 => [(2, .int v6), (0, .ref (a 0)), (1, .int x1)]) hx hb dX2_door_65 hl (k := 2) rfl (by decide) (by decide) (fun _ => rfl) hf (fun v6 ls hl hf => ?_)
            refine lv_goto (tgt := 28) hx hb dX2_door_68 (by decide) ?_
            exact ih z x1 v6 H locs ls hP hS (lv_sub hl [1, 2, 0] rfl) hf
          · refine lv_iload_n hx hb dX2_door_63 rfl (lv_at hl 2 rfl) ?_
            exact W_iret (wHA cI cJ a τ) hx hb hr hlk hP hS hAe hf dX2_door_64
  unfold fX2_door at hf
  refine lv_iload_n hx hb dX2_door_0 rfl (lv_at hl 1 rfl) ?_
  refine c_callS (As := [.int p1]) (rest := []) ⟨hx, hb, hml, hown, hts⟩ hf (fun vq hq => mX0_isSide l D cI cJ s.heap.size N p1 vq hq) (va_cwS 1 hts gX2_door_X0_isSide rfl rfl rfl qX0_isSide ⟨Nat.le_of_ble_eq_true rfl, Nat.le_of_ble_eq_true rfl⟩) hK hP hS hA va_P_nil rfl hl.1 rfl (Nat.le_of_ble_eq_true rfl) dX2_door_1 ⟨Nat.le_refl _, Nat.le_refl _⟩ (fun v1 H locs hP hS hf => ?_)
  refine k_if_ne (tgt := 13) hx hb dX2_door_4 (by decide) hf (fun hf => ?_) (fun hf => ?_)
  · refine lv_aload_n hx hb dX2_door_13 rfl (lv_at hl 0 rfl) ?_
    refine va_get (D := D) (ci := 2) (v := .ref (a 1)) (C := RX2) (T := TX2) (N := 14) hx hb hts inX2 hown hK hP 0 rfl rfl 0 (by decide) ln1 (fun _ h9 => h9) rfl dX2_door_14 ?_
    refine lv_aload_n hx hb dX2_door_17 rfl (lv_at hl 0 rfl) ?_
    refine va_get (D := D) (ci := 2) (v := .ref (a 21)) (C := RX2) (T := TX2) (N := 14) hx hb hts inX2 hown hK hP 0 rfl rfl 4 (by decide) ln3 (fun _ h9 => h9) rfl dX2_door_18 ?_
    refine lv_bipush (v := (60 : Int32)) hx hb dX2_door_21 (by decide) ?_
    refine d_callVv (As := [.ref ((sb [1, 2, 3, 4, 5, 6, 21] a) 6), .int (60 : Int32)]) (rest := []) (w := (wHA cI cJ a τ)) (wc := (wHoP cI (sb [1, 2, 3, 4, 5, 6, 21] a))) (put := (fun uq => pb [1, 2, 3, 4, 5, 6, 21] uq σ)) (σ := σ) (τ0 := (sb [1, 2, 3, 4, 5, 6, 21] σ)) ⟨hx, hb, hml, hown, hts⟩ hf (fun zq hq => mX0_foresee l D cI cJ (sb [1, 2, 3, 4, 5, 6, 21] a) H.size N (sb [1, 2, 3, 4, 5, 6, 21] σ) (60 : Int32) zq hq) (cwV 2 hts gX2_door_X0_foresee rfl rfl rfl qX0_foresee ⟨Nat.le_of_ble_eq_true rfl, Nat.le_of_ble_eq_true rfl⟩) hK hP hD hS hA (cmb_HA_HoP_1_2_3_4_5_6_21 D cI cJ a τ σ hP (hD _)) 0 rfl rfl rfl rfl hl.1 rfl (Nat.le_of_ble_eq_true rfl) dX2_door_23 ⟨Nat.le_refl _, Nat.le_refl _⟩ (fun z2 H locs hP hS hf => ?_)
    refine lv_iconst (v := (0 : Int32)) hx hb dX2_door_26 (by decide) ?_
    refine lv_istore_n (lv' := [(2, .int (0 : Int32)), (0, .ref (a 0)), (1, .int p1)]) hx hb dX2_door_27 rfl hl (by decide) rfl (fun ls hl => ?_)
    exact b28  N z2 p1 (0 : Int32) H locs ls hP hS (lv_sub hl [1, 2, 0] rfl) hf
  · refine lv_aload_n hx hb dX2_door_7 rfl (lv_at hl 0 rfl) ?_
    refine lv_iconst (v := (-1 : Int32)) hx hb dX2_door_8 (by decide) ?_
    refine d_callV (As := [.int (-1 : Int32)]) (rest := []) (w := (wHA cI cJ a τ)) (wc := (wHA cI cJ a τ)) (put := (fun uq => uq)) (σ := σ) (τ0 := σ) ⟨hx, hb, hml, hown, hts⟩ hf (fun vq zq hq => mX2_refuse l D cI cJ a H.size N τ σ (-1 : Int32) (vq, zq) hq) (cwV 1 hts gX2_door_X2_refuse rfl rfl rfl qX2_refuse ⟨Nat.le_of_ble_eq_true rfl, Nat.le_of_ble_eq_true rfl⟩) hK hP hD hS hA ⟨hP, hD _, fun _ _ _ h => h⟩ 2 rfl rfl rfl rfl hl.1 rfl (Nat.le_of_ble_eq_true rfl) dX2_door_9 ⟨Nat.le_refl _, Nat.le_refl _⟩ (fun v8 z7 H locs hP hS hf => ?_)
    exact W_iret (wHA cI cJ a τ) hx hb hr hlk hP hS hAe hf dX2_door_12
def fX2_level_L66 (N : Nat) (k35 : St → Int32 → Int32 → Int32 → Option (Int32 × St)) (z : St) (x1 : Int32) (x3 : Int32) (x4 : Int32) : Option (Int32 × St) :=
    lt_ (x4 + (1 : Int32) : Int32) (fun v4 =>
    k35 z x1 x3 v4)
def fX2_level_L35 (N : Nat)  : Nat → St → Int32 → Int32 → Int32 → Option (Int32 × St)
  | 0, _, _, _, _ => none
  | n + 1, z, x1, x3, x4 =>
    if x1 < x4 then some (x3, z)
    else if (71 : Int32) ≤ x4 then some (x3, z)
    else bo (rdI z 21 71 x4) (fun v3 =>
    if v3 = (10 : Int32) then lt_ (x3 + (1 : Int32) : Int32) (fun v5 =>
    fX2_level_L66 N (fX2_level_L35 N n) z x1 v5 x4)
    else fX2_level_L66 N (fX2_level_L35 N n) z x1 x3 x4)
def fX2_level (N : Nat) (σ : St) (p1 : Int32) : Option (Int32 × St) :=
    bo (fX2_faultOf N p1 (0 : Int32) (60 : Int32)) (fun v1 =>
    if v1 = 0 then by_ (fX0_foresee N (sb [1, 2, 3, 4, 5, 6, 21] σ) p1) (fun uq => pb [1, 2, 3, 4, 5, 6, 21] uq σ) (fun z2 =>
    fX2_level_L35 N  N z2 p1 (0 : Int32) (0 : Int32))
    else bx (fX2_refuse N σ v1) (fun uq => uq) (fun v7 z6 =>
    some (v7, z6)))
abbrev rmX2_level : Room := { frames := 4, cells := 0, slots := 0, locals := 96 }
theorem qX2_level : yX2_level.cls = RX2 ∧ yX2_level.cls ≠ "java/lang/invoke/MethodHandle" ∧ yX2_level.cls ≠ "java/lang/invoke/VarHandle" ∧ (parseMethodDescriptor yX2_level.desc).map (fun d => d.parameters.length) = some 1 := by decide +kernel
set_option maxHeartbeats 400000 in
set_option maxRecDepth 100000 in
theorem mX2_level (l : Launch) (D : va_G) (cI cJ : ClassId) (a : Nat → Nat) (sz N : Nat) (τ : LSt) (σ : St) (p1 : Int32) (r : (Int32 × St)) (hf : fX2_level N σ p1 = some r) : Met l yX2_level wsX2_level rmX2_level (WPre ([.ref (a 0), .int p1] : List Value) sz D (tyIJ cI cJ) (wHA cI cJ a τ σ)) (WQi sz D (wHA cI cJ a τ σ) (wHA cI cJ a τ (r.2)) r.1) 0 0 (va_A (wHA cI cJ a τ σ) sz) := by
  refine W_start (cc := cX2_level) (maxL := 5) (ret := (some .int)) (by decide) rfl (Nat.le_of_ble_eq_true rfl) (fun p e s m below meth c ls A hx hb hr hml hown hts hlk hP hK hS hA hD0 hAe hl => ?_)
  have hD : ∀ z, va_D A ((wHA cI cJ a τ) z) := fun z => hD0.ad rfl
  have hown : s.vm.findClass RX2 = some m.cls := hown
  have hl : lv_has ls 5 [(0, .ref (a 0)), (1, .int p1)] := hl
  have ln1 := hts (Cond.fieldLink RX2 10 "HoistsAreShared" "now" "LHoistsAreShared$Hoist;") (List.mem_of_getElem? (i := 1) rfl)
  have inX2 : ∀ w ∈ u_ws RX2 TX2 14, w ∈ wsX2_level := fun _ h => List.mem_cons_of_mem _ (List.mem_append_left _ (List.mem_append_right _ h))
  have ln3 := hts (Cond.fieldLink RX2 29 "HoistsAreShared" "path" "[I") (List.mem_of_getElem? (i := 2) rfl)
  have b66 : ∀ (k35 : St → Int32 → Int32 → Int32 → Option (Int32 × St)) (hk35 : (∀ (z : St) (x1 : Int32) (x3 : Int32) (x4 : Int32) (H : Heap) (locs : List Loc) (ls : Array Slot), va_P D vwCl (wHA cI cJ a τ z) H → va_S A s.heap H locs → lv_has ls 5 [(0, .ref (a 0)), (1, .int x1), (3, .int x3), (4, .int x4)] → k35 z x1 x3 x4 = some r → W p l e rmX2_level s m ([.ref (a 0), .int p1] : List Value).toArray below meth c H locs 0 0 (MQ below (WQi sz D (wHA cI cJ a τ σ) (wHA cI cJ a τ (r.2)) r.1) ([.ref (a 0), .int p1] : List Value).toArray s 0 0 A) (F0 m 35 ls []))) (z : St) (x1 : Int32) (x3 : Int32) (x4 : Int32) (H : Heap) (locs : List Loc) (ls : Array Slot), va_P D vwCl (wHA cI cJ a τ z) H → va_S A s.heap H locs → lv_has ls 5 [(0, .ref (a 0)), (1, .int x1), (3, .int x3), (4, .int x4)] → fX2_level_L66 N k35 z x1 x3 x4 = some r → W p l e rmX2_level s m ([.ref (a 0), .int p1] : List Value).toArray below meth c H locs 0 0 (MQ below (WQi sz D (wHA cI cJ a τ σ) (wHA cI cJ a τ (r.2)) r.1) ([.ref (a 0), .int p1] : List Value).toArray s 0 0 A) (F0 m 66 ls []) := by
    intro k35 hk35 z x1 x3 x4 H locs ls hP hS hl hf
    unfold fX2_level_L66 at hf
    refine k_iinc (d := (1 : Int32)) (lv' := fun v4 => [(4, .int v4), (0, .ref (a 0)), (1, .int x1), (3, .int x3)]) hx hb dX2_level_66 hl (k := 3) rfl (by decide) (by decide) (fun _ => rfl) hf (fun v4 ls hl hf => ?_)
    refine lv_goto (tgt := 35) hx hb dX2_level_69 (by decide) ?_
    exact hk35 z x1 x3 v4 H locs ls hP hS (lv_sub hl [1, 2, 3, 0] rfl) hf
  have b35 : ∀  (n : Nat) (z : St) (x1 : Int32) (x3 : Int32) (x4 : Int32) (H : Heap) (locs : List Loc) (ls : Array Slot), va_P D vwCl (wHA cI cJ a τ z) H → va_S A s.heap H locs → lv_has ls 5 [(0, .ref (a 0)), (1, .int x1), (3, .int x3), (4, .int x4)] → fX2_level_L35 N n z x1 x3 x4 = some r → W p l e rmX2_level s m ([.ref (a 0), .int p1] : List Value).toArray below meth c H locs 0 0 (MQ below (WQi sz D (wHA cI cJ a τ σ) (wHA cI cJ a τ (r.2)) r.1) ([.ref (a 0), .int p1] : List Value).toArray s 0 0 A) (F0 m 35 ls []) := by
    intro n
    induction n with
    | zero => intro z x1 x3 x4 H locs ls hP hS hl hf; cases hf
    | succ n ih =>
      intro z x1 x3 x4 H locs ls hP hS hl hf
      rw [fX2_level_L35] at hf
      refine lv_iload hx hb dX2_level_35 (lv_at hl 3 rfl) ?_
      refine lv_iload_n hx hb dX2_level_37 rfl (lv_at hl 1 rfl) ?_
      refine k_icmp_gt (tgt := 72) hx hb dX2_level_38 (by decide) hf (fun hf => ?_) (fun hf => ?_)
      · refine lv_iload_n hx hb dX2_level_72 rfl (lv_at hl 2 rfl) ?_
        exact W_iret (wHA cI cJ a τ) hx hb hr hlk hP hS hAe hf dX2_level_73
      · refine lv_iload hx hb dX2_level_41 (lv_at hl 3 rfl) ?_
        refine lv_aload_n hx hb dX2_level_43 rfl (lv_at hl 0 rfl) ?_
        refine va_get (D := D) (ci := 2) (v := .ref (a 21)) (C := RX2) (T := TX2) (N := 14) hx hb hts inX2 hown hK hP 0 rfl rfl 4 (by decide) ln3 (fun _ h9 => h9) rfl dX2_level_44 ?_
        refine va_alen (v := (71 : Int32)) hx hb hK hP 21 0 rfl rfl rfl dX2_level_47 ?_
        refine k_icmp_ge (tgt := 72) hx hb dX2_level_48 (by decide) hf (fun hf => ?_) (fun hf => ?_)
        · refine lv_iload_n hx hb dX2_level_72 rfl (lv_at hl 2 rfl) ?_
          exact W_iret (wHA cI cJ a τ) hx hb hr hlk hP hS hAe hf dX2_level_73
        · refine lv_aload_n hx hb dX2_level_51 rfl (lv_at hl 0 rfl) ?_
          refine va_get (D := D) (ci := 2) (v := .ref (a 21)) (C := RX2) (T := TX2) (N := 14) hx hb hts inX2 hown hK hP 0 rfl rfl 4 (by decide) ln3 (fun _ h9 => h9) rfl dX2_level_52 ?_
          refine lv_iload hx hb dX2_level_55 (lv_at hl 3 rfl) ?_
          refine k_iald hx hb hK hP 21 0 hf rfl rfl dX2_level_57 (fun v3 hf => ?_)
          refine lv_bipush (v := (10 : Int32)) hx hb dX2_level_58 (by decide) ?_
          refine k_icmp_ne (tgt := 66) hx hb dX2_level_60 (by decide) hf (fun hf => ?_) (fun hf => ?_)
          · exact b66 (fX2_level_L35 N n) ih z x1 x3 x4 H locs ls hP hS (lv_sub hl [0, 1, 2, 3] rfl) hf
          · refine k_iinc (d := (1 : Int32)) (lv' := fun v5 => [(3, .int v5), (0, .ref (a 0)), (1, .int x1), (4, .int x4)]) hx hb dX2_level_63 hl (k := 2) rfl (by decide) (by decide) (fun _ => rfl) hf (fun v5 ls hl hf => ?_)
            exact b66 (fX2_level_L35 N n) ih z x1 v5 x4 H locs ls hP hS (lv_sub hl [1, 2, 0, 3] rfl) hf
  unfold fX2_level at hf
  refine lv_iload_n hx hb dX2_level_0 rfl (lv_at hl 1 rfl) ?_
  refine lv_iconst (v := (0 : Int32)) hx hb dX2_level_1 (by decide) ?_
  refine lv_bipush (v := (60 : Int32)) hx hb dX2_level_2 (by decide) ?_
  refine c_callS (As := [.int p1, .int (0 : Int32), .int (60 : Int32)]) (rest := []) ⟨hx, hb, hml, hown, hts⟩ hf (fun vq hq => mX2_faultOf l D cI cJ s.heap.size N p1 (0 : Int32) (60 : Int32) vq hq) (va_cwS 3 hts gX2_level_X2_faultOf rfl rfl rfl qX2_faultOf ⟨Nat.le_of_ble_eq_true rfl, Nat.le_of_ble_eq_true rfl⟩) hK hP hS hA va_P_nil rfl hl.1 rfl (Nat.le_of_ble_eq_true rfl) dX2_level_4 ⟨Nat.le_refl _, Nat.le_refl _⟩ (fun v1 H locs hP hS hf => ?_)
  refine lv_istore_n (lv' := [(2, .int v1), (0, .ref (a 0)), (1, .int p1)]) hx hb dX2_level_7 rfl hl (by decide) rfl (fun ls hl => ?_)
  refine lv_iload_n hx hb dX2_level_8 rfl (lv_at hl 0 rfl) ?_
  refine k_if_eq (tgt := 18) hx hb dX2_level_9 (by decide) hf (fun hf => ?_) (fun hf => ?_)
  · refine lv_aload_n hx hb dX2_level_18 rfl (lv_at hl 1 rfl) ?_
    refine va_get (D := D) (ci := 2) (v := .ref (a 1)) (C := RX2) (T := TX2) (N := 14) hx hb hts inX2 hown hK hP 0 rfl rfl 0 (by decide) ln1 (fun _ h9 => h9) rfl dX2_level_19 ?_
    refine lv_aload_n hx hb dX2_level_22 rfl (lv_at hl 1 rfl) ?_
    refine va_get (D := D) (ci := 2) (v := .ref (a 21)) (C := RX2) (T := TX2) (N := 14) hx hb hts inX2 hown hK hP 0 rfl rfl 4 (by decide) ln3 (fun _ h9 => h9) rfl dX2_level_23 ?_
    refine lv_iload_n hx hb dX2_level_26 rfl (lv_at hl 2 rfl) ?_
    refine d_callVv (As := [.ref ((sb [1, 2, 3, 4, 5, 6, 21] a) 6), .int p1]) (rest := []) (w := (wHA cI cJ a τ)) (wc := (wHoP cI (sb [1, 2, 3, 4, 5, 6, 21] a))) (put := (fun uq => pb [1, 2, 3, 4, 5, 6, 21] uq σ)) (σ := σ) (τ0 := (sb [1, 2, 3, 4, 5, 6, 21] σ)) ⟨hx, hb, hml, hown, hts⟩ hf (fun zq hq => mX0_foresee l D cI cJ (sb [1, 2, 3, 4, 5, 6, 21] a) H.size N (sb [1, 2, 3, 4, 5, 6, 21] σ) p1 zq hq) (cwV 2 hts gX2_level_X0_foresee rfl rfl rfl qX0_foresee ⟨Nat.le_of_ble_eq_true rfl, Nat.le_of_ble_eq_true rfl⟩) hK hP hD hS hA (cmb_HA_HoP_1_2_3_4_5_6_21 D cI cJ a τ σ hP (hD _)) 0 rfl rfl rfl rfl hl.1 rfl (Nat.le_of_ble_eq_true rfl) dX2_level_27 ⟨Nat.le_refl _, Nat.le_refl _⟩ (fun z2 H locs hP hS hf => ?_)
    refine lv_iconst (v := (0 : Int32)) hx hb dX2_level_30 (by decide) ?_
    refine lv_istore_n (lv' := [(3, .int (0 : Int32)), (2, .int v1), (0, .ref (a 0)), (1, .int p1)]) hx hb dX2_level_31 rfl hl (by decide) rfl (fun ls hl => ?_)
    refine lv_iconst (v := (0 : Int32)) hx hb dX2_level_32 (by decide) ?_
    refine lv_istore (lv' := [(4, .int (0 : Int32)), (3, .int (0 : Int32)), (2, .int v1), (0, .ref (a 0)), (1, .int p1)]) hx hb dX2_level_33 hl (by decide) rfl (fun ls hl => ?_)
    exact b35  N z2 p1 (0 : Int32) (0 : Int32) H locs ls hP hS (lv_sub hl [3, 4, 1, 0] rfl) hf
  · refine lv_aload_n hx hb dX2_level_12 rfl (lv_at hl 1 rfl) ?_
    refine lv_iload_n hx hb dX2_level_13 rfl (lv_at hl 0 rfl) ?_
    refine d_callV (As := [.int v1]) (rest := []) (w := (wHA cI cJ a τ)) (wc := (wHA cI cJ a τ)) (put := (fun uq => uq)) (σ := σ) (τ0 := σ) ⟨hx, hb, hml, hown, hts⟩ hf (fun vq zq hq => mX2_refuse l D cI cJ a H.size N τ σ v1 (vq, zq) hq) (cwV 1 hts gX2_level_X2_refuse rfl rfl rfl qX2_refuse ⟨Nat.le_of_ble_eq_true rfl, Nat.le_of_ble_eq_true rfl⟩) hK hP hD hS hA ⟨hP, hD _, fun _ _ _ h => h⟩ 2 rfl rfl rfl rfl hl.1 rfl (Nat.le_of_ble_eq_true rfl) dX2_level_14 ⟨Nat.le_refl _, Nat.le_refl _⟩ (fun v7 z6 H locs hP hS hf => ?_)
    exact W_iret (wHA cI cJ a τ) hx hb hr hlk hP hS hAe hf dX2_level_17
def fX2_apartIfPut (N : Nat) (σ : St) (p1 : Int32) (p2 : Int32) (p3 : Int32) : Option (Int32 × St) :=
    by_ (fX0_copy N (sb [7, 8, 9, 10, 11, 12, 1, 2, 3, 4, 5, 6] σ)) (fun uq => pb [7, 8, 9, 10, 11, 12, 1, 2, 3, 4, 5, 6] uq σ) (fun z1 =>
    bx (fX0_put N (sb [7, 8, 9, 10, 11, 12] z1) p1 p2) (fun uq => pb [7, 8, 9, 10, 11, 12] uq z1) (fun v3 z2 =>
    bo (fX0_apartAfter N (sb [7, 8, 9, 10, 11, 12] z2) p3) (fun v4 =>
    some (v4, z2))))
abbrev rmX2_apartIfPut : Room := { frames := 5, cells := 0, slots := 0, locals := 116 }
theorem qX2_apartIfPut : yX2_apartIfPut.cls = RX2 ∧ yX2_apartIfPut.cls ≠ "java/lang/invoke/MethodHandle" ∧ yX2_apartIfPut.cls ≠ "java/lang/invoke/VarHandle" ∧ (parseMethodDescriptor yX2_apartIfPut.desc).map (fun d => d.parameters.length) = some 3 := by decide +kernel
set_option maxHeartbeats 400000 in
set_option maxRecDepth 100000 in
theorem mX2_apartIfPut (l : Launch) (D : va_G) (cI cJ : ClassId) (a : Nat → Nat) (sz N : Nat) (τ : LSt) (σ : St) (p1 : Int32) (p2 : Int32) (p3 : Int32) (r : (Int32 × St)) (hf : fX2_apartIfPut N σ p1 p2 p3 = some r) : Met l yX2_apartIfPut wsX2_apartIfPut rmX2_apartIfPut (WPre ([.ref (a 0), .int p1, .int p2, .int p3] : List Value) sz D (tyIJ cI cJ) (wHA cI cJ a τ σ)) (WQi sz D (wHA cI cJ a τ σ) (wHA cI cJ a τ (r.2)) r.1) 0 0 (va_A (wHA cI cJ a τ σ) sz) := by
  refine W_start (cc := cX2_apartIfPut) (maxL := 4) (ret := (some .int)) (by decide) rfl (Nat.le_of_ble_eq_true rfl) (fun p e s m below meth c ls A hx hb hr hml hown hts hlk hP hK hS hA hD0 hAe hl => ?_)
  have hD : ∀ z, va_D A ((wHA cI cJ a τ) z) := fun z => hD0.ad rfl
  have hown : s.vm.findClass RX2 = some m.cls := hown
  have hl : lv_has ls 4 [(0, .ref (a 0)), (1, .int p1), (2, .int p2), (3, .int p3)] := hl
  have ln1 := hts (Cond.fieldLink RX2 16 "HoistsAreShared" "mind" "LHoistsAreShared$Hoist;") (List.mem_of_getElem? (i := 1) rfl)
  have inX2 : ∀ w ∈ u_ws RX2 TX2 14, w ∈ wsX2_apartIfPut := fun _ h => List.mem_cons_of_mem _ (List.mem_append_left _ (List.mem_append_right _ h))
  have ln3 := hts (Cond.fieldLink RX2 10 "HoistsAreShared" "now" "LHoistsAreShared$Hoist;") (List.mem_of_getElem? (i := 2) rfl)
  unfold fX2_apartIfPut at hf
  refine lv_aload_n hx hb dX2_apartIfPut_0 rfl (lv_at hl 0 rfl) ?_
  refine va_get (D := D) (ci := 2) (v := .ref (a 7)) (C := RX2) (T := TX2) (N := 14) hx hb hts inX2 hown hK hP 0 rfl rfl 1 (by decide) ln1 (fun _ h9 => h9) rfl dX2_apartIfPut_1 ?_
  refine lv_aload_n hx hb dX2_apartIfPut_4 rfl (lv_at hl 0 rfl) ?_
  refine va_get (D := D) (ci := 2) (v := .ref (a 1)) (C := RX2) (T := TX2) (N := 14) hx hb hts inX2 hown hK hP 0 rfl rfl 0 (by decide) ln3 (fun _ h9 => h9) rfl dX2_apartIfPut_5 ?_
  refine d_callVv (As := [.ref ((sb [7, 8, 9, 10, 11, 12, 1, 2, 3, 4, 5, 6] a) 6)]) (rest := []) (w := (wHA cI cJ a τ)) (wc := (wHo2 cI (sb [7, 8, 9, 10, 11, 12, 1, 2, 3, 4, 5, 6] a))) (put := (fun uq => pb [7, 8, 9, 10, 11, 12, 1, 2, 3, 4, 5, 6] uq σ)) (σ := σ) (τ0 := (sb [7, 8, 9, 10, 11, 12, 1, 2, 3, 4, 5, 6] σ)) ⟨hx, hb, hml, hown, hts⟩ hf (fun zq hq => mX0_copy l D cI cJ (sb [7, 8, 9, 10, 11, 12, 1, 2, 3, 4, 5, 6] a) s.heap.size N (sb [7, 8, 9, 10, 11, 12, 1, 2, 3, 4, 5, 6] σ) zq hq) (cwV 1 hts gX2_apartIfPut_X0_copy rfl rfl rfl qX0_copy ⟨Nat.le_of_ble_eq_true rfl, Nat.le_of_ble_eq_true rfl⟩) hK hP hD hS hA (cmb_HA_Ho2_7_8_9_10_11_12_1_2_3_4_5_6 D cI cJ a τ σ hP (hD _)) 0 rfl rfl rfl rfl hl.1 rfl (Nat.le_of_ble_eq_true rfl) dX2_apartIfPut_8 ⟨Nat.le_refl _, Nat.le_refl _⟩ (fun z1 H locs hP hS hf => ?_)
  refine lv_aload_n hx hb dX2_apartIfPut_11 rfl (lv_at hl 0 rfl) ?_
  refine va_get (D := D) (ci := 2) (v := .ref (a 7)) (C := RX2) (T := TX2) (N := 14) hx hb hts inX2 hown hK hP 0 rfl rfl 1 (by decide) ln1 (fun _ h9 => h9) rfl dX2_apartIfPut_12 ?_
  refine lv_iload_n hx hb dX2_apartIfPut_15 rfl (lv_at hl 1 rfl) ?_
  refine lv_iload_n hx hb dX2_apartIfPut_16 rfl (lv_at hl 2 rfl) ?_
  refine d_callV (As := [.int p1, .int p2]) (rest := []) (w := (wHA cI cJ a τ)) (wc := (wHo cI (sb [7, 8, 9, 10, 11, 12] a))) (put := (fun uq => pb [7, 8, 9, 10, 11, 12] uq z1)) (σ := z1) (τ0 := (sb [7, 8, 9, 10, 11, 12] z1)) ⟨hx, hb, hml, hown, hts⟩ hf (fun vq zq hq => mX0_put l D cI cJ (sb [7, 8, 9, 10, 11, 12] a) H.size N (sb [7, 8, 9, 10, 11, 12] z1) p1 p2 (vq, zq) hq) (cwV 2 hts gX2_apartIfPut_X0_put rfl rfl rfl qX0_put ⟨Nat.le_of_ble_eq_true rfl, Nat.le_of_ble_eq_true rfl⟩) hK hP hD hS hA (cmb_HA_Ho_7_8_9_10_11_12 D cI cJ a τ z1 hP (hD _)) 0 rfl rfl rfl rfl hl.1 rfl (Nat.le_of_ble_eq_true rfl) dX2_apartIfPut_17 ⟨Nat.le_refl _, Nat.le_refl _⟩ (fun v3 z2 H locs hP hS hf => ?_)
  refine lv_pop hx hb dX2_apartIfPut_20 rfl ?_
  refine lv_aload_n hx hb dX2_apartIfPut_21 rfl (lv_at hl 0 rfl) ?_
  refine va_get (D := D) (ci := 2) (v := .ref (a 7)) (C := RX2) (T := TX2) (N := 14) hx hb hts inX2 hown hK hP 0 rfl rfl 1 (by decide) ln1 (fun _ h9 => h9) rfl dX2_apartIfPut_22 ?_
  refine lv_iload_n hx hb dX2_apartIfPut_25 rfl (lv_at hl 3 rfl) ?_
  refine c_callV (As := [.int p3]) (rest := []) ⟨hx, hb, hml, hown, hts⟩ hf (fun vq hq => mX0_apartAfter l D cI cJ (sb [7, 8, 9, 10, 11, 12] a) H.size N (sb [7, 8, 9, 10, 11, 12] z2) p3 vq hq) (cwV 1 hts gX2_apartIfPut_X0_apartAfter rfl rfl rfl qX0_apartAfter ⟨Nat.le_of_ble_eq_true rfl, Nat.le_of_ble_eq_true rfl⟩) hK hP hS hA (cmr_HA_Ho_7_8_9_10_11_12 D cI cJ a τ z2 hP) 0 rfl rfl rfl rfl hl.1 rfl (Nat.le_of_ble_eq_true rfl) dX2_apartIfPut_26 ⟨Nat.le_refl _, Nat.le_refl _⟩ (fun v4 H locs hP hS hf => ?_)
  exact W_iret (wHA cI cJ a τ) hx hb hr hlk hP hS hAe hf dX2_apartIfPut_29
def fX2_take_L82 (N : Nat) (k34 : St → Int32 → Int32 → Int32 → Int32 → Option (Int32 × St)) (z : St) (x1 : Int32) (x3 : Int32) (x4 : Int32) (x5 : Int32) : Option (Int32 × St) :=
    lt_ (x5 + (1 : Int32) : Int32) (fun v4 =>
    k34 z x1 x3 x4 v4)
def fX2_take_L34 (N : Nat)  : Nat → St → Int32 → Int32 → Int32 → Int32 → Option (Int32 × St)
  | 0, _, _, _, _, _ => none
  | n + 1, z, x1, x3, x4, x5 =>
    if (z 1 3) ≤ x5 then some (x4, z)
    else bo (fX0_placeOf N (sb [1, 2, 3, 4, 5, 6] z) x5) (fun v3 =>
    if v3 = (2 : Int32) then fX2_take_L82 N (fX2_take_L34 N n) z x1 x3 x4 x5
    else bx (fX2_apartIfPut N z x5 (2 : Int32) x1) (fun uq => uq) (fun v6 z5 =>
    if x3 ≤ v6 then fX2_take_L82 N (fX2_take_L34 N n) z5 x1 x3 x4 x5
    else fX2_take_L82 N (fX2_take_L34 N n) z5 x1 v6 x5 x5))
def fX2_take (N : Nat) (σ : St) (p1 : Int32) : Option (Int32 × St) :=
    bo (fX2_faultOf N p1 (0 : Int32) (30 : Int32)) (fun v1 =>
    if v1 = 0 then bo (fX0_apartAfter N (sb [1, 2, 3, 4, 5, 6] σ) p1) (fun v2 =>
    fX2_take_L34 N  N σ p1 v2 (-9 : Int32) (0 : Int32))
    else bx (fX2_refuse N σ v1) (fun uq => uq) (fun v8 z7 =>
    some (v8, z7)))
abbrev rmX2_take : Room := { frames := 6, cells := 0, slots := 0, locals := 139 }
theorem qX2_take : yX2_take.cls = RX2 ∧ yX2_take.cls ≠ "java/lang/invoke/MethodHandle" ∧ yX2_take.cls ≠ "java/lang/invoke/VarHandle" ∧ (parseMethodDescriptor yX2_take.desc).map (fun d => d.parameters.length) = some 1 := by decide +kernel
set_option maxHeartbeats 400000 in
set_option maxRecDepth 100000 in
theorem mX2_take (l : Launch) (D : va_G) (cI cJ : ClassId) (a : Nat → Nat) (sz N : Nat) (τ : LSt) (σ : St) (p1 : Int32) (r : (Int32 × St)) (hf : fX2_take N σ p1 = some r) : Met l yX2_take wsX2_take rmX2_take (WPre ([.ref (a 0), .int p1] : List Value) sz D (tyIJ cI cJ) (wHA cI cJ a τ σ)) (WQi sz D (wHA cI cJ a τ σ) (wHA cI cJ a τ (r.2)) r.1) 0 0 (va_A (wHA cI cJ a τ σ) sz) := by
  refine W_start (cc := cX2_take) (maxL := 7) (ret := (some .int)) (by decide) rfl (Nat.le_of_ble_eq_true rfl) (fun p e s m below meth c ls A hx hb hr hml hown hts hlk hP hK hS hA hD0 hAe hl => ?_)
  have hD : ∀ z, va_D A ((wHA cI cJ a τ) z) := fun z => hD0.ad rfl
  have hown : s.vm.findClass RX2 = some m.cls := hown
  have hl : lv_has ls 7 [(0, .ref (a 0)), (1, .int p1)] := hl
  have ln1 := hts (Cond.fieldLink RX2 10 "HoistsAreShared" "now" "LHoistsAreShared$Hoist;") (List.mem_of_getElem? (i := 1) rfl)
  have inX2 : ∀ w ∈ u_ws RX2 TX2 14, w ∈ wsX2_take := fun _ h => List.mem_cons_of_mem _ (List.mem_append_left _ (List.mem_append_right _ h))
  have ln3 := hts (Cond.fieldLink RX2 196 "HoistsAreShared$Hoist" "things" "I") (List.mem_of_getElem? (i := 2) rfl)
  have inX0 : ∀ w ∈ u_ws RX0 TX0 9, w ∈ wsX2_take := fun _ h => List.mem_cons_of_mem _ (List.mem_append_right _ h)
  have b82 : ∀ (k34 : St → Int32 → Int32 → Int32 → Int32 → Option (Int32 × St)) (hk34 : (∀ (z : St) (x1 : Int32) (x3 : Int32) (x4 : Int32) (x5 : Int32) (H : Heap) (locs : List Loc) (ls : Array Slot), va_P D vwCl (wHA cI cJ a τ z) H → va_S A s.heap H locs → lv_has ls 7 [(0, .ref (a 0)), (1, .int x1), (3, .int x3), (4, .int x4), (5, .int x5)] → k34 z x1 x3 x4 x5 = some r → W p l e rmX2_take s m ([.ref (a 0), .int p1] : List Value).toArray below meth c H locs 0 0 (MQ below (WQi sz D (wHA cI cJ a τ σ) (wHA cI cJ a τ (r.2)) r.1) ([.ref (a 0), .int p1] : List Value).toArray s 0 0 A) (F0 m 34 ls []))) (z : St) (x1 : Int32) (x3 : Int32) (x4 : Int32) (x5 : Int32) (H : Heap) (locs : List Loc) (ls : Array Slot), va_P D vwCl (wHA cI cJ a τ z) H → va_S A s.heap H locs → lv_has ls 7 [(0, .ref (a 0)), (1, .int x1), (3, .int x3), (4, .int x4), (5, .int x5)] → fX2_take_L82 N k34 z x1 x3 x4 x5 = some r → W p l e rmX2_take s m ([.ref (a 0), .int p1] : List Value).toArray below meth c H locs 0 0 (MQ below (WQi sz D (wHA cI cJ a τ σ) (wHA cI cJ a τ (r.2)) r.1) ([.ref (a 0), .int p1] : List Value).toArray s 0 0 A) (F0 m 82 ls []) := by
    intro k34 hk34 z x1 x3 x4 x5 H locs ls hP hS hl hf
    unfold fX2_take_L82 at hf
    refine k_iinc (d := (1 : Int32)) (lv' := fun v4 => [(5, .int v4), (0, .ref (a 0)), (1, .int x1), (3, .int x3), (4, .int x4)]) hx hb dX2_take_82 hl (k := 4) rfl (by decide) (by decide) (fun _ => rfl) hf (fun v4 ls hl hf => ?_)
    refine lv_goto (tgt := 34) hx hb dX2_take_85 (by decide) ?_
    exact hk34 z x1 x3 x4 v4 H locs ls hP hS (lv_sub hl [1, 2, 3, 4, 0] rfl) hf
  have b34 : ∀  (n : Nat) (z : St) (x1 : Int32) (x3 : Int32) (x4 : Int32) (x5 : Int32) (H : Heap) (locs : List Loc) (ls : Array Slot), va_P D vwCl (wHA cI cJ a τ z) H → va_S A s.heap H locs → lv_has ls 7 [(0, .ref (a 0)), (1, .int x1), (3, .int x3), (4, .int x4), (5, .int x5)] → fX2_take_L34 N n z x1 x3 x4 x5 = some r → W p l e rmX2_take s m ([.ref (a 0), .int p1] : List Value).toArray below meth c H locs 0 0 (MQ below (WQi sz D (wHA cI cJ a τ σ) (wHA cI cJ a τ (r.2)) r.1) ([.ref (a 0), .int p1] : List Value).toArray s 0 0 A) (F0 m 34 ls []) := by
    intro n
    induction n with
    | zero => intro z x1 x3 x4 x5 H locs ls hP hS hl hf; cases hf
    | succ n ih =>
      intro z x1 x3 x4 x5 H locs ls hP hS hl hf
      rw [fX2_take_L34] at hf
      refine lv_iload hx hb dX2_take_34 (lv_at hl 4 rfl) ?_
      refine lv_aload_n hx hb dX2_take_36 rfl (lv_at hl 0 rfl) ?_
      refine va_get (D := D) (ci := 2) (v := .ref (a 1)) (C := RX2) (T := TX2) (N := 14) hx hb hts inX2 hown hK hP 0 rfl rfl 0 (by decide) ln1 (fun _ h9 => h9) rfl dX2_take_37 ?_
      refine va_get (D := D) (ci := 0) (v := .int (z 1 3)) (C := RX0) (T := TX0) (N := 9) hx hb hts inX0 hown hK hP 1 rfl rfl 3 (by decide) ln3 (fun _ h9 => h9) rfl dX2_take_40 ?_
      refine k_icmp_ge (tgt := 88) hx hb dX2_take_43 (by decide) hf (fun hf => ?_) (fun hf => ?_)
      · refine lv_iload hx hb dX2_take_88 (lv_at hl 3 rfl) ?_
        exact W_iret (wHA cI cJ a τ) hx hb hr hlk hP hS hAe hf dX2_take_90
      · refine lv_aload_n hx hb dX2_take_46 rfl (lv_at hl 0 rfl) ?_
        refine va_get (D := D) (ci := 2) (v := .ref (a 1)) (C := RX2) (T := TX2) (N := 14) hx hb hts inX2 hown hK hP 0 rfl rfl 0 (by decide) ln1 (fun _ h9 => h9) rfl dX2_take_47 ?_
        refine lv_iload hx hb dX2_take_50 (lv_at hl 4 rfl) ?_
        refine c_callV (As := [.int x5]) (rest := []) ⟨hx, hb, hml, hown, hts⟩ hf (fun vq hq => mX0_placeOf l D cI cJ (sb [1, 2, 3, 4, 5, 6] a) H.size N (sb [1, 2, 3, 4, 5, 6] z) x5 vq hq) (cwV 1 hts gX2_take_X0_placeOf rfl rfl rfl qX0_placeOf ⟨Nat.le_of_ble_eq_true rfl, Nat.le_of_ble_eq_true rfl⟩) hK hP hS hA (cmr_HA_Ho_1_2_3_4_5_6 D cI cJ a τ z hP) 0 rfl rfl rfl rfl hl.1 rfl (Nat.le_of_ble_eq_true rfl) dX2_take_52 ⟨Nat.le_refl _, Nat.le_refl _⟩ (fun v3 H locs hP hS hf => ?_)
        refine lv_iconst (v := (2 : Int32)) hx hb dX2_take_55 (by decide) ?_
        refine k_icmp_eq (tgt := 82) hx hb dX2_take_56 (by decide) hf (fun hf => ?_) (fun hf => ?_)
        · exact b82 (fX2_take_L34 N n) ih z x1 x3 x4 x5 H locs ls hP hS (lv_sub hl [0, 1, 2, 3, 4] rfl) hf
        · refine lv_aload_n hx hb dX2_take_59 rfl (lv_at hl 0 rfl) ?_
          refine lv_iload hx hb dX2_take_60 (lv_at hl 4 rfl) ?_
          refine lv_iconst (v := (2 : Int32)) hx hb dX2_take_62 (by decide) ?_
          refine lv_iload_n hx hb dX2_take_63 rfl (lv_at hl 1 rfl) ?_
          refine d_callV (As := [.int x5, .int (2 : Int32), .int x1]) (rest := []) (w := (wHA cI cJ a τ)) (wc := (wHA cI cJ a τ)) (put := (fun uq => uq)) (σ := z) (τ0 := z) ⟨hx, hb, hml, hown, hts⟩ hf (fun vq zq hq => mX2_apartIfPut l D cI cJ a H.size N τ z x5 (2 : Int32) x1 (vq, zq) hq) (cwV 3 hts gX2_take_X2_apartIfPut rfl rfl rfl qX2_apartIfPut ⟨Nat.le_of_ble_eq_true rfl, Nat.le_of_ble_eq_true rfl⟩) hK hP hD hS hA ⟨hP, hD _, fun _ _ _ h => h⟩ 2 rfl rfl rfl rfl hl.1 rfl (Nat.le_of_ble_eq_true rfl) dX2_take_64 ⟨Nat.le_refl _, Nat.le_refl _⟩ (fun v6 z5 H locs hP hS hf => ?_)
          refine lv_istore (lv' := [(6, .int v6), (0, .ref (a 0)), (1, .int x1), (3, .int x3), (4, .int x4), (5, .int x5)]) hx hb dX2_take_67 hl (by decide) rfl (fun ls hl => ?_)
          refine lv_iload hx hb dX2_take_69 (lv_at hl 0 rfl) ?_
          refine lv_iload_n hx hb dX2_take_71 rfl (lv_at hl 3 rfl) ?_
          refine k_icmp_ge (tgt := 82) hx hb dX2_take_72 (by decide) hf (fun hf => ?_) (fun hf => ?_)
          · exact b82 (fX2_take_L34 N n) ih z5 x1 x3 x4 x5 H locs ls hP hS (lv_sub hl [1, 2, 3, 4, 5] rfl) hf
          · refine lv_iload hx hb dX2_take_75 (lv_at hl 0 rfl) ?_
            refine lv_istore_n (lv' := [(3, .int v6), (6, .int v6), (0, .ref (a 0)), (1, .int x1), (4, .int x4), (5, .int x5)]) hx hb dX2_take_77 rfl hl (by decide) rfl (fun ls hl => ?_)
            refine lv_iload hx hb dX2_take_78 (lv_at hl 5 rfl) ?_
            refine lv_istore (lv' := [(4, .int x5), (3, .int v6), (6, .int v6), (0, .ref (a 0)), (1, .int x1), (5, .int x5)]) hx hb dX2_take_80 hl (by decide) rfl (fun ls hl => ?_)
            exact b82 (fX2_take_L34 N n) ih z5 x1 v6 x5 x5 H locs ls hP hS (lv_sub hl [3, 4, 1, 0, 5] rfl) hf
  unfold fX2_take at hf
  refine lv_iload_n hx hb dX2_take_0 rfl (lv_at hl 1 rfl) ?_
  refine lv_iconst (v := (0 : Int32)) hx hb dX2_take_1 (by decide) ?_
  refine lv_bipush (v := (30 : Int32)) hx hb dX2_take_2 (by decide) ?_
  refine c_callS (As := [.int p1, .int (0 : Int32), .int (30 : Int32)]) (rest := []) ⟨hx, hb, hml, hown, hts⟩ hf (fun vq hq => mX2_faultOf l D cI cJ s.heap.size N p1 (0 : Int32) (30 : Int32) vq hq) (va_cwS 3 hts gX2_take_X2_faultOf rfl rfl rfl qX2_faultOf ⟨Nat.le_of_ble_eq_true rfl, Nat.le_of_ble_eq_true rfl⟩) hK hP hS hA va_P_nil rfl hl.1 rfl (Nat.le_of_ble_eq_true rfl) dX2_take_4 ⟨Nat.le_refl _, Nat.le_refl _⟩ (fun v1 H locs hP hS hf => ?_)
  refine lv_istore_n (lv' := [(2, .int v1), (0, .ref (a 0)), (1, .int p1)]) hx hb dX2_take_7 rfl hl (by decide) rfl (fun ls hl => ?_)
  refine lv_iload_n hx hb dX2_take_8 rfl (lv_at hl 0 rfl) ?_
  refine k_if_eq (tgt := 18) hx hb dX2_take_9 (by decide) hf (fun hf => ?_) (fun hf => ?_)
  · refine lv_aload_n hx hb dX2_take_18 rfl (lv_at hl 1 rfl) ?_
    refine va_get (D := D) (ci := 2) (v := .ref (a 1)) (C := RX2) (T := TX2) (N := 14) hx hb hts inX2 hown hK hP 0 rfl rfl 0 (by decide) ln1 (fun _ h9 => h9) rfl dX2_take_19 ?_
    refine lv_iload_n hx hb dX2_take_22 rfl (lv_at hl 2 rfl) ?_
    refine c_callV (As := [.int p1]) (rest := []) ⟨hx, hb, hml, hown, hts⟩ hf (fun vq hq => mX0_apartAfter l D cI cJ (sb [1, 2, 3, 4, 5, 6] a) H.size N (sb [1, 2, 3, 4, 5, 6] σ) p1 vq hq) (cwV 1 hts gX2_take_X0_apartAfter rfl rfl rfl qX0_apartAfter ⟨Nat.le_of_ble_eq_true rfl, Nat.le_of_ble_eq_true rfl⟩) hK hP hS hA (cmr_HA_Ho_1_2_3_4_5_6 D cI cJ a τ σ hP) 0 rfl rfl rfl rfl hl.1 rfl (Nat.le_of_ble_eq_true rfl) dX2_take_23 ⟨Nat.le_refl _, Nat.le_refl _⟩ (fun v2 H locs hP hS hf => ?_)
    refine lv_istore_n (lv' := [(3, .int v2), (2, .int v1), (0, .ref (a 0)), (1, .int p1)]) hx hb dX2_take_26 rfl hl (by decide) rfl (fun ls hl => ?_)
    refine lv_bipush (v := (-9 : Int32)) hx hb dX2_take_27 (by decide) ?_
    refine lv_istore (lv' := [(4, .int (-9 : Int32)), (3, .int v2), (2, .int v1), (0, .ref (a 0)), (1, .int p1)]) hx hb dX2_take_29 hl (by decide) rfl (fun ls hl => ?_)
    refine lv_iconst (v := (0 : Int32)) hx hb dX2_take_31 (by decide) ?_
    refine lv_istore (lv' := [(5, .int (0 : Int32)), (4, .int (-9 : Int32)), (3, .int v2), (2, .int v1), (0, .ref (a 0)), (1, .int p1)]) hx hb dX2_take_32 hl (by decide) rfl (fun ls hl => ?_)
    exact b34  N σ p1 v2 (-9 : Int32) (0 : Int32) H locs ls hP hS (lv_sub hl [4, 5, 2, 1, 0] rfl) hf
  · refine lv_aload_n hx hb dX2_take_12 rfl (lv_at hl 1 rfl) ?_
    refine lv_iload_n hx hb dX2_take_13 rfl (lv_at hl 0 rfl) ?_
    refine d_callV (As := [.int v1]) (rest := []) (w := (wHA cI cJ a τ)) (wc := (wHA cI cJ a τ)) (put := (fun uq => uq)) (σ := σ) (τ0 := σ) ⟨hx, hb, hml, hown, hts⟩ hf (fun vq zq hq => mX2_refuse l D cI cJ a H.size N τ σ v1 (vq, zq) hq) (cwV 1 hts gX2_take_X2_refuse rfl rfl rfl qX2_refuse ⟨Nat.le_of_ble_eq_true rfl, Nat.le_of_ble_eq_true rfl⟩) hK hP hD hS hA ⟨hP, hD _, fun _ _ _ h => h⟩ 2 rfl rfl rfl rfl hl.1 rfl (Nat.le_of_ble_eq_true rfl) dX2_take_14 ⟨Nat.le_refl _, Nat.le_refl _⟩ (fun v8 z7 H locs hP hS hf => ?_)
    exact W_iret (wHA cI cJ a τ) hx hb hr hlk hP hS hAe hf dX2_take_17
def fX2_hang_L104 (N : Nat) (k34 : St → Int32 → Int32 → Int32 → Int32 → Option (Int32 × St)) (z : St) (x1 : Int32) (x3 : Int32) (x4 : Int32) (x5 : Int32) : Option (Int32 × St) :=
    lt_ (x5 + (1 : Int32) : Int32) (fun v4 =>
    k34 z x1 x3 x4 v4)
def fX2_hang_L98 (N : Nat) (k34 : St → Int32 → Int32 → Int32 → Int32 → Option (Int32 × St)) (k62 : St → Int32 → Int32 → Int32 → Int32 → Int32 → Option (Int32 × St)) (z : St) (x1 : Int32) (x3 : Int32) (x4 : Int32) (x5 : Int32) (x6 : Int32) : Option (Int32 × St) :=
    lt_ (x6 + (1 : Int32) : Int32) (fun v7 =>
    k62 z x1 x3 x4 x5 v7)
def fX2_hang_L62 (N : Nat) (k34 : St → Int32 → Int32 → Int32 → Int32 → Option (Int32 × St)) : Nat → St → Int32 → Int32 → Int32 → Int32 → Int32 → Option (Int32 × St)
  | 0, _, _, _, _, _, _ => none
  | n + 1, z, x1, x3, x4, x5, x6 =>
    if (2 : Int32) ≤ x6 then fX2_hang_L104 N k34 z x1 x3 x4 x5
    else bx (fX2_apartIfPut N z x5 x6 x1) (fun uq => uq) (fun v6 z5 =>
    if x3 ≤ v6 then fX2_hang_L98 N k34 (fX2_hang_L62 N k34 n) z5 x1 x3 x4 x5 x6
    else lt_ ((((10 : Int32) * x5) + x6) : Int32) (fun v8 =>
    fX2_hang_L98 N k34 (fX2_hang_L62 N k34 n) z5 x1 v6 v8 x5 x6))
def fX2_hang_L34 (N : Nat)  : Nat → St → Int32 → Int32 → Int32 → Int32 → Option (Int32 × St)
  | 0, _, _, _, _, _ => none
  | n + 1, z, x1, x3, x4, x5 =>
    if (z 1 3) ≤ x5 then some (x4, z)
    else bo (fX0_placeOf N (sb [1, 2, 3, 4, 5, 6] z) x5) (fun v3 =>
    if v3 = (2 : Int32) then fX2_hang_L62 N (fX2_hang_L34 N n) N z x1 x3 x4 x5 (0 : Int32)
    else fX2_hang_L104 N (fX2_hang_L34 N n) z x1 x3 x4 x5)
def fX2_hang (N : Nat) (σ : St) (p1 : Int32) : Option (Int32 × St) :=
    bo (fX2_faultOf N p1 (0 : Int32) (30 : Int32)) (fun v1 =>
    if v1 = 0 then bo (fX0_apartAfter N (sb [1, 2, 3, 4, 5, 6] σ) p1) (fun v2 =>
    fX2_hang_L34 N  N σ p1 v2 (-9 : Int32) (0 : Int32))
    else bx (fX2_refuse N σ v1) (fun uq => uq) (fun v10 z9 =>
    some (v10, z9)))
abbrev rmX2_hang : Room := { frames := 6, cells := 0, slots := 0, locals := 139 }
theorem qX2_hang : yX2_hang.cls = RX2 ∧ yX2_hang.cls ≠ "java/lang/invoke/MethodHandle" ∧ yX2_hang.cls ≠ "java/lang/invoke/VarHandle" ∧ (parseMethodDescriptor yX2_hang.desc).map (fun d => d.parameters.length) = some 1 := by decide +kernel
set_option maxHeartbeats 400000 in
set_option maxRecDepth 100000 in
theorem mX2_hang (l : Launch) (D : va_G) (cI cJ : ClassId) (a : Nat → Nat) (sz N : Nat) (τ : LSt) (σ : St) (p1 : Int32) (r : (Int32 × St)) (hf : fX2_hang N σ p1 = some r) : Met l yX2_hang wsX2_hang rmX2_hang (WPre ([.ref (a 0), .int p1] : List Value) sz D (tyIJ cI cJ) (wHA cI cJ a τ σ)) (WQi sz D (wHA cI cJ a τ σ) (wHA cI cJ a τ (r.2)) r.1) 0 0 (va_A (wHA cI cJ a τ σ) sz) := by
  refine W_start (cc := cX2_hang) (maxL := 8) (ret := (some .int)) (by decide) rfl (Nat.le_of_ble_eq_true rfl) (fun p e s m below meth c ls A hx hb hr hml hown hts hlk hP hK hS hA hD0 hAe hl => ?_)
  have hD : ∀ z, va_D A ((wHA cI cJ a τ) z) := fun z => hD0.ad rfl
  have hown : s.vm.findClass RX2 = some m.cls := hown
  have hl : lv_has ls 8 [(0, .ref (a 0)), (1, .int p1)] := hl
  have ln1 := hts (Cond.fieldLink RX2 10 "HoistsAreShared" "now" "LHoistsAreShared$Hoist;") (List.mem_of_getElem? (i := 1) rfl)
  have inX2 : ∀ w ∈ u_ws RX2 TX2 14, w ∈ wsX2_hang := fun _ h => List.mem_cons_of_mem _ (List.mem_append_left _ (List.mem_append_right _ h))
  have ln3 := hts (Cond.fieldLink RX2 196 "HoistsAreShared$Hoist" "things" "I") (List.mem_of_getElem? (i := 2) rfl)
  have inX0 : ∀ w ∈ u_ws RX0 TX0 9, w ∈ wsX2_hang := fun _ h => List.mem_cons_of_mem _ (List.mem_append_right _ h)
  have b104 : ∀ (k34 : St → Int32 → Int32 → Int32 → Int32 → Option (Int32 × St)) (hk34 : (∀ (z : St) (x1 : Int32) (x3 : Int32) (x4 : Int32) (x5 : Int32) (H : Heap) (locs : List Loc) (ls : Array Slot), va_P D vwCl (wHA cI cJ a τ z) H → va_S A s.heap H locs → lv_has ls 8 [(0, .ref (a 0)), (1, .int x1), (3, .int x3), (4, .int x4), (5, .int x5)] → k34 z x1 x3 x4 x5 = some r → W p l e rmX2_hang s m ([.ref (a 0), .int p1] : List Value).toArray below meth c H locs 0 0 (MQ below (WQi sz D (wHA cI cJ a τ σ) (wHA cI cJ a τ (r.2)) r.1) ([.ref (a 0), .int p1] : List Value).toArray s 0 0 A) (F0 m 34 ls []))) (z : St) (x1 : Int32) (x3 : Int32) (x4 : Int32) (x5 : Int32) (H : Heap) (locs : List Loc) (ls : Array Slot), va_P D vwCl (wHA cI cJ a τ z) H → va_S A s.heap H locs → lv_has ls 8 [(0, .ref (a 0)), (1, .int x1), (3, .int x3), (4, .int x4), (5, .int x5)] → fX2_hang_L104 N k34 z x1 x3 x4 x5 = some r → W p l e rmX2_hang s m ([.ref (a 0), .int p1] : List Value).toArray below meth c H locs 0 0 (MQ below (WQi sz D (wHA cI cJ a τ σ) (wHA cI cJ a τ (r.2)) r.1) ([.ref (a 0), .int p1] : List Value).toArray s 0 0 A) (F0 m 104 ls []) := by
    intro k34 hk34 z x1 x3 x4 x5 H locs ls hP hS hl hf
    unfold fX2_hang_L104 at hf
    refine k_iinc (d := (1 : Int32)) (lv' := fun v4 => [(5, .int v4), (0, .ref (a 0)), (1, .int x1), (3, .int x3), (4, .int x4)]) hx hb dX2_hang_104 hl (k := 4) rfl (by decide) (by decide) (fun _ => rfl) hf (fun v4 ls hl hf => ?_)
    refine lv_goto (tgt := 34) hx hb dX2_hang_107 (by decide) ?_
    exact hk34 z x1 x3 x4 v4 H locs ls hP hS (lv_sub hl [1, 2, 3, 4, 0] rfl) hf
  have b98 : ∀ (k34 : St → Int32 → Int32 → Int32 → Int32 → Option (Int32 × St)) (hk34 : (∀ (z : St) (x1 : Int32) (x3 : Int32) (x4 : Int32) (x5 : Int32) (H : Heap) (locs : List Loc) (ls : Array Slot), va_P D vwCl (wHA cI cJ a τ z) H → va_S A s.heap H locs → lv_has ls 8 [(0, .ref (a 0)), (1, .int x1), (3, .int x3), (4, .int x4), (5, .int x5)] → k34 z x1 x3 x4 x5 = some r → W p l e rmX2_hang s m ([.ref (a 0), .int p1] : List Value).toArray below meth c H locs 0 0 (MQ below (WQi sz D (wHA cI cJ a τ σ) (wHA cI cJ a τ (r.2)) r.1) ([.ref (a 0), .int p1] : List Value).toArray s 0 0 A) (F0 m 34 ls []))) (k62 : St → Int32 → Int32 → Int32 → Int32 → Int32 → Option (Int32 × St)) (hk62 : (∀ (z : St) (x1 : Int32) (x3 : Int32) (x4 : Int32) (x5 : Int32) (x6 : Int32) (H : Heap) (locs : List Loc) (ls : Array Slot), va_P D vwCl (wHA cI cJ a τ z) H → va_S A s.heap H locs → lv_has ls 8 [(0, .ref (a 0)), (1, .int x1), (3, .int x3), (4, .int x4), (5, .int x5), (6, .int x6)] → k62 z x1 x3 x4 x5 x6 = some r → W p l e rmX2_hang s m ([.ref (a 0), .int p1] : List Value).toArray below meth c H locs 0 0 (MQ below (WQi sz D (wHA cI cJ a τ σ) (wHA cI cJ a τ (r.2)) r.1) ([.ref (a 0), .int p1] : List Value).toArray s 0 0 A) (F0 m 62 ls []))) (z : St) (x1 : Int32) (x3 : Int32) (x4 : Int32) (x5 : Int32) (x6 : Int32) (H : Heap) (locs : List Loc) (ls : Array Slot), va_P D vwCl (wHA cI cJ a τ z) H → va_S A s.heap H locs → lv_has ls 8 [(0, .ref (a 0)), (1, .int x1), (3, .int x3), (4, .int x4), (5, .int x5), (6, .int x6)] → fX2_hang_L98 N k34 k62 z x1 x3 x4 x5 x6 = some r → W p l e rmX2_hang s m ([.ref (a 0), .int p1] : List Value).toArray below meth c H locs 0 0 (MQ below (WQi sz D (wHA cI cJ a τ σ) (wHA cI cJ a τ (r.2)) r.1) ([.ref (a 0), .int p1] : List Value).toArray s 0 0 A) (F0 m 98 ls []) := by
    intro k34 hk34 k62 hk62 z x1 x3 x4 x5 x6 H locs ls hP hS hl hf
    unfold fX2_hang_L98 at hf
    refine k_iinc (d := (1 : Int32)) (lv' := fun v7 => [(6, .int v7), (0, .ref (a 0)), (1, .int x1), (3, .int x3), (4, .int x4), (5, .int x5)]) hx hb dX2_hang_98 hl (k := 5) rfl (by decide) (by decide) (fun _ => rfl) hf (fun v7 ls hl hf => ?_)
    refine lv_goto (tgt := 62) hx hb dX2_hang_101 (by decide) ?_
    exact hk62 z x1 x3 x4 x5 v7 H locs ls hP hS (lv_sub hl [1, 2, 3, 4, 5, 0] rfl) hf
  have b62 : ∀ (k34 : St → Int32 → Int32 → Int32 → Int32 → Option (Int32 × St)) (hk34 : (∀ (z : St) (x1 : Int32) (x3 : Int32) (x4 : Int32) (x5 : Int32) (H : Heap) (locs : List Loc) (ls : Array Slot), va_P D vwCl (wHA cI cJ a τ z) H → va_S A s.heap H locs → lv_has ls 8 [(0, .ref (a 0)), (1, .int x1), (3, .int x3), (4, .int x4), (5, .int x5)] → k34 z x1 x3 x4 x5 = some r → W p l e rmX2_hang s m ([.ref (a 0), .int p1] : List Value).toArray below meth c H locs 0 0 (MQ below (WQi sz D (wHA cI cJ a τ σ) (wHA cI cJ a τ (r.2)) r.1) ([.ref (a 0), .int p1] : List Value).toArray s 0 0 A) (F0 m 34 ls []))) (n : Nat) (z : St) (x1 : Int32) (x3 : Int32) (x4 : Int32) (x5 : Int32) (x6 : Int32) (H : Heap) (locs : List Loc) (ls : Array Slot), va_P D vwCl (wHA cI cJ a τ z) H → va_S A s.heap H locs → lv_has ls 8 [(0, .ref (a 0)), (1, .int x1), (3, .int x3), (4, .int x4), (5, .int x5), (6, .int x6)] → fX2_hang_L62 N k34 n z x1 x3 x4 x5 x6 = some r → W p l e rmX2_hang s m ([.ref (a 0), .int p1] : List Value).toArray below meth c H locs 0 0 (MQ below (WQi sz D (wHA cI cJ a τ σ) (wHA cI cJ a τ (r.2)) r.1) ([.ref (a 0), .int p1] : List Value).toArray s 0 0 A) (F0 m 62 ls []) := by
    intro k34 hk34 n
    induction n with
    | zero => intro z x1 x3 x4 x5 x6 H locs ls hP hS hl hf; cases hf
    | succ n ih =>
      intro z x1 x3 x4 x5 x6 H locs ls hP hS hl hf
      rw [fX2_hang_L62] at hf
      refine lv_iload hx hb dX2_hang_62 (lv_at hl 5 rfl) ?_
      refine lv_iconst (v := (2 : Int32)) hx hb dX2_hang_64 (by decide) ?_
      refine k_icmp_ge (tgt := 104) hx hb dX2_hang_65 (by decide) hf (fun hf => ?_) (fun hf => ?_)
      · exact b104 k34 hk34 z x1 x3 x4 x5 H locs ls hP hS (lv_sub hl [0, 1, 2, 3, 4] rfl) hf
      · refine lv_aload_n hx hb dX2_hang_68 rfl (lv_at hl 0 rfl) ?_
        refine lv_iload hx hb dX2_hang_69 (lv_at hl 4 rfl) ?_
        refine lv_iload hx hb dX2_hang_71 (lv_at hl 5 rfl) ?_
        refine lv_iload_n hx hb dX2_hang_73 rfl (lv_at hl 1 rfl) ?_
        refine d_callV (As := [.int x5, .int x6, .int x1]) (rest := []) (w := (wHA cI cJ a τ)) (wc := (wHA cI cJ a τ)) (put := (fun uq => uq)) (σ := z) (τ0 := z) ⟨hx, hb, hml, hown, hts⟩ hf (fun vq zq hq => mX2_apartIfPut l D cI cJ a H.size N τ z x5 x6 x1 (vq, zq) hq) (cwV 3 hts gX2_hang_X2_apartIfPut rfl rfl rfl qX2_apartIfPut ⟨Nat.le_of_ble_eq_true rfl, Nat.le_of_ble_eq_true rfl⟩) hK hP hD hS hA ⟨hP, hD _, fun _ _ _ h => h⟩ 2 rfl rfl rfl rfl hl.1 rfl (Nat.le_of_ble_eq_true rfl) dX2_hang_74 ⟨Nat.le_refl _, Nat.le_refl _⟩ (fun v6 z5 H locs hP hS hf => ?_)
        refine lv_istore (lv' := [(7, .int v6), (0, .ref (a 0)), (1, .int x1), (3, .int x3), (4, .int x4), (5, .int x5), (6, .int x6)]) hx hb dX2_hang_77 hl (by decide) rfl (fun ls hl => ?_)
        refine lv_iload hx hb dX2_hang_79 (lv_at hl 0 rfl) ?_
        refine lv_iload_n hx hb dX2_hang_81 rfl (lv_at hl 3 rfl) ?_
        refine k_icmp_ge (tgt := 98) hx hb dX2_hang_82 (by decide) hf (fun hf => ?_) (fun hf => ?_)
        · exact b98 k34 hk34 (fX2_hang_L62 N k34 n) ih z5 x1 x3 x4 x5 x6 H locs ls hP hS (lv_sub hl [1, 2, 3, 4, 5, 6] rfl) hf
        · refine lv_iload hx hb dX2_hang_85 (lv_at hl 0 rfl) ?_
          refine lv_istore_n (lv' := [(3, .int v6), (7, .int v6), (0, .ref (a 0)), (1, .int x1), (4, .int x4), (5, .int x5), (6, .int x6)]) hx hb dX2_hang_87 rfl hl (by decide) rfl (fun ls hl => ?_)
          refine lv_bipush (v := (10 : Int32)) hx hb dX2_hang_88 (by decide) ?_
          refine lv_iload hx hb dX2_hang_90 (lv_at hl 5 rfl) ?_
          refine lv_imul hx hb dX2_hang_92 ?_
          refine lv_iload hx hb dX2_hang_93 (lv_at hl 6 rfl) ?_
          refine lv_iadd hx hb dX2_hang_95 ?_
          refine k_let hf (fun v8 hf => ?_)
          refine lv_istore (lv' := [(4, .int v8), (3, .int v6), (7, .int v6), (0, .ref (a 0)), (1, .int x1), (5, .int x5), (6, .int x6)]) hx hb dX2_hang_96 hl (by decide) rfl (fun ls hl => ?_)
          exact b98 k34 hk34 (fX2_hang_L62 N k34 n) ih z5 x1 v6 v8 x5 x6 H locs ls hP hS (lv_sub hl [3, 4, 1, 0, 5, 6] rfl) hf
  have b34 : ∀  (n : Nat) (z : St) (x1 : Int32) (x3 : Int32) (x4 : Int32) (x5 : Int32) (H : Heap) (locs : List Loc) (ls : Array Slot), va_P D vwCl (wHA cI cJ a τ z) H → va_S A s.heap H locs → lv_has ls 8 [(0, .ref (a 0)), (1, .int x1), (3, .int x3), (4, .int x4), (5, .int x5)] → fX2_hang_L34 N n z x1 x3 x4 x5 = some r → W p l e rmX2_hang s m ([.ref (a 0), .int p1] : List Value).toArray below meth c H locs 0 0 (MQ below (WQi sz D (wHA cI cJ a τ σ) (wHA cI cJ a τ (r.2)) r.1) ([.ref (a 0), .int p1] : List Value).toArray s 0 0 A) (F0 m 34 ls []) := by
    intro n
    induction n with
    | zero => intro z x1 x3 x4 x5 H locs ls hP hS hl hf; cases hf
    | succ n ih =>
      intro z x1 x3 x4 x5 H locs ls hP hS hl hf
      rw [fX2_hang_L34] at hf
      refine lv_iload hx hb dX2_hang_34 (lv_at hl 4 rfl) ?_
      refine lv_aload_n hx hb dX2_hang_36 rfl (lv_at hl 0 rfl) ?_
      refine va_get (D := D) (ci := 2) (v := .ref (a 1)) (C := RX2) (T := TX2) (N := 14) hx hb hts inX2 hown hK hP 0 rfl rfl 0 (by decide) ln1 (fun _ h9 => h9) rfl dX2_hang_37 ?_
      refine va_get (D := D) (ci := 0) (v := .int (z 1 3)) (C := RX0) (T := TX0) (N := 9) hx hb hts inX0 hown hK hP 1 rfl rfl 3 (by decide) ln3 (fun _ h9 => h9) rfl dX2_hang_40 ?_
      refine k_icmp_ge (tgt := 110) hx hb dX2_hang_43 (by decide) hf (fun hf => ?_) (fun hf => ?_)
      · refine lv_iload hx hb dX2_hang_110 (lv_at hl 3 rfl) ?_
        exact W_iret (wHA cI cJ a τ) hx hb hr hlk hP hS hAe hf dX2_hang_112
      · refine lv_aload_n hx hb dX2_hang_46 rfl (lv_at hl 0 rfl) ?_
        refine va_get (D := D) (ci := 2) (v := .ref (a 1)) (C := RX2) (T := TX2) (N := 14) hx hb hts inX2 hown hK hP 0 rfl rfl 0 (by decide) ln1 (fun _ h9 => h9) rfl dX2_hang_47 ?_
        refine lv_iload hx hb dX2_hang_50 (lv_at hl 4 rfl) ?_
        refine c_callV (As := [.int x5]) (rest := []) ⟨hx, hb, hml, hown, hts⟩ hf (fun vq hq => mX0_placeOf l D cI cJ (sb [1, 2, 3, 4, 5, 6] a) H.size N (sb [1, 2, 3, 4, 5, 6] z) x5 vq hq) (cwV 1 hts gX2_hang_X0_placeOf rfl rfl rfl qX0_placeOf ⟨Nat.le_of_ble_eq_true rfl, Nat.le_of_ble_eq_true rfl⟩) hK hP hS hA (cmr_HA_Ho_1_2_3_4_5_6 D cI cJ a τ z hP) 0 rfl rfl rfl rfl hl.1 rfl (Nat.le_of_ble_eq_true rfl) dX2_hang_52 ⟨Nat.le_refl _, Nat.le_refl _⟩ (fun v3 H locs hP hS hf => ?_)
        refine lv_iconst (v := (2 : Int32)) hx hb dX2_hang_55 (by decide) ?_
        refine k_icmp_ne (tgt := 104) hx hb dX2_hang_56 (by decide) hf (fun hf => ?_) (fun hf => ?_)
        · exact b104 (fX2_hang_L34 N n) ih z x1 x3 x4 x5 H locs ls hP hS (lv_sub hl [0, 1, 2, 3, 4] rfl) hf
        · refine lv_iconst (v := (0 : Int32)) hx hb dX2_hang_59 (by decide) ?_
          refine lv_istore (lv' := [(6, .int (0 : Int32)), (0, .ref (a 0)), (1, .int x1), (3, .int x3), (4, .int x4), (5, .int x5)]) hx hb dX2_hang_60 hl (by decide) rfl (fun ls hl => ?_)
          exact b62 (fX2_hang_L34 N n) ih N z x1 x3 x4 x5 (0 : Int32) H locs ls hP hS (lv_sub hl [1, 2, 3, 4, 5, 0] rfl) hf
  unfold fX2_hang at hf
  refine lv_iload_n hx hb dX2_hang_0 rfl (lv_at hl 1 rfl) ?_
  refine lv_iconst (v := (0 : Int32)) hx hb dX2_hang_1 (by decide) ?_
  refine lv_bipush (v := (30 : Int32)) hx hb dX2_hang_2 (by decide) ?_
  refine c_callS (As := [.int p1, .int (0 : Int32), .int (30 : Int32)]) (rest := []) ⟨hx, hb, hml, hown, hts⟩ hf (fun vq hq => mX2_faultOf l D cI cJ s.heap.size N p1 (0 : Int32) (30 : Int32) vq hq) (va_cwS 3 hts gX2_hang_X2_faultOf rfl rfl rfl qX2_faultOf ⟨Nat.le_of_ble_eq_true rfl, Nat.le_of_ble_eq_true rfl⟩) hK hP hS hA va_P_nil rfl hl.1 rfl (Nat.le_of_ble_eq_true rfl) dX2_hang_4 ⟨Nat.le_refl _, Nat.le_refl _⟩ (fun v1 H locs hP hS hf => ?_)
  refine lv_istore_n (lv' := [(2, .int v1), (0, .ref (a 0)), (1, .int p1)]) hx hb dX2_hang_7 rfl hl (by decide) rfl (fun ls hl => ?_)
  refine lv_iload_n hx hb dX2_hang_8 rfl (lv_at hl 0 rfl) ?_
  refine k_if_eq (tgt := 18) hx hb dX2_hang_9 (by decide) hf (fun hf => ?_) (fun hf => ?_)
  · refine lv_aload_n hx hb dX2_hang_18 rfl (lv_at hl 1 rfl) ?_
    refine va_get (D := D) (ci := 2) (v := .ref (a 1)) (C := RX2) (T := TX2) (N := 14) hx hb hts inX2 hown hK hP 0 rfl rfl 0 (by decide) ln1 (fun _ h9 => h9) rfl dX2_hang_19 ?_
    refine lv_iload_n hx hb dX2_hang_22 rfl (lv_at hl 2 rfl) ?_
    refine c_callV (As := [.int p1]) (rest := []) ⟨hx, hb, hml, hown, hts⟩ hf (fun vq hq => mX0_apartAfter l D cI cJ (sb [1, 2, 3, 4, 5, 6] a) H.size N (sb [1, 2, 3, 4, 5, 6] σ) p1 vq hq) (cwV 1 hts gX2_hang_X0_apartAfter rfl rfl rfl qX0_apartAfter ⟨Nat.le_of_ble_eq_true rfl, Nat.le_of_ble_eq_true rfl⟩) hK hP hS hA (cmr_HA_Ho_1_2_3_4_5_6 D cI cJ a τ σ hP) 0 rfl rfl rfl rfl hl.1 rfl (Nat.le_of_ble_eq_true rfl) dX2_hang_23 ⟨Nat.le_refl _, Nat.le_refl _⟩ (fun v2 H locs hP hS hf => ?_)
    refine lv_istore_n (lv' := [(3, .int v2), (2, .int v1), (0, .ref (a 0)), (1, .int p1)]) hx hb dX2_hang_26 rfl hl (by decide) rfl (fun ls hl => ?_)
    refine lv_bipush (v := (-9 : Int32)) hx hb dX2_hang_27 (by decide) ?_
    refine lv_istore (lv' := [(4, .int (-9 : Int32)), (3, .int v2), (2, .int v1), (0, .ref (a 0)), (1, .int p1)]) hx hb dX2_hang_29 hl (by decide) rfl (fun ls hl => ?_)
    refine lv_iconst (v := (0 : Int32)) hx hb dX2_hang_31 (by decide) ?_
    refine lv_istore (lv' := [(5, .int (0 : Int32)), (4, .int (-9 : Int32)), (3, .int v2), (2, .int v1), (0, .ref (a 0)), (1, .int p1)]) hx hb dX2_hang_32 hl (by decide) rfl (fun ls hl => ?_)
    exact b34  N σ p1 v2 (-9 : Int32) (0 : Int32) H locs ls hP hS (lv_sub hl [4, 5, 2, 1, 0] rfl) hf
  · refine lv_aload_n hx hb dX2_hang_12 rfl (lv_at hl 1 rfl) ?_
    refine lv_iload_n hx hb dX2_hang_13 rfl (lv_at hl 0 rfl) ?_
    refine d_callV (As := [.int v1]) (rest := []) (w := (wHA cI cJ a τ)) (wc := (wHA cI cJ a τ)) (put := (fun uq => uq)) (σ := σ) (τ0 := σ) ⟨hx, hb, hml, hown, hts⟩ hf (fun vq zq hq => mX2_refuse l D cI cJ a H.size N τ σ v1 (vq, zq) hq) (cwV 1 hts gX2_hang_X2_refuse rfl rfl rfl qX2_refuse ⟨Nat.le_of_ble_eq_true rfl, Nat.le_of_ble_eq_true rfl⟩) hK hP hD hS hA ⟨hP, hD _, fun _ _ _ h => h⟩ 2 rfl rfl rfl rfl hl.1 rfl (Nat.le_of_ble_eq_true rfl) dX2_hang_14 ⟨Nat.le_refl _, Nat.le_refl _⟩ (fun v10 z9 H locs hP hS hf => ?_)
    exact W_iret (wHA cI cJ a τ) hx hb hr hlk hP hS hAe hf dX2_hang_17
def fX2_reckonShifts_L87 (N : Nat) (k13 : St → Int32 → Option St) (z : St) (x1 : Int32) (y0 : Int32) (y1 : Int32) : Option St :=
    bo (wrI z 23 8 y1 y0) (fun z8 =>
    lt_ (x1 + (1 : Int32) : Int32) (fun v9 =>
    k13 z8 v9))
def fX2_reckonShifts_L13 (N : Nat)  : Nat → St → Int32 → Option St
  | 0, _, _ => none
  | n + 1, z, x1 =>
    if (z 1 3) ≤ x1 then some z
    else if (8 : Int32) ≤ x1 then some z
    else bo (fX0_placeOf N (sb [1, 2, 3, 4, 5, 6] z) x1) (fun v2 =>
    bx (fX0_put N (sb [7, 8, 9, 10, 11, 12] z) x1 v2) (fun uq => pb [7, 8, 9, 10, 11, 12] uq z) (fun v4 z3 =>
    bo (fX0_weighs N (sb [1, 2, 3, 4, 5, 6] z3) x1 (0 : Int32)) (fun v5 =>
    bo (fX0_weighs N (sb [7, 8, 9, 10, 11, 12] z3) x1 (0 : Int32)) (fun v6 =>
    lt_ ((v5 + v6) : Int32) (fun v7 =>
    if v2 = 0 then fX2_reckonShifts_L87 N (fX2_reckonShifts_L13 N n) z3 x1 (-v7) x1
    else fX2_reckonShifts_L87 N (fX2_reckonShifts_L13 N n) z3 x1 v7 x1)))))
def fX2_reckonShifts (N : Nat) (σ : St)  : Option St :=
    by_ (fX0_copy N (sb [7, 8, 9, 10, 11, 12, 1, 2, 3, 4, 5, 6] σ)) (fun uq => pb [7, 8, 9, 10, 11, 12, 1, 2, 3, 4, 5, 6] uq σ) (fun z1 =>
    fX2_reckonShifts_L13 N  N z1 (0 : Int32))
abbrev rmX2_reckonShifts : Room := { frames := 2, cells := 0, slots := 0, locals := 49 }
theorem qX2_reckonShifts : yX2_reckonShifts.cls = RX2 ∧ yX2_reckonShifts.cls ≠ "java/lang/invoke/MethodHandle" ∧ yX2_reckonShifts.cls ≠ "java/lang/invoke/VarHandle" ∧ (parseMethodDescriptor yX2_reckonShifts.desc).map (fun d => d.parameters.length) = some 0 := by decide +kernel
set_option maxHeartbeats 400000 in
set_option maxRecDepth 100000 in
theorem mX2_reckonShifts (l : Launch) (D : va_G) (cI cJ : ClassId) (a : Nat → Nat) (sz N : Nat) (τ : LSt) (σ : St)  (r : St) (hf : fX2_reckonShifts N σ = some r) : Met l yX2_reckonShifts wsX2_reckonShifts rmX2_reckonShifts (WPre ([.ref (a 0)] : List Value) sz D (tyIJ cI cJ) (wHA cI cJ a τ σ)) (WQv sz D (wHA cI cJ a τ σ) (wHA cI cJ a τ r)) 0 0 (va_A (wHA cI cJ a τ σ) sz) := by
  refine W_start (cc := cX2_reckonShifts) (maxL := 4) (ret := none) (by decide) rfl (Nat.le_of_ble_eq_true rfl) (fun p e s m below meth c ls A hx hb hr hml hown hts hlk hP hK hS hA hD0 hAe hl => ?_)
  have hD : ∀ z, va_D A ((wHA cI cJ a τ) z) := fun z => hD0.ad rfl
  have hown : s.vm.findClass RX2 = some m.cls := hown
  have hl : lv_has ls 4 [(0, .ref (a 0))] := hl
  have ln1 := hts (Cond.fieldLink RX2 16 "HoistsAreShared" "mind" "LHoistsAreShared$Hoist;") (List.mem_of_getElem? (i := 1) rfl)
  have inX2 : ∀ w ∈ u_ws RX2 TX2 14, w ∈ wsX2_reckonShifts := fun _ h => List.mem_cons_of_mem _ (List.mem_append_left _ (List.mem_append_right _ h))
  have ln3 := hts (Cond.fieldLink RX2 10 "HoistsAreShared" "now" "LHoistsAreShared$Hoist;") (List.mem_of_getElem? (i := 2) rfl)
  have ln4 := hts (Cond.fieldLink RX2 196 "HoistsAreShared$Hoist" "things" "I") (List.mem_of_getElem? (i := 3) rfl)
  have inX0 : ∀ w ∈ u_ws RX0 TX0 9, w ∈ wsX2_reckonShifts := fun _ h => List.mem_cons_of_mem _ (List.mem_append_right _ h)
  have ln6 := hts (Cond.fieldLink RX2 36 "HoistsAreShared" "shifts" "[I") (List.mem_of_getElem? (i := 4) rfl)
  have b87 : ∀ (k13 : St → Int32 → Option St) (hk13 : (∀ (z : St) (x1 : Int32) (H : Heap) (locs : List Loc) (ls : Array Slot), va_P D vwCl (wHA cI cJ a τ z) H → va_S A s.heap H locs → lv_has ls 4 [(0, .ref (a 0)), (1, .int x1)] → k13 z x1 = some r → W p l e rmX2_reckonShifts s m ([.ref (a 0)] : List Value).toArray below meth c H locs 0 0 (MQ below (WQv sz D (wHA cI cJ a τ σ) (wHA cI cJ a τ r)) ([.ref (a 0)] : List Value).toArray s 0 0 A) (F0 m 13 ls []))) (z : St) (x1 : Int32) (y0 : Int32) (y1 : Int32) (H : Heap) (locs : List Loc) (ls : Array Slot), va_P D vwCl (wHA cI cJ a τ z) H → va_S A s.heap H locs → lv_has ls 4 [(0, .ref (a 0)), (1, .int x1)] → fX2_reckonShifts_L87 N k13 z x1 y0 y1 = some r → W p l e rmX2_reckonShifts s m ([.ref (a 0)] : List Value).toArray below meth c H locs 0 0 (MQ below (WQv sz D (wHA cI cJ a τ σ) (wHA cI cJ a τ r)) ([.ref (a 0)] : List Value).toArray s 0 0 A) (F0 m 87 ls [.int y0, .int y1, .ref (a 23)]) := by
    intro k13 hk13 z x1 y0 y1 H locs ls hP hS hl hf
    unfold fX2_reckonShifts_L87 at hf
    refine k_iast (w := (wHA cI cJ a τ)) hx hb hK hP hD hS 23 0 hf rfl rfl (fun _ => rfl) dX2_reckonShifts_87 (fun z8 H locs hP hS hf => ?_)
    refine k_iinc (d := (1 : Int32)) (lv' := fun v9 => [(1, .int v9), (0, .ref (a 0))]) hx hb dX2_reckonShifts_88 hl (k := 1) rfl (by decide) (by decide) (fun _ => rfl) hf (fun v9 ls hl hf => ?_)
    refine lv_goto (tgt := 13) hx hb dX2_reckonShifts_91 (by decide) ?_
    exact hk13 z8 v9 H locs ls hP hS (lv_sub hl [1, 0] rfl) hf
  have b13 : ∀  (n : Nat) (z : St) (x1 : Int32) (H : Heap) (locs : List Loc) (ls : Array Slot), va_P D vwCl (wHA cI cJ a τ z) H → va_S A s.heap H locs → lv_has ls 4 [(0, .ref (a 0)), (1, .int x1)] → fX2_reckonShifts_L13 N n z x1 = some r → W p l e rmX2_reckonShifts s m ([.ref (a 0)] : List Value).toArray below meth c H locs 0 0 (MQ below (WQv sz D (wHA cI cJ a τ σ) (wHA cI cJ a τ r)) ([.ref (a 0)] : List Value).toArray s 0 0 A) (F0 m 13 ls []) := by
    intro n
    induction n with
    | zero => intro z x1 H locs ls hP hS hl hf; cases hf
    | succ n ih =>
      intro z x1 H locs ls hP hS hl hf
      rw [fX2_reckonShifts_L13] at hf
      refine lv_iload_n hx hb dX2_reckonShifts_13 rfl (lv_at hl 1 rfl) ?_
      refine lv_aload_n hx hb dX2_reckonShifts_14 rfl (lv_at hl 0 rfl) ?_
      refine va_get (D := D) (ci := 2) (v := .ref (a 1)) (C := RX2) (T := TX2) (N := 14) hx hb hts inX2 hown hK hP 0 rfl rfl 0 (by decide) ln3 (fun _ h9 => h9) rfl dX2_reckonShifts_15 ?_
      refine va_get (D := D) (ci := 0) (v := .int (z 1 3)) (C := RX0) (T := TX0) (N := 9) hx hb hts inX0 hown hK hP 1 rfl rfl 3 (by decide) ln4 (fun _ h9 => h9) rfl dX2_reckonShifts_18 ?_
      refine k_icmp_ge (tgt := 94) hx hb dX2_reckonShifts_21 (by decide) hf (fun hf => ?_) (fun hf => ?_)
      · exact W_vret (wHA cI cJ a τ) hx hb hr hlk hP hS hAe hf dX2_reckonShifts_94
      · refine lv_iload_n hx hb dX2_reckonShifts_24 rfl (lv_at hl 1 rfl) ?_
        refine lv_aload_n hx hb dX2_reckonShifts_25 rfl (lv_at hl 0 rfl) ?_
        refine va_get (D := D) (ci := 2) (v := .ref (a 23)) (C := RX2) (T := TX2) (N := 14) hx hb hts inX2 hown hK hP 0 rfl rfl 6 (by decide) ln6 (fun _ h9 => h9) rfl dX2_reckonShifts_26 ?_
        refine va_alen (v := (8 : Int32)) hx hb hK hP 23 0 rfl rfl rfl dX2_reckonShifts_29 ?_
        refine k_icmp_ge (tgt := 94) hx hb dX2_reckonShifts_30 (by decide) hf (fun hf => ?_) (fun hf => ?_)
        · exact W_vret (wHA cI cJ a τ) hx hb hr hlk hP hS hAe hf dX2_reckonShifts_94
        · refine lv_aload_n hx hb dX2_reckonShifts_33 rfl (lv_at hl 0 rfl) ?_
          refine va_get (D := D) (ci := 2) (v := .ref (a 1)) (C := RX2) (T := TX2) (N := 14) hx hb hts inX2 hown hK hP 0 rfl rfl 0 (by decide) ln3 (fun _ h9 => h9) rfl dX2_reckonShifts_34 ?_
          refine lv_iload_n hx hb dX2_reckonShifts_37 rfl (lv_at hl 1 rfl) ?_
          refine c_callV (As := [.int x1]) (rest := []) ⟨hx, hb, hml, hown, hts⟩ hf (fun vq hq => mX0_placeOf l D cI cJ (sb [1, 2, 3, 4, 5, 6] a) H.size N (sb [1, 2, 3, 4, 5, 6] z) x1 vq hq) (cwV 1 hts gX2_reckonShifts_X0_placeOf rfl rfl rfl qX0_placeOf ⟨Nat.le_of_ble_eq_true rfl, Nat.le_of_ble_eq_true rfl⟩) hK hP hS hA (cmr_HA_Ho_1_2_3_4_5_6 D cI cJ a τ z hP) 0 rfl rfl rfl rfl hl.1 rfl (Nat.le_of_ble_eq_true rfl) dX2_reckonShifts_38 ⟨Nat.le_refl _, Nat.le_refl _⟩ (fun v2 H locs hP hS hf => ?_)
          refine lv_istore_n (lv' := [(2, .int v2), (0, .ref (a 0)), (1, .int x1)]) hx hb dX2_reckonShifts_41 rfl hl (by decide) rfl (fun ls hl => ?_)
          refine lv_aload_n hx hb dX2_reckonShifts_42 rfl (lv_at hl 1 rfl) ?_
          refine va_get (D := D) (ci := 2) (v := .ref (a 7)) (C := RX2) (T := TX2) (N := 14) hx hb hts inX2 hown hK hP 0 rfl rfl 1 (by decide) ln1 (fun _ h9 => h9) rfl dX2_reckonShifts_43 ?_
          refine lv_iload_n hx hb dX2_reckonShifts_46 rfl (lv_at hl 2 rfl) ?_
          refine lv_iload_n hx hb dX2_reckonShifts_47 rfl (lv_at hl 0 rfl) ?_
          refine d_callV (As := [.int x1, .int v2]) (rest := []) (w := (wHA cI cJ a τ)) (wc := (wHo cI (sb [7, 8, 9, 10, 11, 12] a))) (put := (fun uq => pb [7, 8, 9, 10, 11, 12] uq z)) (σ := z) (τ0 := (sb [7, 8, 9, 10, 11, 12] z)) ⟨hx, hb, hml, hown, hts⟩ hf (fun vq zq hq => mX0_put l D cI cJ (sb [7, 8, 9, 10, 11, 12] a) H.size N (sb [7, 8, 9, 10, 11, 12] z) x1 v2 (vq, zq) hq) (cwV 2 hts gX2_reckonShifts_X0_put rfl rfl rfl qX0_put ⟨Nat.le_of_ble_eq_true rfl, Nat.le_of_ble_eq_true rfl⟩) hK hP hD hS hA (cmb_HA_Ho_7_8_9_10_11_12 D cI cJ a τ z hP (hD _)) 0 rfl rfl rfl rfl hl.1 rfl (Nat.le_of_ble_eq_true rfl) dX2_reckonShifts_48 ⟨Nat.le_refl _, Nat.le_refl _⟩ (fun v4 z3 H locs hP hS hf => ?_)
          refine lv_pop hx hb dX2_reckonShifts_51 rfl ?_
          refine lv_aload_n hx hb dX2_reckonShifts_52 rfl (lv_at hl 1 rfl) ?_
          refine va_get (D := D) (ci := 2) (v := .ref (a 1)) (C := RX2) (T := TX2) (N := 14) hx hb hts inX2 hown hK hP 0 rfl rfl 0 (by decide) ln3 (fun _ h9 => h9) rfl dX2_reckonShifts_53 ?_
          refine lv_iload_n hx hb dX2_reckonShifts_56 rfl (lv_at hl 2 rfl) ?_
          refine lv_iconst (v := (0 : Int32)) hx hb dX2_reckonShifts_57 (by decide) ?_
          refine c_callV (As := [.int x1, .int (0 : Int32)]) (rest := []) ⟨hx, hb, hml, hown, hts⟩ hf (fun vq hq => mX0_weighs l D cI cJ (sb [1, 2, 3, 4, 5, 6] a) H.size N (sb [1, 2, 3, 4, 5, 6] z3) x1 (0 : Int32) vq hq) (cwV 2 hts gX2_reckonShifts_X0_weighs rfl rfl rfl qX0_weighs ⟨Nat.le_of_ble_eq_true rfl, Nat.le_of_ble_eq_true rfl⟩) hK hP hS hA (cmr_HA_Ho_1_2_3_4_5_6 D cI cJ a τ z3 hP) 0 rfl rfl rfl rfl hl.1 rfl (Nat.le_of_ble_eq_true rfl) dX2_reckonShifts_58 ⟨Nat.le_refl _, Nat.le_refl _⟩ (fun v5 H locs hP hS hf => ?_)
          refine lv_aload_n hx hb dX2_reckonShifts_61 rfl (lv_at hl 1 rfl) ?_
          refine va_get (D := D) (ci := 2) (v := .ref (a 7)) (C := RX2) (T := TX2) (N := 14) hx hb hts inX2 hown hK hP 0 rfl rfl 1 (by decide) ln1 (fun _ h9 => h9) rfl dX2_reckonShifts_62 ?_
          refine lv_iload_n hx hb dX2_reckonShifts_65 rfl (lv_at hl 2 rfl) ?_
          refine lv_iconst (v := (0 : Int32)) hx hb dX2_reckonShifts_66 (by decide) ?_
          refine c_callV (As := [.int x1, .int (0 : Int32)]) (rest := [.int v5]) ⟨hx, hb, hml, hown, hts⟩ hf (fun vq hq => mX0_weighs l D cI cJ (sb [7, 8, 9, 10, 11, 12] a) H.size N (sb [7, 8, 9, 10, 11, 12] z3) x1 (0 : Int32) vq hq) (cwV 2 hts gX2_reckonShifts_X0_weighs rfl rfl rfl qX0_weighs ⟨Nat.le_of_ble_eq_true rfl, Nat.le_of_ble_eq_true rfl⟩) hK hP hS hA (cmr_HA_Ho_7_8_9_10_11_12 D cI cJ a τ z3 hP) 0 rfl rfl rfl rfl hl.1 rfl (Nat.le_of_ble_eq_true rfl) dX2_reckonShifts_67 ⟨Nat.le_refl _, Nat.le_refl _⟩ (fun v6 H locs hP hS hf => ?_)
          refine lv_iadd hx hb dX2_reckonShifts_70 ?_
          refine k_let hf (fun v7 hf => ?_)
          refine lv_istore_n (lv' := [(3, .int v7), (2, .int v2), (0, .ref (a 0)), (1, .int x1)]) hx hb dX2_reckonShifts_71 rfl hl (by decide) rfl (fun ls hl => ?_)
          refine lv_aload_n hx hb dX2_reckonShifts_72 rfl (lv_at hl 2 rfl) ?_
          refine va_get (D := D) (ci := 2) (v := .ref (a 23)) (C := RX2) (T := TX2) (N := 14) hx hb hts inX2 hown hK hP 0 rfl rfl 6 (by decide) ln6 (fun _ h9 => h9) rfl dX2_reckonShifts_73 ?_
          refine lv_iload_n hx hb dX2_reckonShifts_76 rfl (lv_at hl 3 rfl) ?_
          refine lv_iload_n hx hb dX2_reckonShifts_77 rfl (lv_at hl 1 rfl) ?_
          refine k_if_ne (tgt := 86) hx hb dX2_reckonShifts_78 (by decide) hf (fun hf => ?_) (fun hf => ?_)
          · refine lv_iload_n hx hb dX2_reckonShifts_86 rfl (lv_at hl 0 rfl) ?_
            exact b87 (fX2_reckonShifts_L13 N n) ih z3 x1 v7 x1 H locs ls hP hS (lv_sub hl [2, 3] rfl) hf
          · refine lv_iload_n hx hb dX2_reckonShifts_81 rfl (lv_at hl 0 rfl) ?_
            refine lv_ineg hx hb dX2_reckonShifts_82 ?_
            refine lv_goto (tgt := 87) hx hb dX2_reckonShifts_83 (by decide) ?_
            exact b87 (fX2_reckonShifts_L13 N n) ih z3 x1 (-v7) x1 H locs ls hP hS (lv_sub hl [2, 3] rfl) hf
  unfold fX2_reckonShifts at hf
  refine lv_aload_n hx hb dX2_reckonShifts_0 rfl (lv_at hl 0 rfl) ?_
  refine va_get (D := D) (ci := 2) (v := .ref (a 7)) (C := RX2) (T := TX2) (N := 14) hx hb hts inX2 hown hK hP 0 rfl rfl 1 (by decide) ln1 (fun _ h9 => h9) rfl dX2_reckonShifts_1 ?_
  refine lv_aload_n hx hb dX2_reckonShifts_4 rfl (lv_at hl 0 rfl) ?_
  refine va_get (D := D) (ci := 2) (v := .ref (a 1)) (C := RX2) (T := TX2) (N := 14) hx hb hts inX2 hown hK hP 0 rfl rfl 0 (by decide) ln3 (fun _ h9 => h9) rfl dX2_reckonShifts_5 ?_
  refine d_callVv (As := [.ref ((sb [7, 8, 9, 10, 11, 12, 1, 2, 3, 4, 5, 6] a) 6)]) (rest := []) (w := (wHA cI cJ a τ)) (wc := (wHo2 cI (sb [7, 8, 9, 10, 11, 12, 1, 2, 3, 4, 5, 6] a))) (put := (fun uq => pb [7, 8, 9, 10, 11, 12, 1, 2, 3, 4, 5, 6] uq σ)) (σ := σ) (τ0 := (sb [7, 8, 9, 10, 11, 12, 1, 2, 3, 4, 5, 6] σ)) ⟨hx, hb, hml, hown, hts⟩ hf (fun zq hq => mX0_copy l D cI cJ (sb [7, 8, 9, 10, 11, 12, 1, 2, 3, 4, 5, 6] a) s.heap.size N (sb [7, 8, 9, 10, 11, 12, 1, 2, 3, 4, 5, 6] σ) zq hq) (cwV 1 hts gX2_reckonShifts_X0_copy rfl rfl rfl qX0_copy ⟨Nat.le_of_ble_eq_true rfl, Nat.le_of_ble_eq_true rfl⟩) hK hP hD hS hA (cmb_HA_Ho2_7_8_9_10_11_12_1_2_3_4_5_6 D cI cJ a τ σ hP (hD _)) 0 rfl rfl rfl rfl hl.1 rfl (Nat.le_of_ble_eq_true rfl) dX2_reckonShifts_8 ⟨Nat.le_refl _, Nat.le_refl _⟩ (fun z1 H locs hP hS hf => ?_)
  refine lv_iconst (v := (0 : Int32)) hx hb dX2_reckonShifts_11 (by decide) ?_
  refine lv_istore_n (lv' := [(1, .int (0 : Int32)), (0, .ref (a 0))]) hx hb dX2_reckonShifts_12 rfl hl (by decide) rfl (fun ls hl => ?_)
  exact b13  N z1 (0 : Int32) H locs ls hP hS (lv_sub hl [1, 0] rfl) hf
def fX2_shiftOf_L42 (N : Nat) (σ : St) (k4 : Int32 → Int32 → Int32 → Option Int32) (x1 : Int32) (x2 : Int32) (x3 : Int32) : Option Int32 :=
    lt_ (x3 + (1 : Int32) : Int32) (fun v1 =>
    k4 x1 x2 v1)
def fX2_shiftOf_L4 (N : Nat) (σ : St)  : Nat → Int32 → Int32 → Int32 → Option Int32
  | 0, _, _, _ => none
  | n + 1, x1, x2, x3 =>
    if (σ 1 3) ≤ x3 then some x2
    else if (8 : Int32) ≤ x3 then some x2
    else if ((x1 >>> (x3 &&& 31)) &&& (1 : Int32)) = (1 : Int32) then bo (rdI σ 23 8 x3) (fun v2 =>
    lt_ ((x2 + v2) : Int32) (fun v3 =>
    fX2_shiftOf_L42 N σ (fX2_shiftOf_L4 N σ n) x1 v3 x3))
    else fX2_shiftOf_L42 N σ (fX2_shiftOf_L4 N σ n) x1 x2 x3
def fX2_shiftOf (N : Nat) (σ : St) (p1 : Int32) : Option Int32 :=
    fX2_shiftOf_L4 N σ  N p1 (0 : Int32) (0 : Int32)
abbrev rmX2_shiftOf : Room := { frames := 0, cells := 0, slots := 0, locals := 0 }
theorem qX2_shiftOf : yX2_shiftOf.cls = RX2 ∧ yX2_shiftOf.cls ≠ "java/lang/invoke/MethodHandle" ∧ yX2_shiftOf.cls ≠ "java/lang/invoke/VarHandle" ∧ (parseMethodDescriptor yX2_shiftOf.desc).map (fun d => d.parameters.length) = some 1 := by decide +kernel
set_option maxHeartbeats 400000 in
set_option maxRecDepth 100000 in
theorem mX2_shiftOf (l : Launch) (D : va_G) (cI cJ : ClassId) (a : Nat → Nat) (sz N : Nat) (τ : LSt) (σ : St) (p1 : Int32) (r : Int32) (hf : fX2_shiftOf N σ p1 = some r) : Met l yX2_shiftOf wsX2_shiftOf rmX2_shiftOf (RPre ([.ref (a 0), .int p1] : List Value) sz D (tyIJ cI cJ) (wHA cI cJ a τ σ)) (RQi sz r) 0 0 (fr0 sz) := by
  refine R_start (cc := cX2_shiftOf) (maxL := 4) (ret := (some .int)) (by decide) rfl (Nat.le_of_ble_eq_true rfl) (fun p e s m below meth c ls hx hb hr hml hown hts hlk hP hK hS hA hsz hl => ?_)
  have hown : s.vm.findClass RX2 = some m.cls := hown
  have hl : lv_has ls 4 [(0, .ref (a 0)), (1, .int p1)] := hl
  have ln1 := hts (Cond.fieldLink RX2 10 "HoistsAreShared" "now" "LHoistsAreShared$Hoist;") (List.mem_of_getElem? (i := 1) rfl)
  have inX2 : ∀ w ∈ u_ws RX2 TX2 14, w ∈ wsX2_shiftOf := fun _ h => List.mem_cons_of_mem _ (List.mem_append_left _ (List.mem_append_right _ h))
  have ln3 := hts (Cond.fieldLink RX2 196 "HoistsAreShared$Hoist" "things" "I") (List.mem_of_getElem? (i := 2) rfl)
  have inX0 : ∀ w ∈ u_ws RX0 TX0 9, w ∈ wsX2_shiftOf := fun _ h => List.mem_cons_of_mem _ (List.mem_append_right _ h)
  have ln5 := hts (Cond.fieldLink RX2 36 "HoistsAreShared" "shifts" "[I") (List.mem_of_getElem? (i := 3) rfl)
  have b42 : ∀ (k4 : Int32 → Int32 → Int32 → Option Int32) (hk4 : (∀ (x1 : Int32) (x2 : Int32) (x3 : Int32) (H : Heap) (locs : List Loc) (ls : Array Slot), va_P D vwCl (wHA cI cJ a τ σ) H → va_S (fr0 s.heap.size) s.heap H locs → lv_has ls 4 [(0, .ref (a 0)), (1, .int x1), (2, .int x2), (3, .int x3)] → k4 x1 x2 x3 = some r → W p l e rmX2_shiftOf s m ([.ref (a 0), .int p1] : List Value).toArray below meth c H locs 0 0 (MQ below (RQi sz r) ([.ref (a 0), .int p1] : List Value).toArray s 0 0 (fr0 sz)) (F0 m 4 ls []))) (x1 : Int32) (x2 : Int32) (x3 : Int32) (H : Heap) (locs : List Loc) (ls : Array Slot), va_P D vwCl (wHA cI cJ a τ σ) H → va_S (fr0 s.heap.size) s.heap H locs → lv_has ls 4 [(0, .ref (a 0)), (1, .int x1), (2, .int x2), (3, .int x3)] → fX2_shiftOf_L42 N σ k4 x1 x2 x3 = some r → W p l e rmX2_shiftOf s m ([.ref (a 0), .int p1] : List Value).toArray below meth c H locs 0 0 (MQ below (RQi sz r) ([.ref (a 0), .int p1] : List Value).toArray s 0 0 (fr0 sz)) (F0 m 42 ls []) := by
    intro k4 hk4 x1 x2 x3 H locs ls hP hS hl hf
    unfold fX2_shiftOf_L42 at hf
    refine k_iinc (d := (1 : Int32)) (lv' := fun v1 => [(3, .int v1), (0, .ref (a 0)), (1, .int x1), (2, .int x2)]) hx hb dX2_shiftOf_42 hl (k := 3) rfl (by decide) (by decide) (fun _ => rfl) hf (fun v1 ls hl hf => ?_)
    refine lv_goto (tgt := 4) hx hb dX2_shiftOf_45 (by decide) ?_
    exact hk4 x1 x2 v1 H locs ls hP hS (lv_sub hl [1, 2, 3, 0] rfl) hf
  have b4 : ∀  (n : Nat) (x1 : Int32) (x2 : Int32) (x3 : Int32) (H : Heap) (locs : List Loc) (ls : Array Slot), va_P D vwCl (wHA cI cJ a τ σ) H → va_S (fr0 s.heap.size) s.heap H locs → lv_has ls 4 [(0, .ref (a 0)), (1, .int x1), (2, .int x2), (3, .int x3)] → fX2_shiftOf_L4 N σ n x1 x2 x3 = some r → W p l e rmX2_shiftOf s m ([.ref (a 0), .int p1] : List Value).toArray below meth c H locs 0 0 (MQ below (RQi sz r) ([.ref (a 0), .int p1] : List Value).toArray s 0 0 (fr0 sz)) (F0 m 4 ls []) := by
    intro n
    induction n with
    | zero => intro x1 x2 x3 H locs ls hP hS hl hf; cases hf
    | succ n ih =>
      intro x1 x2 x3 H locs ls hP hS hl hf
      rw [fX2_shiftOf_L4] at hf
      refine lv_iload_n hx hb dX2_shiftOf_4 rfl (lv_at hl 3 rfl) ?_
      refine lv_aload_n hx hb dX2_shiftOf_5 rfl (lv_at hl 0 rfl) ?_
      refine va_get (D := D) (ci := 2) (v := .ref (a 1)) (C := RX2) (T := TX2) (N := 14) hx hb hts inX2 hown hK hP 0 rfl rfl 0 (by decide) ln1 (fun _ h9 => h9) rfl dX2_shiftOf_6 ?_
      refine va_get (D := D) (ci := 0) (v := .int (σ 1 3)) (C := RX0) (T := TX0) (N := 9) hx hb hts inX0 hown hK hP 1 rfl rfl 3 (by decide) ln3 (fun _ h9 => h9) rfl dX2_shiftOf_9 ?_
      refine k_icmp_ge (tgt := 48) hx hb dX2_shiftOf_12 (by decide) hf (fun hf => ?_) (fun hf => ?_)
      · refine lv_iload_n hx hb dX2_shiftOf_48 rfl (lv_at hl 2 rfl) ?_
        exact R_iret hx hb hr hlk hS hsz hf dX2_shiftOf_49
      · refine lv_iload_n hx hb dX2_shiftOf_15 rfl (lv_at hl 3 rfl) ?_
        refine lv_aload_n hx hb dX2_shiftOf_16 rfl (lv_at hl 0 rfl) ?_
        refine va_get (D := D) (ci := 2) (v := .ref (a 23)) (C := RX2) (T := TX2) (N := 14) hx hb hts inX2 hown hK hP 0 rfl rfl 6 (by decide) ln5 (fun _ h9 => h9) rfl dX2_shiftOf_17 ?_
        refine va_alen (v := (8 : Int32)) hx hb hK hP 23 0 rfl rfl rfl dX2_shiftOf_20 ?_
        refine k_icmp_ge (tgt := 48) hx hb dX2_shiftOf_21 (by decide) hf (fun hf => ?_) (fun hf => ?_)
        · refine lv_iload_n hx hb dX2_shiftOf_48 rfl (lv_at hl 2 rfl) ?_
          exact R_iret hx hb hr hlk hS hsz hf dX2_shiftOf_49
        · refine lv_iload_n hx hb dX2_shiftOf_24 rfl (lv_at hl 1 rfl) ?_
          refine lv_iload_n hx hb dX2_shiftOf_25 rfl (lv_at hl 3 rfl) ?_
          refine lv_ishr hx hb dX2_shiftOf_26 ?_
          refine lv_iconst (v := (1 : Int32)) hx hb dX2_shiftOf_27 (by decide) ?_
          refine lv_iand hx hb dX2_shiftOf_28 ?_
          refine lv_iconst (v := (1 : Int32)) hx hb dX2_shiftOf_29 (by decide) ?_
          refine k_icmp_ne (tgt := 42) hx hb dX2_shiftOf_30 (by decide) hf (fun hf => ?_) (fun hf => ?_)
          · exact b42 (fX2_shiftOf_L4 N σ n) ih x1 x2 x3 H locs ls hP hS (lv_sub hl [0, 1, 2, 3] rfl) hf
          · refine lv_iload_n hx hb dX2_shiftOf_33 rfl (lv_at hl 2 rfl) ?_
            refine lv_aload_n hx hb dX2_shiftOf_34 rfl (lv_at hl 0 rfl) ?_
            refine va_get (D := D) (ci := 2) (v := .ref (a 23)) (C := RX2) (T := TX2) (N := 14) hx hb hts inX2 hown hK hP 0 rfl rfl 6 (by decide) ln5 (fun _ h9 => h9) rfl dX2_shiftOf_35 ?_
            refine lv_iload_n hx hb dX2_shiftOf_38 rfl (lv_at hl 3 rfl) ?_
            refine k_iald hx hb hK hP 23 0 hf rfl rfl dX2_shiftOf_39 (fun v2 hf => ?_)
            refine lv_iadd hx hb dX2_shiftOf_40 ?_
            refine k_let hf (fun v3 hf => ?_)
            refine lv_istore_n (lv' := [(2, .int v3), (0, .ref (a 0)), (1, .int x1), (3, .int x3)]) hx hb dX2_shiftOf_41 rfl hl (by decide) rfl (fun ls hl => ?_)
            exact b42 (fX2_shiftOf_L4 N σ n) ih x1 v3 x3 H locs ls hP hS (lv_sub hl [1, 2, 0, 3] rfl) hf
  unfold fX2_shiftOf at hf
  refine lv_iconst (v := (0 : Int32)) hx hb dX2_shiftOf_0 (by decide) ?_
  refine lv_istore_n (lv' := [(2, .int (0 : Int32)), (0, .ref (a 0)), (1, .int p1)]) hx hb dX2_shiftOf_1 rfl hl (by decide) rfl (fun ls hl => ?_)
  refine lv_iconst (v := (0 : Int32)) hx hb dX2_shiftOf_2 (by decide) ?_
  refine lv_istore_n (lv' := [(3, .int (0 : Int32)), (2, .int (0 : Int32)), (0, .ref (a 0)), (1, .int p1)]) hx hb dX2_shiftOf_3 rfl hl (by decide) rfl (fun ls hl => ?_)
  exact b4  N p1 (0 : Int32) (0 : Int32) s.heap [] ls hP hS (lv_sub hl [2, 3, 1, 0] rfl) hf
def fX2_change_L87 (N : Nat) (k32 : St → Int32 → Int32 → Int32 → Int32 → Int32 → Option (Int32 × St)) (z : St) (x1 : Int32) (x2 : Int32) (x3 : Int32) (x4 : Int32) (x5 : Int32) : Option (Int32 × St) :=
    lt_ (x5 + (1 : Int32) : Int32) (fun v4 =>
    k32 z x1 x2 x3 x4 v4)
def fX2_change_L32 (N : Nat)  : Nat → St → Int32 → Int32 → Int32 → Int32 → Int32 → Option (Int32 × St)
  | 0, _, _, _, _, _, _ => none
  | n + 1, z, x1, x2, x3, x4, x5 =>
    if ((1 : Int32) <<< ((z 1 3) &&& 31)) ≤ x5 then some (x3, z)
    else if (x5 &&& x2) = 0 then bo (fJ6_bitCount_0f7a4 N x5) (fun v5 =>
    if x4 ≤ v5 then fX2_change_L87 N (fX2_change_L32 N n) z x1 x2 x3 x4 x5
    else bo (fX2_shiftOf N z x5) (fun v6 =>
    bo (fX0_speedBy N (x1 + v6)) (fun v7 =>
    if v7 = 0 then bo (fJ6_bitCount_0f7a4 N x5) (fun v8 =>
    fX2_change_L87 N (fX2_change_L32 N n) z x1 x2 x5 v8 x5)
    else fX2_change_L87 N (fX2_change_L32 N n) z x1 x2 x3 x4 x5)))
    else fX2_change_L87 N (fX2_change_L32 N n) z x1 x2 x3 x4 x5
def fX2_change (N : Nat) (σ : St)  : Option (Int32 × St) :=
    by_ (fX2_reckonShifts N σ) (fun uq => uq) (fun z1 =>
    bo (fX0_pullAfter N (sb [1, 2, 3, 4, 5, 6] z1) (0 : Int32)) (fun v2 =>
    bo (fX0_bitsAt N (sb [1, 2, 3, 4, 5, 6] z1) (2 : Int32)) (fun v3 =>
    fX2_change_L32 N  N z1 v2 v3 (-9 : Int32) (9 : Int32) (0 : Int32))))
abbrev rmX2_change : Room := { frames := 3, cells := 0, slots := 0, locals := 72 }
theorem qX2_change : yX2_change.cls = RX2 ∧ yX2_change.cls ≠ "java/lang/invoke/MethodHandle" ∧ yX2_change.cls ≠ "java/lang/invoke/VarHandle" ∧ (parseMethodDescriptor yX2_change.desc).map (fun d => d.parameters.length) = some 0 := by decide +kernel
set_option maxHeartbeats 400000 in
set_option maxRecDepth 100000 in
theorem mX2_change (l : Launch) (D : va_G) (cI cJ : ClassId) (a : Nat → Nat) (sz N : Nat) (τ : LSt) (σ : St)  (r : (Int32 × St)) (hf : fX2_change N σ = some r) : Met l yX2_change wsX2_change rmX2_change (WPre ([.ref (a 0)] : List Value) sz D (tyIJ cI cJ) (wHA cI cJ a τ σ)) (WQi sz D (wHA cI cJ a τ σ) (wHA cI cJ a τ (r.2)) r.1) 0 0 (va_A (wHA cI cJ a τ σ) sz) := by
  refine W_start (cc := cX2_change) (maxL := 6) (ret := (some .int)) (by decide) rfl (Nat.le_of_ble_eq_true rfl) (fun p e s m below meth c ls A hx hb hr hml hown hts hlk hP hK hS hA hD0 hAe hl => ?_)
  have hD : ∀ z, va_D A ((wHA cI cJ a τ) z) := fun z => hD0.ad rfl
  have hown : s.vm.findClass RX2 = some m.cls := hown
  have hl : lv_has ls 6 [(0, .ref (a 0))] := hl
  have ln1 := hts (Cond.fieldLink RX2 10 "HoistsAreShared" "now" "LHoistsAreShared$Hoist;") (List.mem_of_getElem? (i := 1) rfl)
  have inX2 : ∀ w ∈ u_ws RX2 TX2 14, w ∈ wsX2_change := fun _ h => List.mem_cons_of_mem _ (List.mem_append_left _ (List.mem_append_right _ h))
  have ln3 := hts (Cond.fieldLink RX2 196 "HoistsAreShared$Hoist" "things" "I") (List.mem_of_getElem? (i := 2) rfl)
  have inX0 : ∀ w ∈ u_ws RX0 TX0 9, w ∈ wsX2_change := fun _ h => List.mem_cons_of_mem _ (List.mem_append_right _ h)
  have b87 : ∀ (k32 : St → Int32 → Int32 → Int32 → Int32 → Int32 → Option (Int32 × St)) (hk32 : (∀ (z : St) (x1 : Int32) (x2 : Int32) (x3 : Int32) (x4 : Int32) (x5 : Int32) (H : Heap) (locs : List Loc) (ls : Array Slot), va_P D vwCl (wHA cI cJ a τ z) H → va_S A s.heap H locs → lv_has ls 6 [(0, .ref (a 0)), (1, .int x1), (2, .int x2), (3, .int x3), (4, .int x4), (5, .int x5)] → k32 z x1 x2 x3 x4 x5 = some r → W p l e rmX2_change s m ([.ref (a 0)] : List Value).toArray below meth c H locs 0 0 (MQ below (WQi sz D (wHA cI cJ a τ σ) (wHA cI cJ a τ (r.2)) r.1) ([.ref (a 0)] : List Value).toArray s 0 0 A) (F0 m 32 ls []))) (z : St) (x1 : Int32) (x2 : Int32) (x3 : Int32) (x4 : Int32) (x5 : Int32) (H : Heap) (locs : List Loc) (ls : Array Slot), va_P D vwCl (wHA cI cJ a τ z) H → va_S A s.heap H locs → lv_has ls 6 [(0, .ref (a 0)), (1, .int x1), (2, .int x2), (3, .int x3), (4, .int x4), (5, .int x5)] → fX2_change_L87 N k32 z x1 x2 x3 x4 x5 = some r → W p l e rmX2_change s m ([.ref (a 0)] : List Value).toArray below meth c H locs 0 0 (MQ below (WQi sz D (wHA cI cJ a τ σ) (wHA cI cJ a τ (r.2)) r.1) ([.ref (a 0)] : List Value).toArray s 0 0 A) (F0 m 87 ls []) := by
    intro k32 hk32 z x1 x2 x3 x4 x5 H locs ls hP hS hl hf
    unfold fX2_change_L87 at hf
    refine k_iinc (d := (1 : Int32)) (lv' := fun v4 => [(5, .int v4), (0, .ref (a 0)), (1, .int x1), (2, .int x2), (3, .int x3), (4, .int x4)]) hx hb dX2_change_87 hl (k := 5) rfl (by decide) (by decide) (fun _ => rfl) hf (fun v4 ls hl hf => ?_)
    refine lv_goto (tgt := 32) hx hb dX2_change_90 (by decide) ?_
    exact hk32 z x1 x2 x3 x4 v4 H locs ls hP hS (lv_sub hl [1, 2, 3, 4, 5, 0] rfl) hf
  have b32 : ∀  (n : Nat) (z : St) (x1 : Int32) (x2 : Int32) (x3 : Int32) (x4 : Int32) (x5 : Int32) (H : Heap) (locs : List Loc) (ls : Array Slot), va_P D vwCl (wHA cI cJ a τ z) H → va_S A s.heap H locs → lv_has ls 6 [(0, .ref (a 0)), (1, .int x1), (2, .int x2), (3, .int x3), (4, .int x4), (5, .int x5)] → fX2_change_L32 N n z x1 x2 x3 x4 x5 = some r → W p l e rmX2_change s m ([.ref (a 0)] : List Value).toArray below meth c H locs 0 0 (MQ below (WQi sz D (wHA cI cJ a τ σ) (wHA cI cJ a τ (r.2)) r.1) ([.ref (a 0)] : List Value).toArray s 0 0 A) (F0 m 32 ls []) := by
    intro n
    induction n with
    | zero => intro z x1 x2 x3 x4 x5 H locs ls hP hS hl hf; cases hf
    | succ n ih =>
      intro z x1 x2 x3 x4 x5 H locs ls hP hS hl hf
      rw [fX2_change_L32] at hf
      refine lv_iload hx hb dX2_change_32 (lv_at hl 5 rfl) ?_
      refine lv_iconst (v := (1 : Int32)) hx hb dX2_change_34 (by decide) ?_
      refine lv_aload_n hx hb dX2_change_35 rfl (lv_at hl 0 rfl) ?_
      refine va_get (D := D) (ci := 2) (v := .ref (a 1)) (C := RX2) (T := TX2) (N := 14) hx hb hts inX2 hown hK hP 0 rfl rfl 0 (by decide) ln1 (fun _ h9 => h9) rfl dX2_change_36 ?_
      refine va_get (D := D) (ci := 0) (v := .int (z 1 3)) (C := RX0) (T := TX0) (N := 9) hx hb hts inX0 hown hK hP 1 rfl rfl 3 (by decide) ln3 (fun _ h9 => h9) rfl dX2_change_39 ?_
      refine lv_ishl hx hb dX2_change_42 ?_
      refine k_icmp_ge (tgt := 93) hx hb dX2_change_43 (by decide) hf (fun hf => ?_) (fun hf => ?_)
      · refine lv_iload_n hx hb dX2_change_93 rfl (lv_at hl 3 rfl) ?_
        exact W_iret (wHA cI cJ a τ) hx hb hr hlk hP hS hAe hf dX2_change_94
      · refine lv_iload hx hb dX2_change_46 (lv_at hl 5 rfl) ?_
        refine lv_iload_n hx hb dX2_change_48 rfl (lv_at hl 2 rfl) ?_
        refine lv_iand hx hb dX2_change_49 ?_
        refine k_if_ne (tgt := 87) hx hb dX2_change_50 (by decide) hf (fun hf => ?_) (fun hf => ?_)
        · exact b87 (fX2_change_L32 N n) ih z x1 x2 x3 x4 x5 H locs ls hP hS (lv_sub hl [0, 1, 2, 3, 4, 5] rfl) hf
        · refine lv_iload hx hb dX2_change_53 (lv_at hl 5 rfl) ?_
          refine c_callS (As := [.int x5]) (rest := []) ⟨hx, hb, hml, hown, hts⟩ hf (fun vq hq => mJ6_bitCount_0f7a4 l D cI cJ H.size N x5 vq hq) (va_cwS 1 hts gX2_change_J6_bitCount_0f7a4 rfl rfl rfl qJ6_bitCount_0f7a4 ⟨Nat.le_of_ble_eq_true rfl, Nat.le_of_ble_eq_true rfl⟩) hK hP hS hA va_P_nil rfl hl.1 rfl (Nat.le_of_ble_eq_true rfl) dX2_change_55 ⟨Nat.le_refl _, Nat.le_refl _⟩ (fun v5 H locs hP hS hf => ?_)
          refine lv_iload hx hb dX2_change_58 (lv_at hl 4 rfl) ?_
          refine k_icmp_ge (tgt := 87) hx hb dX2_change_60 (by decide) hf (fun hf => ?_) (fun hf => ?_)
          · exact b87 (fX2_change_L32 N n) ih z x1 x2 x3 x4 x5 H locs ls hP hS (lv_sub hl [0, 1, 2, 3, 4, 5] rfl) hf
          · refine lv_iload_n hx hb dX2_change_63 rfl (lv_at hl 1 rfl) ?_
            refine lv_aload_n hx hb dX2_change_64 rfl (lv_at hl 0 rfl) ?_
            refine lv_iload hx hb dX2_change_65 (lv_at hl 5 rfl) ?_
            refine c_callV (As := [.int x5]) (rest := [.int x1]) ⟨hx, hb, hml, hown, hts⟩ hf (fun vq hq => mX2_shiftOf l D cI cJ a H.size N τ z x5 vq hq) (cwV 1 hts gX2_change_X2_shiftOf rfl rfl rfl qX2_shiftOf ⟨Nat.le_of_ble_eq_true rfl, Nat.le_of_ble_eq_true rfl⟩) hK hP hS hA hP 2 rfl rfl rfl rfl hl.1 rfl (Nat.le_of_ble_eq_true rfl) dX2_change_67 ⟨Nat.le_refl _, Nat.le_refl _⟩ (fun v6 H locs hP hS hf => ?_)
            refine lv_iadd hx hb dX2_change_70 ?_
            refine c_callS (As := [.int (x1 + v6)]) (rest := []) ⟨hx, hb, hml, hown, hts⟩ hf (fun vq hq => mX0_speedBy l D cI cJ H.size N (x1 + v6) vq hq) (va_cwS 1 hts gX2_change_X0_speedBy rfl rfl rfl qX0_speedBy ⟨Nat.le_of_ble_eq_true rfl, Nat.le_of_ble_eq_true rfl⟩) hK hP hS hA va_P_nil rfl hl.1 rfl (Nat.le_of_ble_eq_true rfl) dX2_change_71 ⟨Nat.le_refl _, Nat.le_refl _⟩ (fun v7 H locs hP hS hf => ?_)
            refine k_if_ne (tgt := 87) hx hb dX2_change_74 (by decide) hf (fun hf => ?_) (fun hf => ?_)
            · exact b87 (fX2_change_L32 N n) ih z x1 x2 x3 x4 x5 H locs ls hP hS (lv_sub hl [0, 1, 2, 3, 4, 5] rfl) hf
            · refine lv_iload hx hb dX2_change_77 (lv_at hl 5 rfl) ?_
              refine c_callS (As := [.int x5]) (rest := []) ⟨hx, hb, hml, hown, hts⟩ hf (fun vq hq => mJ6_bitCount_0f7a4 l D cI cJ H.size N x5 vq hq) (va_cwS 1 hts gX2_change_J6_bitCount_0f7a4 rfl rfl rfl qJ6_bitCount_0f7a4 ⟨Nat.le_of_ble_eq_true rfl, Nat.le_of_ble_eq_true rfl⟩) hK hP hS hA va_P_nil rfl hl.1 rfl (Nat.le_of_ble_eq_true rfl) dX2_change_79 ⟨Nat.le_refl _, Nat.le_refl _⟩ (fun v8 H locs hP hS hf => ?_)
              refine lv_istore (lv' := [(4, .int v8), (0, .ref (a 0)), (1, .int x1), (2, .int x2), (3, .int x3), (5, .int x5)]) hx hb dX2_change_82 hl (by decide) rfl (fun ls hl => ?_)
              refine lv_iload hx hb dX2_change_84 (lv_at hl 5 rfl) ?_
              refine lv_istore_n (lv' := [(3, .int x5), (4, .int v8), (0, .ref (a 0)), (1, .int x1), (2, .int x2), (5, .int x5)]) hx hb dX2_change_86 rfl hl (by decide) rfl (fun ls hl => ?_)
              exact b87 (fX2_change_L32 N n) ih z x1 x2 x5 v8 x5 H locs ls hP hS (lv_sub hl [2, 3, 4, 0, 1, 5] rfl) hf
  unfold fX2_change at hf
  refine lv_aload_n hx hb dX2_change_0 rfl (lv_at hl 0 rfl) ?_
  refine d_callVv (As := []) (rest := []) (w := (wHA cI cJ a τ)) (wc := (wHA cI cJ a τ)) (put := (fun uq => uq)) (σ := σ) (τ0 := σ) ⟨hx, hb, hml, hown, hts⟩ hf (fun zq hq => mX2_reckonShifts l D cI cJ a s.heap.size N τ σ zq hq) (cwV 0 hts gX2_change_X2_reckonShifts rfl rfl rfl qX2_reckonShifts ⟨Nat.le_of_ble_eq_true rfl, Nat.le_of_ble_eq_true rfl⟩) hK hP hD hS hA ⟨hP, hD _, fun _ _ _ h => h⟩ 2 rfl rfl rfl rfl hl.1 rfl (Nat.le_of_ble_eq_true rfl) dX2_change_1 ⟨Nat.le_refl _, Nat.le_refl _⟩ (fun z1 H locs hP hS hf => ?_)
  refine lv_aload_n hx hb dX2_change_4 rfl (lv_at hl 0 rfl) ?_
  refine va_get (D := D) (ci := 2) (v := .ref (a 1)) (C := RX2) (T := TX2) (N := 14) hx hb hts inX2 hown hK hP 0 rfl rfl 0 (by decide) ln1 (fun _ h9 => h9) rfl dX2_change_5 ?_
  refine lv_iconst (v := (0 : Int32)) hx hb dX2_change_8 (by decide) ?_
  refine c_callV (As := [.int (0 : Int32)]) (rest := []) ⟨hx, hb, hml, hown, hts⟩ hf (fun vq hq => mX0_pullAfter l D cI cJ (sb [1, 2, 3, 4, 5, 6] a) H.size N (sb [1, 2, 3, 4, 5, 6] z1) (0 : Int32) vq hq) (cwV 1 hts gX2_change_X0_pullAfter rfl rfl rfl qX0_pullAfter ⟨Nat.le_of_ble_eq_true rfl, Nat.le_of_ble_eq_true rfl⟩) hK hP hS hA (cmr_HA_Ho_1_2_3_4_5_6 D cI cJ a τ z1 hP) 0 rfl rfl rfl rfl hl.1 rfl (Nat.le_of_ble_eq_true rfl) dX2_change_9 ⟨Nat.le_refl _, Nat.le_refl _⟩ (fun v2 H locs hP hS hf => ?_)
  refine lv_istore_n (lv' := [(1, .int v2), (0, .ref (a 0))]) hx hb dX2_change_12 rfl hl (by decide) rfl (fun ls hl => ?_)
  refine lv_aload_n hx hb dX2_change_13 rfl (lv_at hl 1 rfl) ?_
  refine va_get (D := D) (ci := 2) (v := .ref (a 1)) (C := RX2) (T := TX2) (N := 14) hx hb hts inX2 hown hK hP 0 rfl rfl 0 (by decide) ln1 (fun _ h9 => h9) rfl dX2_change_14 ?_
  refine lv_iconst (v := (2 : Int32)) hx hb dX2_change_17 (by decide) ?_
  refine c_callV (As := [.int (2 : Int32)]) (rest := []) ⟨hx, hb, hml, hown, hts⟩ hf (fun vq hq => mX0_bitsAt l D cI cJ (sb [1, 2, 3, 4, 5, 6] a) H.size N (sb [1, 2, 3, 4, 5, 6] z1) (2 : Int32) vq hq) (cwV 1 hts gX2_change_X0_bitsAt rfl rfl rfl qX0_bitsAt ⟨Nat.le_of_ble_eq_true rfl, Nat.le_of_ble_eq_true rfl⟩) hK hP hS hA (cmr_HA_Ho_1_2_3_4_5_6 D cI cJ a τ z1 hP) 0 rfl rfl rfl rfl hl.1 rfl (Nat.le_of_ble_eq_true rfl) dX2_change_18 ⟨Nat.le_refl _, Nat.le_refl _⟩ (fun v3 H locs hP hS hf => ?_)
  refine lv_istore_n (lv' := [(2, .int v3), (1, .int v2), (0, .ref (a 0))]) hx hb dX2_change_21 rfl hl (by decide) rfl (fun ls hl => ?_)
  refine lv_bipush (v := (-9 : Int32)) hx hb dX2_change_22 (by decide) ?_
  refine lv_istore_n (lv' := [(3, .int (-9 : Int32)), (2, .int v3), (1, .int v2), (0, .ref (a 0))]) hx hb dX2_change_24 rfl hl (by decide) rfl (fun ls hl => ?_)
  refine lv_bipush (v := (9 : Int32)) hx hb dX2_change_25 (by decide) ?_
  refine lv_istore (lv' := [(4, .int (9 : Int32)), (3, .int (-9 : Int32)), (2, .int v3), (1, .int v2), (0, .ref (a 0))]) hx hb dX2_change_27 hl (by decide) rfl (fun ls hl => ?_)
  refine lv_iconst (v := (0 : Int32)) hx hb dX2_change_29 (by decide) ?_
  refine lv_istore (lv' := [(5, .int (0 : Int32)), (4, .int (9 : Int32)), (3, .int (-9 : Int32)), (2, .int v3), (1, .int v2), (0, .ref (a 0))]) hx hb dX2_change_30 hl (by decide) rfl (fun ls hl => ?_)
  exact b32  N z1 v2 v3 (-9 : Int32) (9 : Int32) (0 : Int32) H locs ls hP hS (lv_sub hl [5, 4, 3, 2, 1, 0] rfl) hf
def fX2_apartIfPulled_L47 (N : Nat) (σ : St)  (x3 : Int32) : Option Int32 :=
    bo (fX0_apartAt N x3) (fun v1 =>
    some v1)
def fX2_apartIfPulled_L11 (N : Nat) (σ : St)  : Nat → Int32 → Int32 → Int32 → Int32 → Option Int32
  | 0, _, _, _, _ => none
  | n + 1, x1, x2, x3, x4 =>
    if x2 < x4 then fX2_apartIfPulled_L47 N σ  x3
    else if (31 : Int32) ≤ x4 then fX2_apartIfPulled_L47 N σ  x3
    else bo (rdI σ 22 31 x4) (fun v2 =>
    bo (fX0_moved N x3 (v2 + x1)) (fun v3 =>
    lt_ (x4 + (1 : Int32) : Int32) (fun v4 =>
    (fX2_apartIfPulled_L11 N σ n) x1 x2 v3 v4)))
def fX2_apartIfPulled (N : Nat) (σ : St) (p1 : Int32) (p2 : Int32) : Option Int32 :=
    fX2_apartIfPulled_L11 N σ  N p1 p2 (σ 1 0) (1 : Int32)
abbrev rmX2_apartIfPulled : Room := { frames := 3, cells := 0, slots := 0, locals := 66 }
theorem qX2_apartIfPulled : yX2_apartIfPulled.cls = RX2 ∧ yX2_apartIfPulled.cls ≠ "java/lang/invoke/MethodHandle" ∧ yX2_apartIfPulled.cls ≠ "java/lang/invoke/VarHandle" ∧ (parseMethodDescriptor yX2_apartIfPulled.desc).map (fun d => d.parameters.length) = some 2 := by decide +kernel
set_option maxHeartbeats 400000 in
set_option maxRecDepth 100000 in
theorem mX2_apartIfPulled (l : Launch) (D : va_G) (cI cJ : ClassId) (a : Nat → Nat) (sz N : Nat) (τ : LSt) (σ : St) (p1 : Int32) (p2 : Int32) (r : Int32) (hf : fX2_apartIfPulled N σ p1 p2 = some r) : Met l yX2_apartIfPulled wsX2_apartIfPulled rmX2_apartIfPulled (RPre ([.ref (a 0), .int p1, .int p2] : List Value) sz D (tyIJ cI cJ) (wHA cI cJ a τ σ)) (RQi sz r) 0 0 (fr0 sz) := by
  refine R_start (cc := cX2_apartIfPulled) (maxL := 5) (ret := (some .int)) (by decide) rfl (Nat.le_of_ble_eq_true rfl) (fun p e s m below meth c ls hx hb hr hml hown hts hlk hP hK hS hA hsz hl => ?_)
  have hown : s.vm.findClass RX2 = some m.cls := hown
  have hl : lv_has ls 5 [(0, .ref (a 0)), (1, .int p1), (2, .int p2)] := hl
  have ln1 := hts (Cond.fieldLink RX2 10 "HoistsAreShared" "now" "LHoistsAreShared$Hoist;") (List.mem_of_getElem? (i := 1) rfl)
  have inX2 : ∀ w ∈ u_ws RX2 TX2 14, w ∈ wsX2_apartIfPulled := fun _ h => List.mem_cons_of_mem _ (List.mem_append_left _ (List.mem_append_right _ h))
  have ln3 := hts (Cond.fieldLink RX2 112 "HoistsAreShared$Hoist" "floor" "I") (List.mem_of_getElem? (i := 2) rfl)
  have inX0 : ∀ w ∈ u_ws RX0 TX0 9, w ∈ wsX2_apartIfPulled := fun _ h => List.mem_cons_of_mem _ (List.mem_append_right _ h)
  have ln5 := hts (Cond.fieldLink RX2 33 "HoistsAreShared" "pulls" "[I") (List.mem_of_getElem? (i := 3) rfl)
  have b47 : ∀  (x3 : Int32) (H : Heap) (locs : List Loc) (ls : Array Slot), va_P D vwCl (wHA cI cJ a τ σ) H → va_S (fr0 s.heap.size) s.heap H locs → lv_has ls 5 [(3, .int x3)] → fX2_apartIfPulled_L47 N σ x3 = some r → W p l e rmX2_apartIfPulled s m ([.ref (a 0), .int p1, .int p2] : List Value).toArray below meth c H locs 0 0 (MQ below (RQi sz r) ([.ref (a 0), .int p1, .int p2] : List Value).toArray s 0 0 (fr0 sz)) (F0 m 47 ls []) := by
    intro  x3 H locs ls hP hS hl hf
    unfold fX2_apartIfPulled_L47 at hf
    refine lv_iload_n hx hb dX2_apartIfPulled_47 rfl (lv_at hl 0 rfl) ?_
    refine c_callS (As := [.int x3]) (rest := []) ⟨hx, hb, hml, hown, hts⟩ hf (fun vq hq => mX0_apartAt l D cI cJ H.size N x3 vq hq) (va_cwS 1 hts gX2_apartIfPulled_X0_apartAt rfl rfl rfl qX0_apartAt ⟨Nat.le_of_ble_eq_true rfl, Nat.le_of_ble_eq_true rfl⟩) hK hP hS hA va_P_nil rfl hl.1 rfl (Nat.le_of_ble_eq_true rfl) dX2_apartIfPulled_48 ⟨Nat.le_refl _, Nat.le_refl _⟩ (fun v1 H locs hP hS hf => ?_)
    exact R_iret hx hb hr hlk hS hsz hf dX2_apartIfPulled_51
  have b11 : ∀  (n : Nat) (x1 : Int32) (x2 : Int32) (x3 : Int32) (x4 : Int32) (H : Heap) (locs : List Loc) (ls : Array Slot), va_P D vwCl (wHA cI cJ a τ σ) H → va_S (fr0 s.heap.size) s.heap H locs → lv_has ls 5 [(0, .ref (a 0)), (1, .int x1), (2, .int x2), (3, .int x3), (4, .int x4)] → fX2_apartIfPulled_L11 N σ n x1 x2 x3 x4 = some r → W p l e rmX2_apartIfPulled s m ([.ref (a 0), .int p1, .int p2] : List Value).toArray below meth c H locs 0 0 (MQ below (RQi sz r) ([.ref (a 0), .int p1, .int p2] : List Value).toArray s 0 0 (fr0 sz)) (F0 m 11 ls []) := by
    intro n
    induction n with
    | zero => intro x1 x2 x3 x4 H locs ls hP hS hl hf; cases hf
    | succ n ih =>
      intro x1 x2 x3 x4 H locs ls hP hS hl hf
      rw [fX2_apartIfPulled_L11] at hf
      refine lv_iload hx hb dX2_apartIfPulled_11 (lv_at hl 4 rfl) ?_
      refine lv_iload_n hx hb dX2_apartIfPulled_13 rfl (lv_at hl 2 rfl) ?_
      refine k_icmp_gt (tgt := 47) hx hb dX2_apartIfPulled_14 (by decide) hf (fun hf => ?_) (fun hf => ?_)
      · exact b47  x3 H locs ls hP hS (lv_sub hl [3] rfl) hf
      · refine lv_iload hx hb dX2_apartIfPulled_17 (lv_at hl 4 rfl) ?_
        refine lv_aload_n hx hb dX2_apartIfPulled_19 rfl (lv_at hl 0 rfl) ?_
        refine va_get (D := D) (ci := 2) (v := .ref (a 22)) (C := RX2) (T := TX2) (N := 14) hx hb hts inX2 hown hK hP 0 rfl rfl 5 (by decide) ln5 (fun _ h9 => h9) rfl dX2_apartIfPulled_20 ?_
        refine va_alen (v := (31 : Int32)) hx hb hK hP 22 0 rfl rfl rfl dX2_apartIfPulled_23 ?_
        refine k_icmp_ge (tgt := 47) hx hb dX2_apartIfPulled_24 (by decide) hf (fun hf => ?_) (fun hf => ?_)
        · exact b47  x3 H locs ls hP hS (lv_sub hl [3] rfl) hf
        · refine lv_iload_n hx hb dX2_apartIfPulled_27 rfl (lv_at hl 3 rfl) ?_
          refine lv_aload_n hx hb dX2_apartIfPulled_28 rfl (lv_at hl 0 rfl) ?_
          refine va_get (D := D) (ci := 2) (v := .ref (a 22)) (C := RX2) (T := TX2) (N := 14) hx hb hts inX2 hown hK hP 0 rfl rfl 5 (by decide) ln5 (fun _ h9 => h9) rfl dX2_apartIfPulled_29 ?_
          refine lv_iload hx hb dX2_apartIfPulled_32 (lv_at hl 4 rfl) ?_
          refine k_iald hx hb hK hP 22 0 hf rfl rfl dX2_apartIfPulled_34 (fun v2 hf => ?_)
          refine lv_iload_n hx hb dX2_apartIfPulled_35 rfl (lv_at hl 1 rfl) ?_
          refine lv_iadd hx hb dX2_apartIfPulled_36 ?_
          refine c_callS (As := [.int x3, .int (v2 + x1)]) (rest := []) ⟨hx, hb, hml, hown, hts⟩ hf (fun vq hq => mX0_moved l D cI cJ H.size N x3 (v2 + x1) vq hq) (va_cwS 2 hts gX2_apartIfPulled_X0_moved rfl rfl rfl qX0_moved ⟨Nat.le_of_ble_eq_true rfl, Nat.le_of_ble_eq_true rfl⟩) hK hP hS hA va_P_nil rfl hl.1 rfl (Nat.le_of_ble_eq_true rfl) dX2_apartIfPulled_37 ⟨Nat.le_refl _, Nat.le_refl _⟩ (fun v3 H locs hP hS hf => ?_)
          refine lv_istore_n (lv' := [(3, .int v3), (0, .ref (a 0)), (1, .int x1), (2, .int x2), (4, .int x4)]) hx hb dX2_apartIfPulled_40 rfl hl (by decide) rfl (fun ls hl => ?_)
          refine k_iinc (d := (1 : Int32)) (lv' := fun v4 => [(4, .int v4), (3, .int v3), (0, .ref (a 0)), (1, .int x1), (2, .int x2)]) hx hb dX2_apartIfPulled_41 hl (k := 4) rfl (by decide) (by decide) (fun _ => rfl) hf (fun v4 ls hl hf => ?_)
          refine lv_goto (tgt := 11) hx hb dX2_apartIfPulled_44 (by decide) ?_
          exact ih x1 x2 v3 v4 H locs ls hP hS (lv_sub hl [2, 3, 4, 1, 0] rfl) hf
  unfold fX2_apartIfPulled at hf
  refine lv_aload_n hx hb dX2_apartIfPulled_0 rfl (lv_at hl 0 rfl) ?_
  refine va_get (D := D) (ci := 2) (v := .ref (a 1)) (C := RX2) (T := TX2) (N := 14) hx hb hts inX2 hown hK hP 0 rfl rfl 0 (by decide) ln1 (fun _ h9 => h9) rfl dX2_apartIfPulled_1 ?_
  refine va_get (D := D) (ci := 0) (v := .int (σ 1 0)) (C := RX0) (T := TX0) (N := 9) hx hb hts inX0 hown hK hP 1 rfl rfl 0 (by decide) ln3 (fun _ h9 => h9) rfl dX2_apartIfPulled_4 ?_
  refine lv_istore_n (lv' := [(3, .int (σ 1 0)), (0, .ref (a 0)), (1, .int p1), (2, .int p2)]) hx hb dX2_apartIfPulled_7 rfl hl (by decide) rfl (fun ls hl => ?_)
  refine lv_iconst (v := (1 : Int32)) hx hb dX2_apartIfPulled_8 (by decide) ?_
  refine lv_istore (lv' := [(4, .int (1 : Int32)), (3, .int (σ 1 0)), (0, .ref (a 0)), (1, .int p1), (2, .int p2)]) hx hb dX2_apartIfPulled_9 hl (by decide) rfl (fun ls hl => ?_)
  exact b11  N p1 p2 (σ 1 0) (1 : Int32) s.heap [] ls hP hS (lv_sub hl [2, 3, 4, 1, 0] rfl) hf
def fX2_reckonPulls_L2 (N : Nat)  : Nat → St → Int32 → Int32 → Option St
  | 0, _, _, _ => none
  | n + 1, z, x1, x2 =>
    if x1 < x2 then some z
    else if (31 : Int32) ≤ x2 then some z
    else bo (fX0_pullAfter N (sb [1, 2, 3, 4, 5, 6] z) x2) (fun v1 =>
    bo (wrI z 22 31 x2 v1) (fun z2 =>
    lt_ (x2 + (1 : Int32) : Int32) (fun v3 =>
    (fX2_reckonPulls_L2 N n) z2 x1 v3)))
def fX2_reckonPulls (N : Nat) (σ : St) (p1 : Int32) : Option St :=
    fX2_reckonPulls_L2 N  N σ p1 (0 : Int32)
abbrev rmX2_reckonPulls : Room := { frames := 3, cells := 0, slots := 0, locals := 72 }
theorem qX2_reckonPulls : yX2_reckonPulls.cls = RX2 ∧ yX2_reckonPulls.cls ≠ "java/lang/invoke/MethodHandle" ∧ yX2_reckonPulls.cls ≠ "java/lang/invoke/VarHandle" ∧ (parseMethodDescriptor yX2_reckonPulls.desc).map (fun d => d.parameters.length) = some 1 := by decide +kernel
set_option maxHeartbeats 400000 in
set_option maxRecDepth 100000 in
theorem mX2_reckonPulls (l : Launch) (D : va_G) (cI cJ : ClassId) (a : Nat → Nat) (sz N : Nat) (τ : LSt) (σ : St) (p1 : Int32) (r : St) (hf : fX2_reckonPulls N σ p1 = some r) : Met l yX2_reckonPulls wsX2_reckonPulls rmX2_reckonPulls (WPre ([.ref (a 0), .int p1] : List Value) sz D (tyIJ cI cJ) (wHA cI cJ a τ σ)) (WQv sz D (wHA cI cJ a τ σ) (wHA cI cJ a τ r)) 0 0 (va_A (wHA cI cJ a τ σ) sz) := by
  refine W_start (cc := cX2_reckonPulls) (maxL := 3) (ret := none) (by decide) rfl (Nat.le_of_ble_eq_true rfl) (fun p e s m below meth c ls A hx hb hr hml hown hts hlk hP hK hS hA hD0 hAe hl => ?_)
  have hD : ∀ z, va_D A ((wHA cI cJ a τ) z) := fun z => hD0.ad rfl
  have hown : s.vm.findClass RX2 = some m.cls := hown
  have hl : lv_has ls 3 [(0, .ref (a 0)), (1, .int p1)] := hl
  have ln1 := hts (Cond.fieldLink RX2 33 "HoistsAreShared" "pulls" "[I") (List.mem_of_getElem? (i := 1) rfl)
  have inX2 : ∀ w ∈ u_ws RX2 TX2 14, w ∈ wsX2_reckonPulls := fun _ h => List.mem_cons_of_mem _ (List.mem_append_left _ (List.mem_append_right _ h))
  have ln3 := hts (Cond.fieldLink RX2 10 "HoistsAreShared" "now" "LHoistsAreShared$Hoist;") (List.mem_of_getElem? (i := 2) rfl)
  have b2 : ∀  (n : Nat) (z : St) (x1 : Int32) (x2 : Int32) (H : Heap) (locs : List Loc) (ls : Array Slot), va_P D vwCl (wHA cI cJ a τ z) H → va_S A s.heap H locs → lv_has ls 3 [(0, .ref (a 0)), (1, .int x1), (2, .int x2)] → fX2_reckonPulls_L2 N n z x1 x2 = some r → W p l e rmX2_reckonPulls s m ([.ref (a 0), .int p1] : List Value).toArray below meth c H locs 0 0 (MQ below (WQv sz D (wHA cI cJ a τ σ) (wHA cI cJ a τ r)) ([.ref (a 0), .int p1] : List Value).toArray s 0 0 A) (F0 m 2 ls []) := by
    intro n
    induction n with
    | zero => intro z x1 x2 H locs ls hP hS hl hf; cases hf
    | succ n ih =>
      intro z x1 x2 H locs ls hP hS hl hf
      rw [fX2_reckonPulls_L2] at hf
      refine lv_iload_n hx hb dX2_reckonPulls_2 rfl (lv_at hl 2 rfl) ?_
      refine lv_iload_n hx hb dX2_reckonPulls_3 rfl (lv_at hl 1 rfl) ?_
      refine k_icmp_gt (tgt := 36) hx hb dX2_reckonPulls_4 (by decide) hf (fun hf => ?_) (fun hf => ?_)
      · exact W_vret (wHA cI cJ a τ) hx hb hr hlk hP hS hAe hf dX2_reckonPulls_36
      · refine lv_iload_n hx hb dX2_reckonPulls_7 rfl (lv_at hl 2 rfl) ?_
        refine lv_aload_n hx hb dX2_reckonPulls_8 rfl (lv_at hl 0 rfl) ?_
        refine va_get (D := D) (ci := 2) (v := .ref (a 22)) (C := RX2) (T := TX2) (N := 14) hx hb hts inX2 hown hK hP 0 rfl rfl 5 (by decide) ln1 (fun _ h9 => h9) rfl dX2_reckonPulls_9 ?_
        refine va_alen (v := (31 : Int32)) hx hb hK hP 22 0 rfl rfl rfl dX2_reckonPulls_12 ?_
        refine k_icmp_ge (tgt := 36) hx hb dX2_reckonPulls_13 (by decide) hf (fun hf => ?_) (fun hf => ?_)
        · exact W_vret (wHA cI cJ a τ) hx hb hr hlk hP hS hAe hf dX2_reckonPulls_36
        · refine lv_aload_n hx hb dX2_reckonPulls_16 rfl (lv_at hl 0 rfl) ?_
          refine va_get (D := D) (ci := 2) (v := .ref (a 22)) (C := RX2) (T := TX2) (N := 14) hx hb hts inX2 hown hK hP 0 rfl rfl 5 (by decide) ln1 (fun _ h9 => h9) rfl dX2_reckonPulls_17 ?_
          refine lv_iload_n hx hb dX2_reckonPulls_20 rfl (lv_at hl 2 rfl) ?_
          refine lv_aload_n hx hb dX2_reckonPulls_21 rfl (lv_at hl 0 rfl) ?_
          refine va_get (D := D) (ci := 2) (v := .ref (a 1)) (C := RX2) (T := TX2) (N := 14) hx hb hts inX2 hown hK hP 0 rfl rfl 0 (by decide) ln3 (fun _ h9 => h9) rfl dX2_reckonPulls_22 ?_
          refine lv_iload_n hx hb dX2_reckonPulls_25 rfl (lv_at hl 2 rfl) ?_
          refine c_callV (As := [.int x2]) (rest := [.int x2, .ref (a 22)]) ⟨hx, hb, hml, hown, hts⟩ hf (fun vq hq => mX0_pullAfter l D cI cJ (sb [1, 2, 3, 4, 5, 6] a) H.size N (sb [1, 2, 3, 4, 5, 6] z) x2 vq hq) (cwV 1 hts gX2_reckonPulls_X0_pullAfter rfl rfl rfl qX0_pullAfter ⟨Nat.le_of_ble_eq_true rfl, Nat.le_of_ble_eq_true rfl⟩) hK hP hS hA (cmr_HA_Ho_1_2_3_4_5_6 D cI cJ a τ z hP) 0 rfl rfl rfl rfl hl.1 rfl (Nat.le_of_ble_eq_true rfl) dX2_reckonPulls_26 ⟨Nat.le_refl _, Nat.le_refl _⟩ (fun v1 H locs hP hS hf => ?_)
          refine k_iast (w := (wHA cI cJ a τ)) hx hb hK hP hD hS 22 0 hf rfl rfl (fun _ => rfl) dX2_reckonPulls_29 (fun z2 H locs hP hS hf => ?_)
          refine k_iinc (d := (1 : Int32)) (lv' := fun v3 => [(2, .int v3), (0, .ref (a 0)), (1, .int x1)]) hx hb dX2_reckonPulls_30 hl (k := 2) rfl (by decide) (by decide) (fun _ => rfl) hf (fun v3 ls hl hf => ?_)
          refine lv_goto (tgt := 2) hx hb dX2_reckonPulls_33 (by decide) ?_
          exact ih z2 x1 v3 H locs ls hP hS (lv_sub hl [1, 2, 0] rfl) hf
  unfold fX2_reckonPulls at hf
  refine lv_iconst (v := (0 : Int32)) hx hb dX2_reckonPulls_0 (by decide) ?_
  refine lv_istore_n (lv' := [(2, .int (0 : Int32)), (0, .ref (a 0)), (1, .int p1)]) hx hb dX2_reckonPulls_1 rfl hl (by decide) rfl (fun ls hl => ?_)
  exact b2  N σ p1 (0 : Int32) s.heap [] ls hP hS (lv_sub hl [1, 2, 0] rfl) hf
