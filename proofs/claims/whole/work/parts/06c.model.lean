def fX3_turn_L33 (N : Nat)  (z : St) (x1 : Int32) (x2 : Int32) (x3 : Int32) (y0 : Int32) : Option (Int32 × St) :=
    if y0 = 0 then bo (fX3_of N x1 (0 : Int32)) (fun v4 =>
    bo (rdI z 1 38 v4) (fun v5 =>
    bo (fX3_of N x1 (1 : Int32)) (fun v6 =>
    bo (rdI z 1 38 v6) (fun v7 =>
    lt_ ((((10 : Int32) * v5) + v7) : Int32) (fun v8 =>
    bo (fX3_of N x1 (0 : Int32)) (fun v9 =>
    bo (wrI z 1 38 v9 x2) (fun z10 =>
    bo (fX3_of N x1 (1 : Int32)) (fun v11 =>
    bo (wrI z10 1 38 v11 x3) (fun z12 =>
    some (v8, z12))))))))))
    else bx (fX3_no N z y0) (fun uq => uq) (fun v14 z13 =>
    some (v14, z13))
def fX3_turn (N : Nat) (σ : St) (p1 : Int32) (p2 : Int32) (p3 : Int32) : Option (Int32 × St) :=
    bo (fX3_isThing N σ p1) (fun v1 =>
    if v1 = 0 then fX3_turn_L33 N  σ p1 p2 p3 (-1 : Int32)
    else bo (fX3_isIn N p2 (0 : Int32) (5 : Int32)) (fun v2 =>
    if v2 = 0 then fX3_turn_L33 N  σ p1 p2 p3 (-2 : Int32)
    else bo (fX3_wrongBy N p3 (0 : Int32) (9 : Int32)) (fun v3 =>
    fX3_turn_L33 N  σ p1 p2 p3 v3)))
abbrev rmX3_turn : Room := { frames := 2, cells := 0, slots := 0, locals := 43 }
theorem qX3_turn : yX3_turn.cls = RX3 ∧ yX3_turn.cls ≠ "java/lang/invoke/MethodHandle" ∧ yX3_turn.cls ≠ "java/lang/invoke/VarHandle" ∧ (parseMethodDescriptor yX3_turn.desc).map (fun d => d.parameters.length) = some 3 := by decide +kernel
set_option maxHeartbeats 400000 in
set_option maxRecDepth 100000 in
theorem mX3_turn (l : Launch) (D : va_G) (cI cJ : ClassId) (a : Nat → Nat) (sz N : Nat) (σ : St) (p1 : Int32) (p2 : Int32) (p3 : Int32) (r : (Int32 × St)) (hf : fX3_turn N σ p1 p2 p3 = some r) : Met l yX3_turn wsX3_turn rmX3_turn (WPre ([.ref (a 0), .int p1, .int p2, .int p3] : List Value) sz D (tyIJ cI cJ) (wMo cI a σ)) (WQi sz D (wMo cI a σ) (wMo cI a (r.2)) r.1) 0 0 (va_A (wMo cI a σ) sz) := by
  refine W_start (cc := cX3_turn) (maxL := 6) (ret := (some .int)) (by decide) rfl (Nat.le_of_ble_eq_true rfl) (fun p e s m below meth c ls A hx hb hr hml hown hts hlk hP hK hS hA hD0 hAe hl => ?_)
  have hD : ∀ z, va_D A ((fun z => wMo cI a z) z) := fun z => hD0.ad rfl
  have hown : s.vm.findClass RX3 = some m.cls := hown
  have hl : lv_has ls 6 [(0, .ref (a 0)), (1, .int p1), (2, .int p2), (3, .int p3)] := hl
  have ln1 := hts (Cond.fieldLink RX3 9 "HoistsAreSharedModel" "s" "[I") (List.mem_of_getElem? (i := 1) rfl)
  have inX3 : ∀ w ∈ u_ws RX3 TX3 13, w ∈ wsX3_turn := fun _ h => List.mem_cons_of_mem _ (List.mem_append_right _ h)
  have b33 : ∀  (z : St) (x1 : Int32) (x2 : Int32) (x3 : Int32) (y0 : Int32) (H : Heap) (locs : List Loc) (ls : Array Slot), va_P D vwCl (wMo cI a z) H → va_S A s.heap H locs → lv_has ls 6 [(0, .ref (a 0)), (1, .int x1), (2, .int x2), (3, .int x3)] → fX3_turn_L33 N z x1 x2 x3 y0 = some r → W p l e rmX3_turn s m ([.ref (a 0), .int p1, .int p2, .int p3] : List Value).toArray below meth c H locs 0 0 (MQ below (WQi sz D (wMo cI a σ) (wMo cI a (r.2)) r.1) ([.ref (a 0), .int p1, .int p2, .int p3] : List Value).toArray s 0 0 A) (F0 m 33 ls [.int y0]) := by
    intro  z x1 x2 x3 y0 H locs ls hP hS hl hf
    unfold fX3_turn_L33 at hf
    refine lv_istore (lv' := [(4, .int y0), (0, .ref (a 0)), (1, .int x1), (2, .int x2), (3, .int x3)]) hx hb dX3_turn_33 hl (by decide) rfl (fun ls hl => ?_)
    refine lv_iload hx hb dX3_turn_35 (lv_at hl 0 rfl) ?_
    refine k_if_eq (tgt := 47) hx hb dX3_turn_37 (by decide) hf (fun hf => ?_) (fun hf => ?_)
    · refine lv_bipush (v := (10 : Int32)) hx hb dX3_turn_47 (by decide) ?_
      refine lv_aload_n hx hb dX3_turn_49 rfl (lv_at hl 1 rfl) ?_
      refine va_get (D := D) (ci := 3) (v := .ref (a 1)) (C := RX3) (T := TX3) (N := 13) hx hb hts inX3 hown hK hP 0 rfl rfl 0 (by decide) ln1 (fun _ h9 => h9) rfl dX3_turn_50 ?_
      refine lv_iload_n hx hb dX3_turn_53 rfl (lv_at hl 2 rfl) ?_
      refine lv_iconst (v := (0 : Int32)) hx hb dX3_turn_54 (by decide) ?_
      refine c_callS (As := [.int x1, .int (0 : Int32)]) (rest := [.ref (a 1), .int (10 : Int32)]) ⟨hx, hb, hml, hown, hts⟩ hf (fun vq hq => mX3_of l D cI cJ H.size N x1 (0 : Int32) vq hq) (va_cwS 2 hts gX3_turn_X3_of rfl rfl rfl qX3_of ⟨Nat.le_of_ble_eq_true rfl, Nat.le_of_ble_eq_true rfl⟩) hK hP hS hA va_P_nil rfl hl.1 rfl (Nat.le_of_ble_eq_true rfl) dX3_turn_55 ⟨Nat.le_refl _, Nat.le_refl _⟩ (fun v4 H locs hP hS hf => ?_)
      refine k_iald hx hb hK hP 1 0 hf rfl rfl dX3_turn_58 (fun v5 hf => ?_)
      refine lv_imul hx hb dX3_turn_59 ?_
      refine lv_aload_n hx hb dX3_turn_60 rfl (lv_at hl 1 rfl) ?_
      refine va_get (D := D) (ci := 3) (v := .ref (a 1)) (C := RX3) (T := TX3) (N := 13) hx hb hts inX3 hown hK hP 0 rfl rfl 0 (by decide) ln1 (fun _ h9 => h9) rfl dX3_turn_61 ?_
      refine lv_iload_n hx hb dX3_turn_64 rfl (lv_at hl 2 rfl) ?_
      refine lv_iconst (v := (1 : Int32)) hx hb dX3_turn_65 (by decide) ?_
      refine c_callS (As := [.int x1, .int (1 : Int32)]) (rest := [.ref (a 1), .int ((10 : Int32) * v5)]) ⟨hx, hb, hml, hown, hts⟩ hf (fun vq hq => mX3_of l D cI cJ H.size N x1 (1 : Int32) vq hq) (va_cwS 2 hts gX3_turn_X3_of rfl rfl rfl qX3_of ⟨Nat.le_of_ble_eq_true rfl, Nat.le_of_ble_eq_true rfl⟩) hK hP hS hA va_P_nil rfl hl.1 rfl (Nat.le_of_ble_eq_true rfl) dX3_turn_66 ⟨Nat.le_refl _, Nat.le_refl _⟩ (fun v6 H locs hP hS hf => ?_)
      refine k_iald hx hb hK hP 1 0 hf rfl rfl dX3_turn_69 (fun v7 hf => ?_)
      refine lv_iadd hx hb dX3_turn_70 ?_
      refine k_let hf (fun v8 hf => ?_)
      refine lv_istore (lv' := [(5, .int v8), (4, .int y0), (0, .ref (a 0)), (1, .int x1), (2, .int x2), (3, .int x3)]) hx hb dX3_turn_71 hl (by decide) rfl (fun ls hl => ?_)
      refine lv_aload_n hx hb dX3_turn_73 rfl (lv_at hl 2 rfl) ?_
      refine va_get (D := D) (ci := 3) (v := .ref (a 1)) (C := RX3) (T := TX3) (N := 13) hx hb hts inX3 hown hK hP 0 rfl rfl 0 (by decide) ln1 (fun _ h9 => h9) rfl dX3_turn_74 ?_
      refine lv_iload_n hx hb dX3_turn_77 rfl (lv_at hl 3 rfl) ?_
      refine lv_iconst (v := (0 : Int32)) hx hb dX3_turn_78 (by decide) ?_
      refine c_callS (As := [.int x1, .int (0 : Int32)]) (rest := [.ref (a 1)]) ⟨hx, hb, hml, hown, hts⟩ hf (fun vq hq => mX3_of l D cI cJ H.size N x1 (0 : Int32) vq hq) (va_cwS 2 hts gX3_turn_X3_of rfl rfl rfl qX3_of ⟨Nat.le_of_ble_eq_true rfl, Nat.le_of_ble_eq_true rfl⟩) hK hP hS hA va_P_nil rfl hl.1 rfl (Nat.le_of_ble_eq_true rfl) dX3_turn_79 ⟨Nat.le_refl _, Nat.le_refl _⟩ (fun v9 H locs hP hS hf => ?_)
      refine lv_iload_n hx hb dX3_turn_82 rfl (lv_at hl 4 rfl) ?_
      refine k_iast (w := (fun z => wMo cI a z)) hx hb hK hP hD hS 1 0 hf rfl rfl (fun _ => rfl) dX3_turn_83 (fun z10 H locs hP hS hf => ?_)
      refine lv_aload_n hx hb dX3_turn_84 rfl (lv_at hl 2 rfl) ?_
      refine va_get (D := D) (ci := 3) (v := .ref (a 1)) (C := RX3) (T := TX3) (N := 13) hx hb hts inX3 hown hK hP 0 rfl rfl 0 (by decide) ln1 (fun _ h9 => h9) rfl dX3_turn_85 ?_
      refine lv_iload_n hx hb dX3_turn_88 rfl (lv_at hl 3 rfl) ?_
      refine lv_iconst (v := (1 : Int32)) hx hb dX3_turn_89 (by decide) ?_
      refine c_callS (As := [.int x1, .int (1 : Int32)]) (rest := [.ref (a 1)]) ⟨hx, hb, hml, hown, hts⟩ hf (fun vq hq => mX3_of l D cI cJ H.size N x1 (1 : Int32) vq hq) (va_cwS 2 hts gX3_turn_X3_of rfl rfl rfl qX3_of ⟨Nat.le_of_ble_eq_true rfl, Nat.le_of_ble_eq_true rfl⟩) hK hP hS hA va_P_nil rfl hl.1 rfl (Nat.le_of_ble_eq_true rfl) dX3_turn_90 ⟨Nat.le_refl _, Nat.le_refl _⟩ (fun v11 H locs hP hS hf => ?_)
      refine lv_iload_n hx hb dX3_turn_93 rfl (lv_at hl 5 rfl) ?_
      refine k_iast (w := (fun z => wMo cI a z)) hx hb hK hP hD hS 1 0 hf rfl rfl (fun _ => rfl) dX3_turn_94 (fun z12 H locs hP hS hf => ?_)
      refine lv_iload hx hb dX3_turn_95 (lv_at hl 0 rfl) ?_
      exact W_iret (fun z => wMo cI a z) hx hb hr hlk hP hS hAe hf dX3_turn_97
    · refine lv_aload_n hx hb dX3_turn_40 rfl (lv_at hl 1 rfl) ?_
      refine lv_iload hx hb dX3_turn_41 (lv_at hl 0 rfl) ?_
      refine d_callV (As := [.int y0]) (rest := []) (w := (fun z => wMo cI a z)) (wc := (wMo cI a)) (put := (fun uq => uq)) (σ := z) (τ0 := z) ⟨hx, hb, hml, hown, hts⟩ hf (fun vq zq hq => mX3_no l D cI cJ a H.size N z y0 (vq, zq) hq) (cwV 1 hts gX3_turn_X3_no rfl rfl rfl qX3_no ⟨Nat.le_of_ble_eq_true rfl, Nat.le_of_ble_eq_true rfl⟩) hK hP hD hS hA ⟨hP, hD _, fun _ _ _ h => h⟩ 3 rfl rfl rfl rfl hl.1 rfl (Nat.le_of_ble_eq_true rfl) dX3_turn_43 ⟨Nat.le_refl _, Nat.le_refl _⟩ (fun v14 z13 H locs hP hS hf => ?_)
      exact W_iret (fun z => wMo cI a z) hx hb hr hlk hP hS hAe hf dX3_turn_46
  unfold fX3_turn at hf
  refine lv_aload_n hx hb dX3_turn_0 rfl (lv_at hl 0 rfl) ?_
  refine lv_iload_n hx hb dX3_turn_1 rfl (lv_at hl 1 rfl) ?_
  refine c_callV (As := [.int p1]) (rest := []) ⟨hx, hb, hml, hown, hts⟩ hf (fun vq hq => mX3_isThing l D cI cJ a s.heap.size N σ p1 vq hq) (cwV 1 hts gX3_turn_X3_isThing rfl rfl rfl qX3_isThing ⟨Nat.le_of_ble_eq_true rfl, Nat.le_of_ble_eq_true rfl⟩) hK hP hS hA hP 3 rfl rfl rfl rfl hl.1 rfl (Nat.le_of_ble_eq_true rfl) dX3_turn_2 ⟨Nat.le_refl _, Nat.le_refl _⟩ (fun v1 H locs hP hS hf => ?_)
  refine k_if_ne (tgt := 12) hx hb dX3_turn_5 (by decide) hf (fun hf => ?_) (fun hf => ?_)
  · refine lv_iload_n hx hb dX3_turn_12 rfl (lv_at hl 2 rfl) ?_
    refine lv_iconst (v := (0 : Int32)) hx hb dX3_turn_13 (by decide) ?_
    refine lv_iconst (v := (5 : Int32)) hx hb dX3_turn_14 (by decide) ?_
    refine c_callS (As := [.int p2, .int (0 : Int32), .int (5 : Int32)]) (rest := []) ⟨hx, hb, hml, hown, hts⟩ hf (fun vq hq => mX3_isIn l D cI cJ H.size N p2 (0 : Int32) (5 : Int32) vq hq) (va_cwS 3 hts gX3_turn_X3_isIn rfl rfl rfl qX3_isIn ⟨Nat.le_of_ble_eq_true rfl, Nat.le_of_ble_eq_true rfl⟩) hK hP hS hA va_P_nil rfl hl.1 rfl (Nat.le_of_ble_eq_true rfl) dX3_turn_15 ⟨Nat.le_refl _, Nat.le_refl _⟩ (fun v2 H locs hP hS hf => ?_)
    refine k_if_ne (tgt := 26) hx hb dX3_turn_18 (by decide) hf (fun hf => ?_) (fun hf => ?_)
    · refine lv_iload_n hx hb dX3_turn_26 rfl (lv_at hl 3 rfl) ?_
      refine lv_iconst (v := (0 : Int32)) hx hb dX3_turn_27 (by decide) ?_
      refine lv_bipush (v := (9 : Int32)) hx hb dX3_turn_28 (by decide) ?_
      refine c_callS (As := [.int p3, .int (0 : Int32), .int (9 : Int32)]) (rest := []) ⟨hx, hb, hml, hown, hts⟩ hf (fun vq hq => mX3_wrongBy l D cI cJ H.size N p3 (0 : Int32) (9 : Int32) vq hq) (va_cwS 3 hts gX3_turn_X3_wrongBy rfl rfl rfl qX3_wrongBy ⟨Nat.le_of_ble_eq_true rfl, Nat.le_of_ble_eq_true rfl⟩) hK hP hS hA va_P_nil rfl hl.1 rfl (Nat.le_of_ble_eq_true rfl) dX3_turn_30 ⟨Nat.le_refl _, Nat.le_refl _⟩ (fun v3 H locs hP hS hf => ?_)
      exact b33  σ p1 p2 p3 v3 H locs ls hP hS (lv_sub hl [0, 1, 2, 3] rfl) hf
    · refine lv_bipush (v := (-2 : Int32)) hx hb dX3_turn_21 (by decide) ?_
      refine lv_goto (tgt := 33) hx hb dX3_turn_23 (by decide) ?_
      exact b33  σ p1 p2 p3 (-2 : Int32) H locs ls hP hS (lv_sub hl [0, 1, 2, 3] rfl) hf
  · refine lv_iconst (v := (-1 : Int32)) hx hb dX3_turn_8 (by decide) ?_
    refine lv_goto (tgt := 33) hx hb dX3_turn_9 (by decide) ?_
    exact b33  σ p1 p2 p3 (-1 : Int32) H locs ls hP hS (lv_sub hl [0, 1, 2, 3] rfl) hf
def fX3_days_L32 (N : Nat)  (z : St) : Option (Int32 × St) :=
    bx (fX3_no N z (-6 : Int32)) (fun uq => uq) (fun v2 z1 =>
    some (v2, z1))
def fX3_days (N : Nat) (σ : St) (p1 : Int32) : Option (Int32 × St) :=
    if (1 : Int32) ≤ p1 then if (60 : Int32) < p1 then fX3_days_L32 N  σ
    else bo (rdI σ 1 38 (1 : Int32)) (fun v3 =>
    if (v3 + p1) ≤ (999 : Int32) then by_ (fX3_daysOn N (sb [1] σ) p1) (fun uq => pb [1] uq σ) (fun z4 =>
    bo (rdI z4 1 38 (2 : Int32)) (fun v5 =>
    some (v5, z4)))
    else fX3_days_L32 N  σ)
    else bx (fX3_no N σ (-4 : Int32)) (fun uq => uq) (fun v7 z6 =>
    some (v7, z6))
abbrev rmX3_days : Room := { frames := 8, cells := 0, slots := 0, locals := 178 }
theorem qX3_days : yX3_days.cls = RX3 ∧ yX3_days.cls ≠ "java/lang/invoke/MethodHandle" ∧ yX3_days.cls ≠ "java/lang/invoke/VarHandle" ∧ (parseMethodDescriptor yX3_days.desc).map (fun d => d.parameters.length) = some 1 := by decide +kernel
set_option maxHeartbeats 400000 in
set_option maxRecDepth 100000 in
theorem mX3_days (l : Launch) (D : va_G) (cI cJ : ClassId) (a : Nat → Nat) (sz N : Nat) (σ : St) (p1 : Int32) (r : (Int32 × St)) (hf : fX3_days N σ p1 = some r) : Met l yX3_days wsX3_days rmX3_days (WPre ([.ref (a 0), .int p1] : List Value) sz D (tyIJ cI cJ) (wMo cI a σ)) (WQi sz D (wMo cI a σ) (wMo cI a (r.2)) r.1) 0 0 (va_A (wMo cI a σ) sz) := by
  refine W_start (cc := cX3_days) (maxL := 2) (ret := (some .int)) (by decide) rfl (Nat.le_of_ble_eq_true rfl) (fun p e s m below meth c ls A hx hb hr hml hown hts hlk hP hK hS hA hD0 hAe hl => ?_)
  have hD : ∀ z, va_D A ((fun z => wMo cI a z) z) := fun z => hD0.ad rfl
  have hown : s.vm.findClass RX3 = some m.cls := hown
  have hl : lv_has ls 2 [(0, .ref (a 0)), (1, .int p1)] := hl
  have ln1 := hts (Cond.fieldLink RX3 9 "HoistsAreSharedModel" "s" "[I") (List.mem_of_getElem? (i := 1) rfl)
  have inX3 : ∀ w ∈ u_ws RX3 TX3 13, w ∈ wsX3_days := fun _ h => List.mem_cons_of_mem _ (List.mem_append_right _ h)
  have b32 : ∀  (z : St) (H : Heap) (locs : List Loc) (ls : Array Slot), va_P D vwCl (wMo cI a z) H → va_S A s.heap H locs → lv_has ls 2 [(0, .ref (a 0))] → fX3_days_L32 N z = some r → W p l e rmX3_days s m ([.ref (a 0), .int p1] : List Value).toArray below meth c H locs 0 0 (MQ below (WQi sz D (wMo cI a σ) (wMo cI a (r.2)) r.1) ([.ref (a 0), .int p1] : List Value).toArray s 0 0 A) (F0 m 32 ls []) := by
    intro  z H locs ls hP hS hl hf
    unfold fX3_days_L32 at hf
    refine lv_aload_n hx hb dX3_days_32 rfl (lv_at hl 0 rfl) ?_
    refine lv_bipush (v := (-6 : Int32)) hx hb dX3_days_33 (by decide) ?_
    refine d_callV (As := [.int (-6 : Int32)]) (rest := []) (w := (fun z => wMo cI a z)) (wc := (wMo cI a)) (put := (fun uq => uq)) (σ := z) (τ0 := z) ⟨hx, hb, hml, hown, hts⟩ hf (fun vq zq hq => mX3_no l D cI cJ a H.size N z (-6 : Int32) (vq, zq) hq) (cwV 1 hts gX3_days_X3_no rfl rfl rfl qX3_no ⟨Nat.le_of_ble_eq_true rfl, Nat.le_of_ble_eq_true rfl⟩) hK hP hD hS hA ⟨hP, hD _, fun _ _ _ h => h⟩ 3 rfl rfl rfl rfl hl.1 rfl (Nat.le_of_ble_eq_true rfl) dX3_days_35 ⟨Nat.le_refl _, Nat.le_refl _⟩ (fun v2 z1 H locs hP hS hf => ?_)
    exact W_iret (fun z => wMo cI a z) hx hb hr hlk hP hS hAe hf dX3_days_38
  unfold fX3_days at hf
  refine lv_iload_n hx hb dX3_days_0 rfl (lv_at hl 1 rfl) ?_
  refine lv_iconst (v := (1 : Int32)) hx hb dX3_days_1 (by decide) ?_
  refine k_icmp_ge (tgt := 12) hx hb dX3_days_2 (by decide) hf (fun hf => ?_) (fun hf => ?_)
  · refine lv_iload_n hx hb dX3_days_12 rfl (lv_at hl 1 rfl) ?_
    refine lv_bipush (v := (60 : Int32)) hx hb dX3_days_13 (by decide) ?_
    refine k_icmp_gt (tgt := 32) hx hb dX3_days_15 (by decide) hf (fun hf => ?_) (fun hf => ?_)
    · exact b32  σ s.heap [] ls hP hS (lv_sub hl [0] rfl) hf
    · refine lv_aload_n hx hb dX3_days_18 rfl (lv_at hl 0 rfl) ?_
      refine va_get (D := D) (ci := 3) (v := .ref (a 1)) (C := RX3) (T := TX3) (N := 13) hx hb hts inX3 hown hK hP 0 rfl rfl 0 (by decide) ln1 (fun _ h9 => h9) rfl dX3_days_19 ?_
      refine lv_iconst (v := (1 : Int32)) hx hb dX3_days_22 (by decide) ?_
      refine k_iald hx hb hK hP 1 0 hf rfl rfl dX3_days_23 (fun v3 hf => ?_)
      refine lv_iload_n hx hb dX3_days_24 rfl (lv_at hl 1 rfl) ?_
      refine lv_iadd hx hb dX3_days_25 ?_
      refine lv_sipush (v := (999 : Int32)) hx hb dX3_days_26 (by decide) ?_
      refine k_icmp_le (tgt := 39) hx hb dX3_days_29 (by decide) hf (fun hf => ?_) (fun hf => ?_)
      · refine lv_aload_n hx hb dX3_days_39 rfl (lv_at hl 0 rfl) ?_
        refine va_get (D := D) (ci := 3) (v := .ref (a 1)) (C := RX3) (T := TX3) (N := 13) hx hb hts inX3 hown hK hP 0 rfl rfl 0 (by decide) ln1 (fun _ h9 => h9) rfl dX3_days_40 ?_
        refine lv_iload_n hx hb dX3_days_43 rfl (lv_at hl 1 rfl) ?_
        refine d_callSv (As := [.ref ((sb [1] a) 0), .int p1]) (rest := []) (w := (fun z => wMo cI a z)) (wc := (wAr cI (sb [1] a))) (put := (fun uq => pb [1] uq σ)) (σ := σ) (τ0 := (sb [1] σ)) ⟨hx, hb, hml, hown, hts⟩ hf (fun zq hq => mX3_daysOn l D cI cJ (sb [1] a) s.heap.size N (sb [1] σ) p1 zq hq) (va_cwS 2 hts gX3_days_X3_daysOn rfl rfl rfl qX3_daysOn ⟨Nat.le_of_ble_eq_true rfl, Nat.le_of_ble_eq_true rfl⟩) hK hP hD hS hA (cmb_Mo_Ar_1 D cI a σ hP (hD _)) rfl hl.1 rfl (Nat.le_of_ble_eq_true rfl) dX3_days_44 ⟨Nat.le_refl _, Nat.le_refl _⟩ (fun z4 H locs hP hS hf => ?_)
        refine lv_aload_n hx hb dX3_days_47 rfl (lv_at hl 0 rfl) ?_
        refine va_get (D := D) (ci := 3) (v := .ref (a 1)) (C := RX3) (T := TX3) (N := 13) hx hb hts inX3 hown hK hP 0 rfl rfl 0 (by decide) ln1 (fun _ h9 => h9) rfl dX3_days_48 ?_
        refine lv_iconst (v := (2 : Int32)) hx hb dX3_days_51 (by decide) ?_
        refine k_iald hx hb hK hP 1 0 hf rfl rfl dX3_days_52 (fun v5 hf => ?_)
        exact W_iret (fun z => wMo cI a z) hx hb hr hlk hP hS hAe hf dX3_days_53
      · exact b32  σ s.heap [] ls hP hS (lv_sub hl [0] rfl) hf
  · refine lv_aload_n hx hb dX3_days_5 rfl (lv_at hl 0 rfl) ?_
    refine lv_bipush (v := (-4 : Int32)) hx hb dX3_days_6 (by decide) ?_
    refine d_callV (As := [.int (-4 : Int32)]) (rest := []) (w := (fun z => wMo cI a z)) (wc := (wMo cI a)) (put := (fun uq => uq)) (σ := σ) (τ0 := σ) ⟨hx, hb, hml, hown, hts⟩ hf (fun vq zq hq => mX3_no l D cI cJ a s.heap.size N σ (-4 : Int32) (vq, zq) hq) (cwV 1 hts gX3_days_X3_no rfl rfl rfl qX3_no ⟨Nat.le_of_ble_eq_true rfl, Nat.le_of_ble_eq_true rfl⟩) hK hP hD hS hA ⟨hP, hD _, fun _ _ _ h => h⟩ 3 rfl rfl rfl rfl hl.1 rfl (Nat.le_of_ble_eq_true rfl) dX3_days_8 ⟨Nat.le_refl _, Nat.le_refl _⟩ (fun v7 z6 H locs hP hS hf => ?_)
    exact W_iret (fun z => wMo cI a z) hx hb hr hlk hP hS hAe hf dX3_days_11
def fX3_takes (N : Nat) (σ : St) (p1 : Int32) : Option St :=
    by_ (fX3_copies N (sb [1, 2] σ)) (fun uq => pb [1, 2] uq σ) (fun z1 =>
    by_ (fX3_daysOn N (sb [2] z1) p1) (fun uq => pb [2] uq z1) (fun z2 =>
    some z2))
abbrev rmX3_takes : Room := { frames := 8, cells := 0, slots := 0, locals := 178 }
theorem qX3_takes : yX3_takes.cls = RX3 ∧ yX3_takes.cls ≠ "java/lang/invoke/MethodHandle" ∧ yX3_takes.cls ≠ "java/lang/invoke/VarHandle" ∧ (parseMethodDescriptor yX3_takes.desc).map (fun d => d.parameters.length) = some 1 := by decide +kernel
set_option maxHeartbeats 400000 in
set_option maxRecDepth 100000 in
theorem mX3_takes (l : Launch) (D : va_G) (cI cJ : ClassId) (a : Nat → Nat) (sz N : Nat) (σ : St) (p1 : Int32) (r : St) (hf : fX3_takes N σ p1 = some r) : Met l yX3_takes wsX3_takes rmX3_takes (WPre ([.ref (a 0), .int p1] : List Value) sz D (tyIJ cI cJ) (wMo cI a σ)) (WQv sz D (wMo cI a σ) (wMo cI a r)) 0 0 (va_A (wMo cI a σ) sz) := by
  refine W_start (cc := cX3_takes) (maxL := 2) (ret := none) (by decide) rfl (Nat.le_of_ble_eq_true rfl) (fun p e s m below meth c ls A hx hb hr hml hown hts hlk hP hK hS hA hD0 hAe hl => ?_)
  have hD : ∀ z, va_D A ((fun z => wMo cI a z) z) := fun z => hD0.ad rfl
  have hown : s.vm.findClass RX3 = some m.cls := hown
  have hl : lv_has ls 2 [(0, .ref (a 0)), (1, .int p1)] := hl
  have ln1 := hts (Cond.fieldLink RX3 9 "HoistsAreSharedModel" "s" "[I") (List.mem_of_getElem? (i := 1) rfl)
  have inX3 : ∀ w ∈ u_ws RX3 TX3 13, w ∈ wsX3_takes := fun _ h => List.mem_cons_of_mem _ (List.mem_append_right _ h)
  have ln3 := hts (Cond.fieldLink RX3 13 "HoistsAreSharedModel" "m" "[I") (List.mem_of_getElem? (i := 2) rfl)
  unfold fX3_takes at hf
  refine lv_aload_n hx hb dX3_takes_0 rfl (lv_at hl 0 rfl) ?_
  refine va_get (D := D) (ci := 3) (v := .ref (a 1)) (C := RX3) (T := TX3) (N := 13) hx hb hts inX3 hown hK hP 0 rfl rfl 0 (by decide) ln1 (fun _ h9 => h9) rfl dX3_takes_1 ?_
  refine lv_aload_n hx hb dX3_takes_4 rfl (lv_at hl 0 rfl) ?_
  refine va_get (D := D) (ci := 3) (v := .ref (a 2)) (C := RX3) (T := TX3) (N := 13) hx hb hts inX3 hown hK hP 0 rfl rfl 1 (by decide) ln3 (fun _ h9 => h9) rfl dX3_takes_5 ?_
  refine d_callSv (As := [.ref ((sb [1, 2] a) 0), .ref ((sb [1, 2] a) 1)]) (rest := []) (w := (fun z => wMo cI a z)) (wc := (wAr2 cI (sb [1, 2] a))) (put := (fun uq => pb [1, 2] uq σ)) (σ := σ) (τ0 := (sb [1, 2] σ)) ⟨hx, hb, hml, hown, hts⟩ hf (fun zq hq => mX3_copies l D cI cJ (sb [1, 2] a) s.heap.size N (sb [1, 2] σ) zq hq) (va_cwS 2 hts gX3_takes_X3_copies rfl rfl rfl qX3_copies ⟨Nat.le_of_ble_eq_true rfl, Nat.le_of_ble_eq_true rfl⟩) hK hP hD hS hA (cmb_Mo_Ar2_1_2 D cI a σ hP (hD _)) rfl hl.1 rfl (Nat.le_of_ble_eq_true rfl) dX3_takes_8 ⟨Nat.le_refl _, Nat.le_refl _⟩ (fun z1 H locs hP hS hf => ?_)
  refine lv_aload_n hx hb dX3_takes_11 rfl (lv_at hl 0 rfl) ?_
  refine va_get (D := D) (ci := 3) (v := .ref (a 2)) (C := RX3) (T := TX3) (N := 13) hx hb hts inX3 hown hK hP 0 rfl rfl 1 (by decide) ln3 (fun _ h9 => h9) rfl dX3_takes_12 ?_
  refine lv_iload_n hx hb dX3_takes_15 rfl (lv_at hl 1 rfl) ?_
  refine d_callSv (As := [.ref ((sb [2] a) 0), .int p1]) (rest := []) (w := (fun z => wMo cI a z)) (wc := (wAr cI (sb [2] a))) (put := (fun uq => pb [2] uq z1)) (σ := z1) (τ0 := (sb [2] z1)) ⟨hx, hb, hml, hown, hts⟩ hf (fun zq hq => mX3_daysOn l D cI cJ (sb [2] a) H.size N (sb [2] z1) p1 zq hq) (va_cwS 2 hts gX3_takes_X3_daysOn rfl rfl rfl qX3_daysOn ⟨Nat.le_of_ble_eq_true rfl, Nat.le_of_ble_eq_true rfl⟩) hK hP hD hS hA (cmb_Mo_Ar_2 D cI a z1 hP (hD _)) rfl hl.1 rfl (Nat.le_of_ble_eq_true rfl) dX3_takes_16 ⟨Nat.le_refl _, Nat.le_refl _⟩ (fun z2 H locs hP hS hf => ?_)
  exact W_vret (fun z => wMo cI a z) hx hb hr hlk hP hS hAe hf dX3_takes_19
def fX3_floorThen_L18 (N : Nat)  (z : St) (x1 : Int32) (x2 : Int32) (y0 : Int32) : Option (Int32 × St) :=
    if y0 = 0 then by_ (fX3_takes N z x2) (fun uq => uq) (fun z2 =>
    bo (fX3_floorOf N (sb [2] z2) x1) (fun v3 =>
    some (v3, z2)))
    else bx (fX3_no N z y0) (fun uq => uq) (fun v5 z4 =>
    some (v5, z4))
def fX3_floorThen (N : Nat) (σ : St) (p1 : Int32) (p2 : Int32) : Option (Int32 × St) :=
    bo (fX3_isSide N p1) (fun v1 =>
    if v1 = 0 then fX3_floorThen_L18 N  σ p1 p2 (-1 : Int32)
    else bo (fX3_wrongBy N p2 (0 : Int32) (60 : Int32)) (fun v6 =>
    fX3_floorThen_L18 N  σ p1 p2 v6))
abbrev rmX3_floorThen : Room := { frames := 9, cells := 0, slots := 0, locals := 199 }
theorem qX3_floorThen : yX3_floorThen.cls = RX3 ∧ yX3_floorThen.cls ≠ "java/lang/invoke/MethodHandle" ∧ yX3_floorThen.cls ≠ "java/lang/invoke/VarHandle" ∧ (parseMethodDescriptor yX3_floorThen.desc).map (fun d => d.parameters.length) = some 2 := by decide +kernel
set_option maxHeartbeats 400000 in
set_option maxRecDepth 100000 in
theorem mX3_floorThen (l : Launch) (D : va_G) (cI cJ : ClassId) (a : Nat → Nat) (sz N : Nat) (σ : St) (p1 : Int32) (p2 : Int32) (r : (Int32 × St)) (hf : fX3_floorThen N σ p1 p2 = some r) : Met l yX3_floorThen wsX3_floorThen rmX3_floorThen (WPre ([.ref (a 0), .int p1, .int p2] : List Value) sz D (tyIJ cI cJ) (wMo cI a σ)) (WQi sz D (wMo cI a σ) (wMo cI a (r.2)) r.1) 0 0 (va_A (wMo cI a σ) sz) := by
  refine W_start (cc := cX3_floorThen) (maxL := 4) (ret := (some .int)) (by decide) rfl (Nat.le_of_ble_eq_true rfl) (fun p e s m below meth c ls A hx hb hr hml hown hts hlk hP hK hS hA hD0 hAe hl => ?_)
  have hD : ∀ z, va_D A ((fun z => wMo cI a z) z) := fun z => hD0.ad rfl
  have hown : s.vm.findClass RX3 = some m.cls := hown
  have hl : lv_has ls 4 [(0, .ref (a 0)), (1, .int p1), (2, .int p2)] := hl
  have ln1 := hts (Cond.fieldLink RX3 13 "HoistsAreSharedModel" "m" "[I") (List.mem_of_getElem? (i := 1) rfl)
  have inX3 : ∀ w ∈ u_ws RX3 TX3 13, w ∈ wsX3_floorThen := fun _ h => List.mem_cons_of_mem _ (List.mem_append_right _ h)
  have b18 : ∀  (z : St) (x1 : Int32) (x2 : Int32) (y0 : Int32) (H : Heap) (locs : List Loc) (ls : Array Slot), va_P D vwCl (wMo cI a z) H → va_S A s.heap H locs → lv_has ls 4 [(0, .ref (a 0)), (1, .int x1), (2, .int x2)] → fX3_floorThen_L18 N z x1 x2 y0 = some r → W p l e rmX3_floorThen s m ([.ref (a 0), .int p1, .int p2] : List Value).toArray below meth c H locs 0 0 (MQ below (WQi sz D (wMo cI a σ) (wMo cI a (r.2)) r.1) ([.ref (a 0), .int p1, .int p2] : List Value).toArray s 0 0 A) (F0 m 18 ls [.int y0]) := by
    intro  z x1 x2 y0 H locs ls hP hS hl hf
    unfold fX3_floorThen_L18 at hf
    refine lv_istore_n (lv' := [(3, .int y0), (0, .ref (a 0)), (1, .int x1), (2, .int x2)]) hx hb dX3_floorThen_18 rfl hl (by decide) rfl (fun ls hl => ?_)
    refine lv_iload_n hx hb dX3_floorThen_19 rfl (lv_at hl 0 rfl) ?_
    refine k_if_eq (tgt := 29) hx hb dX3_floorThen_20 (by decide) hf (fun hf => ?_) (fun hf => ?_)
    · refine lv_aload_n hx hb dX3_floorThen_29 rfl (lv_at hl 1 rfl) ?_
      refine lv_iload_n hx hb dX3_floorThen_30 rfl (lv_at hl 3 rfl) ?_
      refine d_callVv (As := [.int x2]) (rest := []) (w := (fun z => wMo cI a z)) (wc := (wMo cI a)) (put := (fun uq => uq)) (σ := z) (τ0 := z) ⟨hx, hb, hml, hown, hts⟩ hf (fun zq hq => mX3_takes l D cI cJ a H.size N z x2 zq hq) (cwV 1 hts gX3_floorThen_X3_takes rfl rfl rfl qX3_takes ⟨Nat.le_of_ble_eq_true rfl, Nat.le_of_ble_eq_true rfl⟩) hK hP hD hS hA ⟨hP, hD _, fun _ _ _ h => h⟩ 3 rfl rfl rfl rfl hl.1 rfl (Nat.le_of_ble_eq_true rfl) dX3_floorThen_31 ⟨Nat.le_refl _, Nat.le_refl _⟩ (fun z2 H locs hP hS hf => ?_)
      refine lv_aload_n hx hb dX3_floorThen_34 rfl (lv_at hl 1 rfl) ?_
      refine va_get (D := D) (ci := 3) (v := .ref (a 2)) (C := RX3) (T := TX3) (N := 13) hx hb hts inX3 hown hK hP 0 rfl rfl 1 (by decide) ln1 (fun _ h9 => h9) rfl dX3_floorThen_35 ?_
      refine lv_iload_n hx hb dX3_floorThen_38 rfl (lv_at hl 2 rfl) ?_
      refine c_callS (As := [.ref ((sb [2] a) 0), .int x1]) (rest := []) ⟨hx, hb, hml, hown, hts⟩ hf (fun vq hq => mX3_floorOf l D cI cJ (sb [2] a) H.size N (sb [2] z2) x1 vq hq) (va_cwS 2 hts gX3_floorThen_X3_floorOf rfl rfl rfl qX3_floorOf ⟨Nat.le_of_ble_eq_true rfl, Nat.le_of_ble_eq_true rfl⟩) hK hP hS hA (cmr_Mo_Ar_2 D cI a z2 hP) rfl hl.1 rfl (Nat.le_of_ble_eq_true rfl) dX3_floorThen_39 ⟨Nat.le_refl _, Nat.le_refl _⟩ (fun v3 H locs hP hS hf => ?_)
      exact W_iret (fun z => wMo cI a z) hx hb hr hlk hP hS hAe hf dX3_floorThen_42
    · refine lv_aload_n hx hb dX3_floorThen_23 rfl (lv_at hl 1 rfl) ?_
      refine lv_iload_n hx hb dX3_floorThen_24 rfl (lv_at hl 0 rfl) ?_
      refine d_callV (As := [.int y0]) (rest := []) (w := (fun z => wMo cI a z)) (wc := (wMo cI a)) (put := (fun uq => uq)) (σ := z) (τ0 := z) ⟨hx, hb, hml, hown, hts⟩ hf (fun vq zq hq => mX3_no l D cI cJ a H.size N z y0 (vq, zq) hq) (cwV 1 hts gX3_floorThen_X3_no rfl rfl rfl qX3_no ⟨Nat.le_of_ble_eq_true rfl, Nat.le_of_ble_eq_true rfl⟩) hK hP hD hS hA ⟨hP, hD _, fun _ _ _ h => h⟩ 3 rfl rfl rfl rfl hl.1 rfl (Nat.le_of_ble_eq_true rfl) dX3_floorThen_25 ⟨Nat.le_refl _, Nat.le_refl _⟩ (fun v5 z4 H locs hP hS hf => ?_)
      exact W_iret (fun z => wMo cI a z) hx hb hr hlk hP hS hAe hf dX3_floorThen_28
  unfold fX3_floorThen at hf
  refine lv_iload_n hx hb dX3_floorThen_0 rfl (lv_at hl 1 rfl) ?_
  refine c_callS (As := [.int p1]) (rest := []) ⟨hx, hb, hml, hown, hts⟩ hf (fun vq hq => mX3_isSide l D cI cJ s.heap.size N p1 vq hq) (va_cwS 1 hts gX3_floorThen_X3_isSide rfl rfl rfl qX3_isSide ⟨Nat.le_of_ble_eq_true rfl, Nat.le_of_ble_eq_true rfl⟩) hK hP hS hA va_P_nil rfl hl.1 rfl (Nat.le_of_ble_eq_true rfl) dX3_floorThen_1 ⟨Nat.le_refl _, Nat.le_refl _⟩ (fun v1 H locs hP hS hf => ?_)
  refine k_if_eq (tgt := 17) hx hb dX3_floorThen_4 (by decide) hf (fun hf => ?_) (fun hf => ?_)
  · refine lv_iconst (v := (-1 : Int32)) hx hb dX3_floorThen_17 (by decide) ?_
    exact b18  σ p1 p2 (-1 : Int32) H locs ls hP hS (lv_sub hl [0, 1, 2] rfl) hf
  · refine lv_iload_n hx hb dX3_floorThen_7 rfl (lv_at hl 2 rfl) ?_
    refine lv_iconst (v := (0 : Int32)) hx hb dX3_floorThen_8 (by decide) ?_
    refine lv_bipush (v := (60 : Int32)) hx hb dX3_floorThen_9 (by decide) ?_
    refine c_callS (As := [.int p2, .int (0 : Int32), .int (60 : Int32)]) (rest := []) ⟨hx, hb, hml, hown, hts⟩ hf (fun vq hq => mX3_wrongBy l D cI cJ H.size N p2 (0 : Int32) (60 : Int32) vq hq) (va_cwS 3 hts gX3_floorThen_X3_wrongBy rfl rfl rfl qX3_wrongBy ⟨Nat.le_of_ble_eq_true rfl, Nat.le_of_ble_eq_true rfl⟩) hK hP hS hA va_P_nil rfl hl.1 rfl (Nat.le_of_ble_eq_true rfl) dX3_floorThen_11 ⟨Nat.le_refl _, Nat.le_refl _⟩ (fun v6 H locs hP hS hf => ?_)
    refine lv_goto (tgt := 18) hx hb dX3_floorThen_14 (by decide) ?_
    exact b18  σ p1 p2 v6 H locs ls hP hS (lv_sub hl [0, 1, 2] rfl) hf
def fX3_weighsThen_L19 (N : Nat)  (z : St) (x1 : Int32) (x2 : Int32) (y0 : Int32) : Option (Int32 × St) :=
    if y0 = 0 then bo (rdI z 1 38 (1 : Int32)) (fun v2 =>
    bo (fX3_weighsOn N (sb [1] z) x1 (v2 + x2)) (fun v3 =>
    some (v3, z)))
    else bx (fX3_no N z y0) (fun uq => uq) (fun v5 z4 =>
    some (v5, z4))
def fX3_weighsThen (N : Nat) (σ : St) (p1 : Int32) (p2 : Int32) : Option (Int32 × St) :=
    bo (fX3_isThing N σ p1) (fun v1 =>
    if v1 = 0 then fX3_weighsThen_L19 N  σ p1 p2 (-1 : Int32)
    else bo (fX3_wrongBy N p2 (0 : Int32) (60 : Int32)) (fun v6 =>
    fX3_weighsThen_L19 N  σ p1 p2 v6))
abbrev rmX3_weighsThen : Room := { frames := 3, cells := 0, slots := 0, locals := 68 }
theorem qX3_weighsThen : yX3_weighsThen.cls = RX3 ∧ yX3_weighsThen.cls ≠ "java/lang/invoke/MethodHandle" ∧ yX3_weighsThen.cls ≠ "java/lang/invoke/VarHandle" ∧ (parseMethodDescriptor yX3_weighsThen.desc).map (fun d => d.parameters.length) = some 2 := by decide +kernel
set_option maxHeartbeats 400000 in
set_option maxRecDepth 100000 in
theorem mX3_weighsThen (l : Launch) (D : va_G) (cI cJ : ClassId) (a : Nat → Nat) (sz N : Nat) (σ : St) (p1 : Int32) (p2 : Int32) (r : (Int32 × St)) (hf : fX3_weighsThen N σ p1 p2 = some r) : Met l yX3_weighsThen wsX3_weighsThen rmX3_weighsThen (WPre ([.ref (a 0), .int p1, .int p2] : List Value) sz D (tyIJ cI cJ) (wMo cI a σ)) (WQi sz D (wMo cI a σ) (wMo cI a (r.2)) r.1) 0 0 (va_A (wMo cI a σ) sz) := by
  refine W_start (cc := cX3_weighsThen) (maxL := 4) (ret := (some .int)) (by decide) rfl (Nat.le_of_ble_eq_true rfl) (fun p e s m below meth c ls A hx hb hr hml hown hts hlk hP hK hS hA hD0 hAe hl => ?_)
  have hD : ∀ z, va_D A ((fun z => wMo cI a z) z) := fun z => hD0.ad rfl
  have hown : s.vm.findClass RX3 = some m.cls := hown
  have hl : lv_has ls 4 [(0, .ref (a 0)), (1, .int p1), (2, .int p2)] := hl
  have ln1 := hts (Cond.fieldLink RX3 9 "HoistsAreSharedModel" "s" "[I") (List.mem_of_getElem? (i := 1) rfl)
  have inX3 : ∀ w ∈ u_ws RX3 TX3 13, w ∈ wsX3_weighsThen := fun _ h => List.mem_cons_of_mem _ (List.mem_append_right _ h)
  have b19 : ∀  (z : St) (x1 : Int32) (x2 : Int32) (y0 : Int32) (H : Heap) (locs : List Loc) (ls : Array Slot), va_P D vwCl (wMo cI a z) H → va_S A s.heap H locs → lv_has ls 4 [(0, .ref (a 0)), (1, .int x1), (2, .int x2)] → fX3_weighsThen_L19 N z x1 x2 y0 = some r → W p l e rmX3_weighsThen s m ([.ref (a 0), .int p1, .int p2] : List Value).toArray below meth c H locs 0 0 (MQ below (WQi sz D (wMo cI a σ) (wMo cI a (r.2)) r.1) ([.ref (a 0), .int p1, .int p2] : List Value).toArray s 0 0 A) (F0 m 19 ls [.int y0]) := by
    intro  z x1 x2 y0 H locs ls hP hS hl hf
    unfold fX3_weighsThen_L19 at hf
    refine lv_istore_n (lv' := [(3, .int y0), (0, .ref (a 0)), (1, .int x1), (2, .int x2)]) hx hb dX3_weighsThen_19 rfl hl (by decide) rfl (fun ls hl => ?_)
    refine lv_iload_n hx hb dX3_weighsThen_20 rfl (lv_at hl 0 rfl) ?_
    refine k_if_eq (tgt := 32) hx hb dX3_weighsThen_21 (by decide) hf (fun hf => ?_) (fun hf => ?_)
    · refine lv_aload_n hx hb dX3_weighsThen_32 rfl (lv_at hl 1 rfl) ?_
      refine va_get (D := D) (ci := 3) (v := .ref (a 1)) (C := RX3) (T := TX3) (N := 13) hx hb hts inX3 hown hK hP 0 rfl rfl 0 (by decide) ln1 (fun _ h9 => h9) rfl dX3_weighsThen_33 ?_
      refine lv_iload_n hx hb dX3_weighsThen_36 rfl (lv_at hl 2 rfl) ?_
      refine lv_aload_n hx hb dX3_weighsThen_37 rfl (lv_at hl 1 rfl) ?_
      refine va_get (D := D) (ci := 3) (v := .ref (a 1)) (C := RX3) (T := TX3) (N := 13) hx hb hts inX3 hown hK hP 0 rfl rfl 0 (by decide) ln1 (fun _ h9 => h9) rfl dX3_weighsThen_38 ?_
      refine lv_iconst (v := (1 : Int32)) hx hb dX3_weighsThen_41 (by decide) ?_
      refine k_iald hx hb hK hP 1 0 hf rfl rfl dX3_weighsThen_42 (fun v2 hf => ?_)
      refine lv_iload_n hx hb dX3_weighsThen_43 rfl (lv_at hl 3 rfl) ?_
      refine lv_iadd hx hb dX3_weighsThen_44 ?_
      refine c_callS (As := [.ref ((sb [1] a) 0), .int x1, .int (v2 + x2)]) (rest := []) ⟨hx, hb, hml, hown, hts⟩ hf (fun vq hq => mX3_weighsOn l D cI cJ (sb [1] a) H.size N (sb [1] z) x1 (v2 + x2) vq hq) (va_cwS 3 hts gX3_weighsThen_X3_weighsOn rfl rfl rfl qX3_weighsOn ⟨Nat.le_of_ble_eq_true rfl, Nat.le_of_ble_eq_true rfl⟩) hK hP hS hA (cmr_Mo_Ar_1 D cI a z hP) rfl hl.1 rfl (Nat.le_of_ble_eq_true rfl) dX3_weighsThen_45 ⟨Nat.le_refl _, Nat.le_refl _⟩ (fun v3 H locs hP hS hf => ?_)
      exact W_iret (fun z => wMo cI a z) hx hb hr hlk hP hS hAe hf dX3_weighsThen_48
    · refine lv_aload_n hx hb dX3_weighsThen_24 rfl (lv_at hl 1 rfl) ?_
      refine lv_iload_n hx hb dX3_weighsThen_25 rfl (lv_at hl 0 rfl) ?_
      refine d_callV (As := [.int y0]) (rest := []) (w := (fun z => wMo cI a z)) (wc := (wMo cI a)) (put := (fun uq => uq)) (σ := z) (τ0 := z) ⟨hx, hb, hml, hown, hts⟩ hf (fun vq zq hq => mX3_no l D cI cJ a H.size N z y0 (vq, zq) hq) (cwV 1 hts gX3_weighsThen_X3_no rfl rfl rfl qX3_no ⟨Nat.le_of_ble_eq_true rfl, Nat.le_of_ble_eq_true rfl⟩) hK hP hD hS hA ⟨hP, hD _, fun _ _ _ h => h⟩ 3 rfl rfl rfl rfl hl.1 rfl (Nat.le_of_ble_eq_true rfl) dX3_weighsThen_26 ⟨Nat.le_refl _, Nat.le_refl _⟩ (fun v5 z4 H locs hP hS hf => ?_)
      refine lv_goto (tgt := 48) hx hb dX3_weighsThen_29 (by decide) ?_
      exact W_iret (fun z => wMo cI a z) hx hb hr hlk hP hS hAe hf dX3_weighsThen_48
  unfold fX3_weighsThen at hf
  refine lv_aload_n hx hb dX3_weighsThen_0 rfl (lv_at hl 0 rfl) ?_
  refine lv_iload_n hx hb dX3_weighsThen_1 rfl (lv_at hl 1 rfl) ?_
  refine c_callV (As := [.int p1]) (rest := []) ⟨hx, hb, hml, hown, hts⟩ hf (fun vq hq => mX3_isThing l D cI cJ a s.heap.size N σ p1 vq hq) (cwV 1 hts gX3_weighsThen_X3_isThing rfl rfl rfl qX3_isThing ⟨Nat.le_of_ble_eq_true rfl, Nat.le_of_ble_eq_true rfl⟩) hK hP hS hA hP 3 rfl rfl rfl rfl hl.1 rfl (Nat.le_of_ble_eq_true rfl) dX3_weighsThen_2 ⟨Nat.le_refl _, Nat.le_refl _⟩ (fun v1 H locs hP hS hf => ?_)
  refine k_if_eq (tgt := 18) hx hb dX3_weighsThen_5 (by decide) hf (fun hf => ?_) (fun hf => ?_)
  · refine lv_iconst (v := (-1 : Int32)) hx hb dX3_weighsThen_18 (by decide) ?_
    exact b19  σ p1 p2 (-1 : Int32) H locs ls hP hS (lv_sub hl [0, 1, 2] rfl) hf
  · refine lv_iload_n hx hb dX3_weighsThen_8 rfl (lv_at hl 2 rfl) ?_
    refine lv_iconst (v := (0 : Int32)) hx hb dX3_weighsThen_9 (by decide) ?_
    refine lv_bipush (v := (60 : Int32)) hx hb dX3_weighsThen_10 (by decide) ?_
    refine c_callS (As := [.int p2, .int (0 : Int32), .int (60 : Int32)]) (rest := []) ⟨hx, hb, hml, hown, hts⟩ hf (fun vq hq => mX3_wrongBy l D cI cJ H.size N p2 (0 : Int32) (60 : Int32) vq hq) (va_cwS 3 hts gX3_weighsThen_X3_wrongBy rfl rfl rfl qX3_wrongBy ⟨Nat.le_of_ble_eq_true rfl, Nat.le_of_ble_eq_true rfl⟩) hK hP hS hA va_P_nil rfl hl.1 rfl (Nat.le_of_ble_eq_true rfl) dX3_weighsThen_12 ⟨Nat.le_refl _, Nat.le_refl _⟩ (fun v6 H locs hP hS hf => ?_)
    refine lv_goto (tgt := 19) hx hb dX3_weighsThen_15 (by decide) ?_
    exact b19  σ p1 p2 v6 H locs ls hP hS (lv_sub hl [0, 1, 2] rfl) hf
def fX3_pull (N : Nat) (σ : St) (p1 : Int32) : Option (Int32 × St) :=
    bo (fX3_wrongBy N p1 (0 : Int32) (60 : Int32)) (fun v1 =>
    if v1 = 0 then by_ (fX3_takes N σ p1) (fun uq => uq) (fun z2 =>
    bo (fX3_pullIn N (sb [2] z2)) (fun v3 =>
    some (v3, z2)))
    else bx (fX3_noFar N σ v1) (fun uq => uq) (fun v5 z4 =>
    some (v5, z4)))
abbrev rmX3_pull : Room := { frames := 9, cells := 0, slots := 0, locals := 199 }
theorem qX3_pull : yX3_pull.cls = RX3 ∧ yX3_pull.cls ≠ "java/lang/invoke/MethodHandle" ∧ yX3_pull.cls ≠ "java/lang/invoke/VarHandle" ∧ (parseMethodDescriptor yX3_pull.desc).map (fun d => d.parameters.length) = some 1 := by decide +kernel
set_option maxHeartbeats 400000 in
set_option maxRecDepth 100000 in
theorem mX3_pull (l : Launch) (D : va_G) (cI cJ : ClassId) (a : Nat → Nat) (sz N : Nat) (σ : St) (p1 : Int32) (r : (Int32 × St)) (hf : fX3_pull N σ p1 = some r) : Met l yX3_pull wsX3_pull rmX3_pull (WPre ([.ref (a 0), .int p1] : List Value) sz D (tyIJ cI cJ) (wMo cI a σ)) (WQi sz D (wMo cI a σ) (wMo cI a (r.2)) r.1) 0 0 (va_A (wMo cI a σ) sz) := by
  refine W_start (cc := cX3_pull) (maxL := 3) (ret := (some .int)) (by decide) rfl (Nat.le_of_ble_eq_true rfl) (fun p e s m below meth c ls A hx hb hr hml hown hts hlk hP hK hS hA hD0 hAe hl => ?_)
  have hD : ∀ z, va_D A ((fun z => wMo cI a z) z) := fun z => hD0.ad rfl
  have hown : s.vm.findClass RX3 = some m.cls := hown
  have hl : lv_has ls 3 [(0, .ref (a 0)), (1, .int p1)] := hl
  have ln1 := hts (Cond.fieldLink RX3 13 "HoistsAreSharedModel" "m" "[I") (List.mem_of_getElem? (i := 1) rfl)
  have inX3 : ∀ w ∈ u_ws RX3 TX3 13, w ∈ wsX3_pull := fun _ h => List.mem_cons_of_mem _ (List.mem_append_right _ h)
  unfold fX3_pull at hf
  refine lv_iload_n hx hb dX3_pull_0 rfl (lv_at hl 1 rfl) ?_
  refine lv_iconst (v := (0 : Int32)) hx hb dX3_pull_1 (by decide) ?_
  refine lv_bipush (v := (60 : Int32)) hx hb dX3_pull_2 (by decide) ?_
  refine c_callS (As := [.int p1, .int (0 : Int32), .int (60 : Int32)]) (rest := []) ⟨hx, hb, hml, hown, hts⟩ hf (fun vq hq => mX3_wrongBy l D cI cJ s.heap.size N p1 (0 : Int32) (60 : Int32) vq hq) (va_cwS 3 hts gX3_pull_X3_wrongBy rfl rfl rfl qX3_wrongBy ⟨Nat.le_of_ble_eq_true rfl, Nat.le_of_ble_eq_true rfl⟩) hK hP hS hA va_P_nil rfl hl.1 rfl (Nat.le_of_ble_eq_true rfl) dX3_pull_4 ⟨Nat.le_refl _, Nat.le_refl _⟩ (fun v1 H locs hP hS hf => ?_)
  refine lv_istore_n (lv' := [(2, .int v1), (0, .ref (a 0)), (1, .int p1)]) hx hb dX3_pull_7 rfl hl (by decide) rfl (fun ls hl => ?_)
  refine lv_iload_n hx hb dX3_pull_8 rfl (lv_at hl 0 rfl) ?_
  refine k_if_eq (tgt := 18) hx hb dX3_pull_9 (by decide) hf (fun hf => ?_) (fun hf => ?_)
  · refine lv_aload_n hx hb dX3_pull_18 rfl (lv_at hl 1 rfl) ?_
    refine lv_iload_n hx hb dX3_pull_19 rfl (lv_at hl 2 rfl) ?_
    refine d_callVv (As := [.int p1]) (rest := []) (w := (fun z => wMo cI a z)) (wc := (wMo cI a)) (put := (fun uq => uq)) (σ := σ) (τ0 := σ) ⟨hx, hb, hml, hown, hts⟩ hf (fun zq hq => mX3_takes l D cI cJ a H.size N σ p1 zq hq) (cwV 1 hts gX3_pull_X3_takes rfl rfl rfl qX3_takes ⟨Nat.le_of_ble_eq_true rfl, Nat.le_of_ble_eq_true rfl⟩) hK hP hD hS hA ⟨hP, hD _, fun _ _ _ h => h⟩ 3 rfl rfl rfl rfl hl.1 rfl (Nat.le_of_ble_eq_true rfl) dX3_pull_20 ⟨Nat.le_refl _, Nat.le_refl _⟩ (fun z2 H locs hP hS hf => ?_)
    refine lv_aload_n hx hb dX3_pull_23 rfl (lv_at hl 1 rfl) ?_
    refine va_get (D := D) (ci := 3) (v := .ref (a 2)) (C := RX3) (T := TX3) (N := 13) hx hb hts inX3 hown hK hP 0 rfl rfl 1 (by decide) ln1 (fun _ h9 => h9) rfl dX3_pull_24 ?_
    refine c_callS (As := [.ref ((sb [2] a) 0)]) (rest := []) ⟨hx, hb, hml, hown, hts⟩ hf (fun vq hq => mX3_pullIn l D cI cJ (sb [2] a) H.size N (sb [2] z2) vq hq) (va_cwS 1 hts gX3_pull_X3_pullIn rfl rfl rfl qX3_pullIn ⟨Nat.le_of_ble_eq_true rfl, Nat.le_of_ble_eq_true rfl⟩) hK hP hS hA (cmr_Mo_Ar_2 D cI a z2 hP) rfl hl.1 rfl (Nat.le_of_ble_eq_true rfl) dX3_pull_27 ⟨Nat.le_refl _, Nat.le_refl _⟩ (fun v3 H locs hP hS hf => ?_)
    exact W_iret (fun z => wMo cI a z) hx hb hr hlk hP hS hAe hf dX3_pull_30
  · refine lv_aload_n hx hb dX3_pull_12 rfl (lv_at hl 1 rfl) ?_
    refine lv_iload_n hx hb dX3_pull_13 rfl (lv_at hl 0 rfl) ?_
    refine d_callV (As := [.int v1]) (rest := []) (w := (fun z => wMo cI a z)) (wc := (wMo cI a)) (put := (fun uq => uq)) (σ := σ) (τ0 := σ) ⟨hx, hb, hml, hown, hts⟩ hf (fun vq zq hq => mX3_noFar l D cI cJ a H.size N σ v1 (vq, zq) hq) (cwV 1 hts gX3_pull_X3_noFar rfl rfl rfl qX3_noFar ⟨Nat.le_of_ble_eq_true rfl, Nat.le_of_ble_eq_true rfl⟩) hK hP hD hS hA ⟨hP, hD _, fun _ _ _ h => h⟩ 3 rfl rfl rfl rfl hl.1 rfl (Nat.le_of_ble_eq_true rfl) dX3_pull_14 ⟨Nat.le_refl _, Nat.le_refl _⟩ (fun v5 z4 H locs hP hS hf => ?_)
    exact W_iret (fun z => wMo cI a z) hx hb hr hlk hP hS hAe hf dX3_pull_17
def fX3_whenAt_L13 (N : Nat)  : Nat → St → Int32 → Int32 → Int32 → Option (Int32 × St)
  | 0, _, _, _, _ => none
  | n + 1, z, x1, x2, x3 =>
    if (60 : Int32) < x3 then some ((-9 : Int32), z)
    else bo (fX3_floorOf N (sb [2] z) x1) (fun v2 =>
    bo (fX3_has N x2 v2) (fun v3 =>
    if v3 = 0 then by_ (fX3_day N (sb [2] z) (0 : Int32)) (fun uq => pb [2] uq z) (fun z4 =>
    lt_ (x3 + (1 : Int32) : Int32) (fun v5 =>
    (fX3_whenAt_L13 N n) z4 x1 x2 v5))
    else some (x3, z)))
def fX3_whenAt (N : Nat) (σ : St) (p1 : Int32) (p2 : Int32) : Option (Int32 × St) :=
    by_ (fX3_copies N (sb [1, 2] σ)) (fun uq => pb [1, 2] uq σ) (fun z1 =>
    fX3_whenAt_L13 N  N z1 p1 p2 (0 : Int32))
abbrev rmX3_whenAt : Room := { frames := 7, cells := 0, slots := 0, locals := 156 }
theorem qX3_whenAt : yX3_whenAt.cls = RX3 ∧ yX3_whenAt.cls ≠ "java/lang/invoke/MethodHandle" ∧ yX3_whenAt.cls ≠ "java/lang/invoke/VarHandle" ∧ (parseMethodDescriptor yX3_whenAt.desc).map (fun d => d.parameters.length) = some 2 := by decide +kernel
set_option maxHeartbeats 400000 in
set_option maxRecDepth 100000 in
theorem mX3_whenAt (l : Launch) (D : va_G) (cI cJ : ClassId) (a : Nat → Nat) (sz N : Nat) (σ : St) (p1 : Int32) (p2 : Int32) (r : (Int32 × St)) (hf : fX3_whenAt N σ p1 p2 = some r) : Met l yX3_whenAt wsX3_whenAt rmX3_whenAt (WPre ([.ref (a 0), .int p1, .int p2] : List Value) sz D (tyIJ cI cJ) (wMo cI a σ)) (WQi sz D (wMo cI a σ) (wMo cI a (r.2)) r.1) 0 0 (va_A (wMo cI a σ) sz) := by
  refine W_start (cc := cX3_whenAt) (maxL := 4) (ret := (some .int)) (by decide) rfl (Nat.le_of_ble_eq_true rfl) (fun p e s m below meth c ls A hx hb hr hml hown hts hlk hP hK hS hA hD0 hAe hl => ?_)
  have hD : ∀ z, va_D A ((fun z => wMo cI a z) z) := fun z => hD0.ad rfl
  have hown : s.vm.findClass RX3 = some m.cls := hown
  have hl : lv_has ls 4 [(0, .ref (a 0)), (1, .int p1), (2, .int p2)] := hl
  have ln1 := hts (Cond.fieldLink RX3 9 "HoistsAreSharedModel" "s" "[I") (List.mem_of_getElem? (i := 1) rfl)
  have inX3 : ∀ w ∈ u_ws RX3 TX3 13, w ∈ wsX3_whenAt := fun _ h => List.mem_cons_of_mem _ (List.mem_append_right _ h)
  have ln3 := hts (Cond.fieldLink RX3 13 "HoistsAreSharedModel" "m" "[I") (List.mem_of_getElem? (i := 2) rfl)
  have b13 : ∀  (n : Nat) (z : St) (x1 : Int32) (x2 : Int32) (x3 : Int32) (H : Heap) (locs : List Loc) (ls : Array Slot), va_P D vwCl (wMo cI a z) H → va_S A s.heap H locs → lv_has ls 4 [(0, .ref (a 0)), (1, .int x1), (2, .int x2), (3, .int x3)] → fX3_whenAt_L13 N n z x1 x2 x3 = some r → W p l e rmX3_whenAt s m ([.ref (a 0), .int p1, .int p2] : List Value).toArray below meth c H locs 0 0 (MQ below (WQi sz D (wMo cI a σ) (wMo cI a (r.2)) r.1) ([.ref (a 0), .int p1, .int p2] : List Value).toArray s 0 0 A) (F0 m 13 ls []) := by
    intro n
    induction n with
    | zero => intro z x1 x2 x3 H locs ls hP hS hl hf; cases hf
    | succ n ih =>
      intro z x1 x2 x3 H locs ls hP hS hl hf
      rw [fX3_whenAt_L13] at hf
      refine lv_iload_n hx hb dX3_whenAt_13 rfl (lv_at hl 3 rfl) ?_
      refine lv_bipush (v := (60 : Int32)) hx hb dX3_whenAt_14 (by decide) ?_
      refine k_icmp_gt (tgt := 50) hx hb dX3_whenAt_16 (by decide) hf (fun hf => ?_) (fun hf => ?_)
      · refine lv_bipush (v := (-9 : Int32)) hx hb dX3_whenAt_50 (by decide) ?_
        exact W_iret (fun z => wMo cI a z) hx hb hr hlk hP hS hAe hf dX3_whenAt_52
      · refine lv_iload_n hx hb dX3_whenAt_19 rfl (lv_at hl 2 rfl) ?_
        refine lv_aload_n hx hb dX3_whenAt_20 rfl (lv_at hl 0 rfl) ?_
        refine va_get (D := D) (ci := 3) (v := .ref (a 2)) (C := RX3) (T := TX3) (N := 13) hx hb hts inX3 hown hK hP 0 rfl rfl 1 (by decide) ln3 (fun _ h9 => h9) rfl dX3_whenAt_21 ?_
        refine lv_iload_n hx hb dX3_whenAt_24 rfl (lv_at hl 1 rfl) ?_
        refine c_callS (As := [.ref ((sb [2] a) 0), .int x1]) (rest := [.int x2]) ⟨hx, hb, hml, hown, hts⟩ hf (fun vq hq => mX3_floorOf l D cI cJ (sb [2] a) H.size N (sb [2] z) x1 vq hq) (va_cwS 2 hts gX3_whenAt_X3_floorOf rfl rfl rfl qX3_floorOf ⟨Nat.le_of_ble_eq_true rfl, Nat.le_of_ble_eq_true rfl⟩) hK hP hS hA (cmr_Mo_Ar_2 D cI a z hP) rfl hl.1 rfl (Nat.le_of_ble_eq_true rfl) dX3_whenAt_25 ⟨Nat.le_refl _, Nat.le_refl _⟩ (fun v2 H locs hP hS hf => ?_)
        refine c_callS (As := [.int x2, .int v2]) (rest := []) ⟨hx, hb, hml, hown, hts⟩ hf (fun vq hq => mX3_has l D cI cJ H.size N x2 v2 vq hq) (va_cwS 2 hts gX3_whenAt_X3_has rfl rfl rfl qX3_has ⟨Nat.le_of_ble_eq_true rfl, Nat.le_of_ble_eq_true rfl⟩) hK hP hS hA va_P_nil rfl hl.1 rfl (Nat.le_of_ble_eq_true rfl) dX3_whenAt_28 ⟨Nat.le_refl _, Nat.le_refl _⟩ (fun v3 H locs hP hS hf => ?_)
        refine k_if_eq (tgt := 36) hx hb dX3_whenAt_31 (by decide) hf (fun hf => ?_) (fun hf => ?_)
        · refine lv_aload_n hx hb dX3_whenAt_36 rfl (lv_at hl 0 rfl) ?_
          refine va_get (D := D) (ci := 3) (v := .ref (a 2)) (C := RX3) (T := TX3) (N := 13) hx hb hts inX3 hown hK hP 0 rfl rfl 1 (by decide) ln3 (fun _ h9 => h9) rfl dX3_whenAt_37 ?_
          refine lv_iconst (v := (0 : Int32)) hx hb dX3_whenAt_40 (by decide) ?_
          refine d_callSv (As := [.ref ((sb [2] a) 0), .int (0 : Int32)]) (rest := []) (w := (fun z => wMo cI a z)) (wc := (wAr cI (sb [2] a))) (put := (fun uq => pb [2] uq z)) (σ := z) (τ0 := (sb [2] z)) ⟨hx, hb, hml, hown, hts⟩ hf (fun zq hq => mX3_day l D cI cJ (sb [2] a) H.size N (sb [2] z) (0 : Int32) zq hq) (va_cwS 2 hts gX3_whenAt_X3_day rfl rfl rfl qX3_day ⟨Nat.le_of_ble_eq_true rfl, Nat.le_of_ble_eq_true rfl⟩) hK hP hD hS hA (cmb_Mo_Ar_2 D cI a z hP (hD _)) rfl hl.1 rfl (Nat.le_of_ble_eq_true rfl) dX3_whenAt_41 ⟨Nat.le_refl _, Nat.le_refl _⟩ (fun z4 H locs hP hS hf => ?_)
          refine k_iinc (d := (1 : Int32)) (lv' := fun v5 => [(3, .int v5), (0, .ref (a 0)), (1, .int x1), (2, .int x2)]) hx hb dX3_whenAt_44 hl (k := 3) rfl (by decide) (by decide) (fun _ => rfl) hf (fun v5 ls hl hf => ?_)
          refine lv_goto (tgt := 13) hx hb dX3_whenAt_47 (by decide) ?_
          exact ih z4 x1 x2 v5 H locs ls hP hS (lv_sub hl [1, 2, 3, 0] rfl) hf
        · refine lv_iload_n hx hb dX3_whenAt_34 rfl (lv_at hl 3 rfl) ?_
          exact W_iret (fun z => wMo cI a z) hx hb hr hlk hP hS hAe hf dX3_whenAt_35
  unfold fX3_whenAt at hf
  refine lv_aload_n hx hb dX3_whenAt_0 rfl (lv_at hl 0 rfl) ?_
  refine va_get (D := D) (ci := 3) (v := .ref (a 1)) (C := RX3) (T := TX3) (N := 13) hx hb hts inX3 hown hK hP 0 rfl rfl 0 (by decide) ln1 (fun _ h9 => h9) rfl dX3_whenAt_1 ?_
  refine lv_aload_n hx hb dX3_whenAt_4 rfl (lv_at hl 0 rfl) ?_
  refine va_get (D := D) (ci := 3) (v := .ref (a 2)) (C := RX3) (T := TX3) (N := 13) hx hb hts inX3 hown hK hP 0 rfl rfl 1 (by decide) ln3 (fun _ h9 => h9) rfl dX3_whenAt_5 ?_
  refine d_callSv (As := [.ref ((sb [1, 2] a) 0), .ref ((sb [1, 2] a) 1)]) (rest := []) (w := (fun z => wMo cI a z)) (wc := (wAr2 cI (sb [1, 2] a))) (put := (fun uq => pb [1, 2] uq σ)) (σ := σ) (τ0 := (sb [1, 2] σ)) ⟨hx, hb, hml, hown, hts⟩ hf (fun zq hq => mX3_copies l D cI cJ (sb [1, 2] a) s.heap.size N (sb [1, 2] σ) zq hq) (va_cwS 2 hts gX3_whenAt_X3_copies rfl rfl rfl qX3_copies ⟨Nat.le_of_ble_eq_true rfl, Nat.le_of_ble_eq_true rfl⟩) hK hP hD hS hA (cmb_Mo_Ar2_1_2 D cI a σ hP (hD _)) rfl hl.1 rfl (Nat.le_of_ble_eq_true rfl) dX3_whenAt_8 ⟨Nat.le_refl _, Nat.le_refl _⟩ (fun z1 H locs hP hS hf => ?_)
  refine lv_iconst (v := (0 : Int32)) hx hb dX3_whenAt_11 (by decide) ?_
  refine lv_istore_n (lv' := [(3, .int (0 : Int32)), (0, .ref (a 0)), (1, .int p1), (2, .int p2)]) hx hb dX3_whenAt_12 rfl hl (by decide) rfl (fun ls hl => ?_)
  exact b13  N z1 p1 p2 (0 : Int32) H locs ls hP hS (lv_sub hl [1, 2, 3, 0] rfl) hf
def fX3_meets (N : Nat) (σ : St)  : Option (Int32 × St) :=
    bx (fX3_whenAt N σ (0 : Int32) (1024 : Int32)) (fun uq => uq) (fun v2 z1 =>
    some (v2, z1))
abbrev rmX3_meets : Room := { frames := 8, cells := 0, slots := 0, locals := 179 }
theorem qX3_meets : yX3_meets.cls = RX3 ∧ yX3_meets.cls ≠ "java/lang/invoke/MethodHandle" ∧ yX3_meets.cls ≠ "java/lang/invoke/VarHandle" ∧ (parseMethodDescriptor yX3_meets.desc).map (fun d => d.parameters.length) = some 0 := by decide +kernel
set_option maxHeartbeats 400000 in
set_option maxRecDepth 100000 in
theorem mX3_meets (l : Launch) (D : va_G) (cI cJ : ClassId) (a : Nat → Nat) (sz N : Nat) (σ : St)  (r : (Int32 × St)) (hf : fX3_meets N σ = some r) : Met l yX3_meets wsX3_meets rmX3_meets (WPre ([.ref (a 0)] : List Value) sz D (tyIJ cI cJ) (wMo cI a σ)) (WQi sz D (wMo cI a σ) (wMo cI a (r.2)) r.1) 0 0 (va_A (wMo cI a σ) sz) := by
  refine W_start (cc := cX3_meets) (maxL := 1) (ret := (some .int)) (by decide) rfl (Nat.le_of_ble_eq_true rfl) (fun p e s m below meth c ls A hx hb hr hml hown hts hlk hP hK hS hA hD0 hAe hl => ?_)
  have hD : ∀ z, va_D A ((fun z => wMo cI a z) z) := fun z => hD0.ad rfl
  have hown : s.vm.findClass RX3 = some m.cls := hown
  have hl : lv_has ls 1 [(0, .ref (a 0))] := hl
  unfold fX3_meets at hf
  refine lv_aload_n hx hb dX3_meets_0 rfl (lv_at hl 0 rfl) ?_
  refine lv_iconst (v := (0 : Int32)) hx hb dX3_meets_1 (by decide) ?_
  refine lv_sipush (v := (1024 : Int32)) hx hb dX3_meets_2 (by decide) ?_
  refine d_callV (As := [.int (0 : Int32), .int (1024 : Int32)]) (rest := []) (w := (fun z => wMo cI a z)) (wc := (wMo cI a)) (put := (fun uq => uq)) (σ := σ) (τ0 := σ) ⟨hx, hb, hml, hown, hts⟩ hf (fun vq zq hq => mX3_whenAt l D cI cJ a s.heap.size N σ (0 : Int32) (1024 : Int32) (vq, zq) hq) (cwV 2 hts gX3_meets_X3_whenAt rfl rfl rfl qX3_whenAt ⟨Nat.le_of_ble_eq_true rfl, Nat.le_of_ble_eq_true rfl⟩) hK hP hD hS hA ⟨hP, hD _, fun _ _ _ h => h⟩ 3 rfl rfl rfl rfl hl.1 rfl (Nat.le_of_ble_eq_true rfl) dX3_meets_5 ⟨Nat.le_refl _, Nat.le_refl _⟩ (fun v2 z1 H locs hP hS hf => ?_)
  exact W_iret (fun z => wMo cI a z) hx hb hr hlk hP hS hAe hf dX3_meets_8
def fX3_comes_L25 (N : Nat)  (z : St) : Option (Int32 × St) :=
    bx (fX3_no N z (-1 : Int32)) (fun uq => uq) (fun v3 z2 =>
    some (v3, z2))
def fX3_comes (N : Nat) (σ : St) (p1 : Int32) (p2 : Int32) : Option (Int32 × St) :=
    bo (fX3_isSide N p1) (fun v1 =>
    if v1 = 0 then fX3_comes_L25 N  σ
    else bo (fX3_isFloor N p2) (fun v4 =>
    if v4 = 0 then fX3_comes_L25 N  σ
    else bx (fX3_whenAt N σ p1 ((1 : Int32) <<< (p2 &&& 31))) (fun uq => uq) (fun v6 z5 =>
    some (v6, z5))))
abbrev rmX3_comes : Room := { frames := 8, cells := 0, slots := 0, locals := 179 }
theorem qX3_comes : yX3_comes.cls = RX3 ∧ yX3_comes.cls ≠ "java/lang/invoke/MethodHandle" ∧ yX3_comes.cls ≠ "java/lang/invoke/VarHandle" ∧ (parseMethodDescriptor yX3_comes.desc).map (fun d => d.parameters.length) = some 2 := by decide +kernel
set_option maxHeartbeats 400000 in
set_option maxRecDepth 100000 in
theorem mX3_comes (l : Launch) (D : va_G) (cI cJ : ClassId) (a : Nat → Nat) (sz N : Nat) (σ : St) (p1 : Int32) (p2 : Int32) (r : (Int32 × St)) (hf : fX3_comes N σ p1 p2 = some r) : Met l yX3_comes wsX3_comes rmX3_comes (WPre ([.ref (a 0), .int p1, .int p2] : List Value) sz D (tyIJ cI cJ) (wMo cI a σ)) (WQi sz D (wMo cI a σ) (wMo cI a (r.2)) r.1) 0 0 (va_A (wMo cI a σ) sz) := by
  refine W_start (cc := cX3_comes) (maxL := 3) (ret := (some .int)) (by decide) rfl (Nat.le_of_ble_eq_true rfl) (fun p e s m below meth c ls A hx hb hr hml hown hts hlk hP hK hS hA hD0 hAe hl => ?_)
  have hD : ∀ z, va_D A ((fun z => wMo cI a z) z) := fun z => hD0.ad rfl
  have hown : s.vm.findClass RX3 = some m.cls := hown
  have hl : lv_has ls 3 [(0, .ref (a 0)), (1, .int p1), (2, .int p2)] := hl
  have b25 : ∀  (z : St) (H : Heap) (locs : List Loc) (ls : Array Slot), va_P D vwCl (wMo cI a z) H → va_S A s.heap H locs → lv_has ls 3 [(0, .ref (a 0))] → fX3_comes_L25 N z = some r → W p l e rmX3_comes s m ([.ref (a 0), .int p1, .int p2] : List Value).toArray below meth c H locs 0 0 (MQ below (WQi sz D (wMo cI a σ) (wMo cI a (r.2)) r.1) ([.ref (a 0), .int p1, .int p2] : List Value).toArray s 0 0 A) (F0 m 25 ls []) := by
    intro  z H locs ls hP hS hl hf
    unfold fX3_comes_L25 at hf
    refine lv_aload_n hx hb dX3_comes_25 rfl (lv_at hl 0 rfl) ?_
    refine lv_iconst (v := (-1 : Int32)) hx hb dX3_comes_26 (by decide) ?_
    refine d_callV (As := [.int (-1 : Int32)]) (rest := []) (w := (fun z => wMo cI a z)) (wc := (wMo cI a)) (put := (fun uq => uq)) (σ := z) (τ0 := z) ⟨hx, hb, hml, hown, hts⟩ hf (fun vq zq hq => mX3_no l D cI cJ a H.size N z (-1 : Int32) (vq, zq) hq) (cwV 1 hts gX3_comes_X3_no rfl rfl rfl qX3_no ⟨Nat.le_of_ble_eq_true rfl, Nat.le_of_ble_eq_true rfl⟩) hK hP hD hS hA ⟨hP, hD _, fun _ _ _ h => h⟩ 3 rfl rfl rfl rfl hl.1 rfl (Nat.le_of_ble_eq_true rfl) dX3_comes_27 ⟨Nat.le_refl _, Nat.le_refl _⟩ (fun v3 z2 H locs hP hS hf => ?_)
    exact W_iret (fun z => wMo cI a z) hx hb hr hlk hP hS hAe hf dX3_comes_30
  unfold fX3_comes at hf
  refine lv_iload_n hx hb dX3_comes_0 rfl (lv_at hl 1 rfl) ?_
  refine c_callS (As := [.int p1]) (rest := []) ⟨hx, hb, hml, hown, hts⟩ hf (fun vq hq => mX3_isSide l D cI cJ s.heap.size N p1 vq hq) (va_cwS 1 hts gX3_comes_X3_isSide rfl rfl rfl qX3_isSide ⟨Nat.le_of_ble_eq_true rfl, Nat.le_of_ble_eq_true rfl⟩) hK hP hS hA va_P_nil rfl hl.1 rfl (Nat.le_of_ble_eq_true rfl) dX3_comes_1 ⟨Nat.le_refl _, Nat.le_refl _⟩ (fun v1 H locs hP hS hf => ?_)
  refine k_if_eq (tgt := 25) hx hb dX3_comes_4 (by decide) hf (fun hf => ?_) (fun hf => ?_)
  · exact b25  σ H locs ls hP hS (lv_sub hl [0] rfl) hf
  · refine lv_iload_n hx hb dX3_comes_7 rfl (lv_at hl 2 rfl) ?_
    refine c_callS (As := [.int p2]) (rest := []) ⟨hx, hb, hml, hown, hts⟩ hf (fun vq hq => mX3_isFloor l D cI cJ H.size N p2 vq hq) (va_cwS 1 hts gX3_comes_X3_isFloor rfl rfl rfl qX3_isFloor ⟨Nat.le_of_ble_eq_true rfl, Nat.le_of_ble_eq_true rfl⟩) hK hP hS hA va_P_nil rfl hl.1 rfl (Nat.le_of_ble_eq_true rfl) dX3_comes_8 ⟨Nat.le_refl _, Nat.le_refl _⟩ (fun v4 H locs hP hS hf => ?_)
    refine k_if_eq (tgt := 25) hx hb dX3_comes_11 (by decide) hf (fun hf => ?_) (fun hf => ?_)
    · exact b25  σ H locs ls hP hS (lv_sub hl [0] rfl) hf
    · refine lv_aload_n hx hb dX3_comes_14 rfl (lv_at hl 0 rfl) ?_
      refine lv_iload_n hx hb dX3_comes_15 rfl (lv_at hl 1 rfl) ?_
      refine lv_iconst (v := (1 : Int32)) hx hb dX3_comes_16 (by decide) ?_
      refine lv_iload_n hx hb dX3_comes_17 rfl (lv_at hl 2 rfl) ?_
      refine lv_ishl hx hb dX3_comes_18 ?_
      refine d_callV (As := [.int p1, .int ((1 : Int32) <<< (p2 &&& 31))]) (rest := []) (w := (fun z => wMo cI a z)) (wc := (wMo cI a)) (put := (fun uq => uq)) (σ := σ) (τ0 := σ) ⟨hx, hb, hml, hown, hts⟩ hf (fun vq zq hq => mX3_whenAt l D cI cJ a H.size N σ p1 ((1 : Int32) <<< (p2 &&& 31)) (vq, zq) hq) (cwV 2 hts gX3_comes_X3_whenAt rfl rfl rfl qX3_whenAt ⟨Nat.le_of_ble_eq_true rfl, Nat.le_of_ble_eq_true rfl⟩) hK hP hD hS hA ⟨hP, hD _, fun _ _ _ h => h⟩ 3 rfl rfl rfl rfl hl.1 rfl (Nat.le_of_ble_eq_true rfl) dX3_comes_19 ⟨Nat.le_refl _, Nat.le_refl _⟩ (fun v6 z5 H locs hP hS hf => ?_)
      refine lv_goto (tgt := 30) hx hb dX3_comes_22 (by decide) ?_
      exact W_iret (fun z => wMo cI a z) hx hb hr hlk hP hS hAe hf dX3_comes_30
def fX3_still_L53 (N : Nat) (k15 : St → Int32 → Int32 → Option (Int32 × St)) (z : St) (x2 : Int32) (y0 : Int32) : Option (Int32 × St) :=
    if y0 = (10 : Int32) then some ((x2 - (9 : Int32)), z)
    else lt_ (x2 + (1 : Int32) : Int32) (fun v5 =>
    k15 z y0 v5)
def fX3_still_L15 (N : Nat)  : Nat → St → Int32 → Int32 → Option (Int32 × St)
  | 0, _, _, _ => none
  | n + 1, z, x1, x2 =>
    if (70 : Int32) ≤ x2 then some ((-9 : Int32), z)
    else bo (rdI z 2 38 (2 : Int32)) (fun v2 =>
    by_ (fX3_day N (sb [2] z) (0 : Int32)) (fun uq => pb [2] uq z) (fun z3 =>
    bo (rdI z3 2 38 (2 : Int32)) (fun v4 =>
    if v4 = v2 then fX3_still_L53 N (fX3_still_L15 N n) z3 x2 (x1 + (1 : Int32))
    else fX3_still_L53 N (fX3_still_L15 N n) z3 x2 (0 : Int32))))
def fX3_still (N : Nat) (σ : St)  : Option (Int32 × St) :=
    by_ (fX3_copies N (sb [1, 2] σ)) (fun uq => pb [1, 2] uq σ) (fun z1 =>
    fX3_still_L15 N  N z1 (0 : Int32) (0 : Int32))
abbrev rmX3_still : Room := { frames := 7, cells := 0, slots := 0, locals := 156 }
theorem qX3_still : yX3_still.cls = RX3 ∧ yX3_still.cls ≠ "java/lang/invoke/MethodHandle" ∧ yX3_still.cls ≠ "java/lang/invoke/VarHandle" ∧ (parseMethodDescriptor yX3_still.desc).map (fun d => d.parameters.length) = some 0 := by decide +kernel
set_option maxHeartbeats 400000 in
set_option maxRecDepth 100000 in
theorem mX3_still (l : Launch) (D : va_G) (cI cJ : ClassId) (a : Nat → Nat) (sz N : Nat) (σ : St)  (r : (Int32 × St)) (hf : fX3_still N σ = some r) : Met l yX3_still wsX3_still rmX3_still (WPre ([.ref (a 0)] : List Value) sz D (tyIJ cI cJ) (wMo cI a σ)) (WQi sz D (wMo cI a σ) (wMo cI a (r.2)) r.1) 0 0 (va_A (wMo cI a σ) sz) := by
  refine W_start (cc := cX3_still) (maxL := 4) (ret := (some .int)) (by decide) rfl (Nat.le_of_ble_eq_true rfl) (fun p e s m below meth c ls A hx hb hr hml hown hts hlk hP hK hS hA hD0 hAe hl => ?_)
  have hD : ∀ z, va_D A ((fun z => wMo cI a z) z) := fun z => hD0.ad rfl
  have hown : s.vm.findClass RX3 = some m.cls := hown
  have hl : lv_has ls 4 [(0, .ref (a 0))] := hl
  have ln1 := hts (Cond.fieldLink RX3 9 "HoistsAreSharedModel" "s" "[I") (List.mem_of_getElem? (i := 1) rfl)
  have inX3 : ∀ w ∈ u_ws RX3 TX3 13, w ∈ wsX3_still := fun _ h => List.mem_cons_of_mem _ (List.mem_append_right _ h)
  have ln3 := hts (Cond.fieldLink RX3 13 "HoistsAreSharedModel" "m" "[I") (List.mem_of_getElem? (i := 2) rfl)
  have b53 : ∀ (k15 : St → Int32 → Int32 → Option (Int32 × St)) (hk15 : (∀ (z : St) (x1 : Int32) (x2 : Int32) (H : Heap) (locs : List Loc) (ls : Array Slot), va_P D vwCl (wMo cI a z) H → va_S A s.heap H locs → lv_has ls 4 [(0, .ref (a 0)), (1, .int x1), (2, .int x2)] → k15 z x1 x2 = some r → W p l e rmX3_still s m ([.ref (a 0)] : List Value).toArray below meth c H locs 0 0 (MQ below (WQi sz D (wMo cI a σ) (wMo cI a (r.2)) r.1) ([.ref (a 0)] : List Value).toArray s 0 0 A) (F0 m 15 ls []))) (z : St) (x2 : Int32) (y0 : Int32) (H : Heap) (locs : List Loc) (ls : Array Slot), va_P D vwCl (wMo cI a z) H → va_S A s.heap H locs → lv_has ls 4 [(0, .ref (a 0)), (2, .int x2)] → fX3_still_L53 N k15 z x2 y0 = some r → W p l e rmX3_still s m ([.ref (a 0)] : List Value).toArray below meth c H locs 0 0 (MQ below (WQi sz D (wMo cI a σ) (wMo cI a (r.2)) r.1) ([.ref (a 0)] : List Value).toArray s 0 0 A) (F0 m 53 ls [.int y0]) := by
    intro k15 hk15 z x2 y0 H locs ls hP hS hl hf
    unfold fX3_still_L53 at hf
    refine lv_istore_n (lv' := [(1, .int y0), (0, .ref (a 0)), (2, .int x2)]) hx hb dX3_still_53 rfl hl (by decide) rfl (fun ls hl => ?_)
    refine lv_iload_n hx hb dX3_still_54 rfl (lv_at hl 0 rfl) ?_
    refine lv_bipush (v := (10 : Int32)) hx hb dX3_still_55 (by decide) ?_
    refine k_icmp_ne (tgt := 65) hx hb dX3_still_57 (by decide) hf (fun hf => ?_) (fun hf => ?_)
    · refine k_iinc (d := (1 : Int32)) (lv' := fun v5 => [(2, .int v5), (1, .int y0), (0, .ref (a 0))]) hx hb dX3_still_65 hl (k := 2) rfl (by decide) (by decide) (fun _ => rfl) hf (fun v5 ls hl hf => ?_)
      refine lv_goto (tgt := 15) hx hb dX3_still_68 (by decide) ?_
      exact hk15 z y0 v5 H locs ls hP hS (lv_sub hl [2, 1, 0] rfl) hf
    · refine lv_iload_n hx hb dX3_still_60 rfl (lv_at hl 2 rfl) ?_
      refine lv_bipush (v := (9 : Int32)) hx hb dX3_still_61 (by decide) ?_
      refine lv_isub hx hb dX3_still_63 ?_
      exact W_iret (fun z => wMo cI a z) hx hb hr hlk hP hS hAe hf dX3_still_64
  have b15 : ∀  (n : Nat) (z : St) (x1 : Int32) (x2 : Int32) (H : Heap) (locs : List Loc) (ls : Array Slot), va_P D vwCl (wMo cI a z) H → va_S A s.heap H locs → lv_has ls 4 [(0, .ref (a 0)), (1, .int x1), (2, .int x2)] → fX3_still_L15 N n z x1 x2 = some r → W p l e rmX3_still s m ([.ref (a 0)] : List Value).toArray below meth c H locs 0 0 (MQ below (WQi sz D (wMo cI a σ) (wMo cI a (r.2)) r.1) ([.ref (a 0)] : List Value).toArray s 0 0 A) (F0 m 15 ls []) := by
    intro n
    induction n with
    | zero => intro z x1 x2 H locs ls hP hS hl hf; cases hf
    | succ n ih =>
      intro z x1 x2 H locs ls hP hS hl hf
      rw [fX3_still_L15] at hf
      refine lv_iload_n hx hb dX3_still_15 rfl (lv_at hl 2 rfl) ?_
      refine lv_bipush (v := (70 : Int32)) hx hb dX3_still_16 (by decide) ?_
      refine k_icmp_ge (tgt := 71) hx hb dX3_still_18 (by decide) hf (fun hf => ?_) (fun hf => ?_)
      · refine lv_bipush (v := (-9 : Int32)) hx hb dX3_still_71 (by decide) ?_
        exact W_iret (fun z => wMo cI a z) hx hb hr hlk hP hS hAe hf dX3_still_73
      · refine lv_aload_n hx hb dX3_still_21 rfl (lv_at hl 0 rfl) ?_
        refine va_get (D := D) (ci := 3) (v := .ref (a 2)) (C := RX3) (T := TX3) (N := 13) hx hb hts inX3 hown hK hP 0 rfl rfl 1 (by decide) ln3 (fun _ h9 => h9) rfl dX3_still_22 ?_
        refine lv_iconst (v := (2 : Int32)) hx hb dX3_still_25 (by decide) ?_
        refine k_iald hx hb hK hP 2 0 hf rfl rfl dX3_still_26 (fun v2 hf => ?_)
        refine lv_istore_n (lv' := [(3, .int v2), (0, .ref (a 0)), (1, .int x1), (2, .int x2)]) hx hb dX3_still_27 rfl hl (by decide) rfl (fun ls hl => ?_)
        refine lv_aload_n hx hb dX3_still_28 rfl (lv_at hl 1 rfl) ?_
        refine va_get (D := D) (ci := 3) (v := .ref (a 2)) (C := RX3) (T := TX3) (N := 13) hx hb hts inX3 hown hK hP 0 rfl rfl 1 (by decide) ln3 (fun _ h9 => h9) rfl dX3_still_29 ?_
        refine lv_iconst (v := (0 : Int32)) hx hb dX3_still_32 (by decide) ?_
        refine d_callSv (As := [.ref ((sb [2] a) 0), .int (0 : Int32)]) (rest := []) (w := (fun z => wMo cI a z)) (wc := (wAr cI (sb [2] a))) (put := (fun uq => pb [2] uq z)) (σ := z) (τ0 := (sb [2] z)) ⟨hx, hb, hml, hown, hts⟩ hf (fun zq hq => mX3_day l D cI cJ (sb [2] a) H.size N (sb [2] z) (0 : Int32) zq hq) (va_cwS 2 hts gX3_still_X3_day rfl rfl rfl qX3_day ⟨Nat.le_of_ble_eq_true rfl, Nat.le_of_ble_eq_true rfl⟩) hK hP hD hS hA (cmb_Mo_Ar_2 D cI a z hP (hD _)) rfl hl.1 rfl (Nat.le_of_ble_eq_true rfl) dX3_still_33 ⟨Nat.le_refl _, Nat.le_refl _⟩ (fun z3 H locs hP hS hf => ?_)
        refine lv_aload_n hx hb dX3_still_36 rfl (lv_at hl 1 rfl) ?_
        refine va_get (D := D) (ci := 3) (v := .ref (a 2)) (C := RX3) (T := TX3) (N := 13) hx hb hts inX3 hown hK hP 0 rfl rfl 1 (by decide) ln3 (fun _ h9 => h9) rfl dX3_still_37 ?_
        refine lv_iconst (v := (2 : Int32)) hx hb dX3_still_40 (by decide) ?_
        refine k_iald hx hb hK hP 2 0 hf rfl rfl dX3_still_41 (fun v4 hf => ?_)
        refine lv_iload_n hx hb dX3_still_42 rfl (lv_at hl 0 rfl) ?_
        refine k_icmp_ne (tgt := 52) hx hb dX3_still_43 (by decide) hf (fun hf => ?_) (fun hf => ?_)
        · refine lv_iconst (v := (0 : Int32)) hx hb dX3_still_52 (by decide) ?_
          exact b53 (fX3_still_L15 N n) ih z3 x2 (0 : Int32) H locs ls hP hS (lv_sub hl [1, 3] rfl) hf
        · refine lv_iload_n hx hb dX3_still_46 rfl (lv_at hl 2 rfl) ?_
          refine lv_iconst (v := (1 : Int32)) hx hb dX3_still_47 (by decide) ?_
          refine lv_iadd hx hb dX3_still_48 ?_
          refine lv_goto (tgt := 53) hx hb dX3_still_49 (by decide) ?_
          exact b53 (fX3_still_L15 N n) ih z3 x2 (x1 + (1 : Int32)) H locs ls hP hS (lv_sub hl [1, 3] rfl) hf
  unfold fX3_still at hf
  refine lv_aload_n hx hb dX3_still_0 rfl (lv_at hl 0 rfl) ?_
  refine va_get (D := D) (ci := 3) (v := .ref (a 1)) (C := RX3) (T := TX3) (N := 13) hx hb hts inX3 hown hK hP 0 rfl rfl 0 (by decide) ln1 (fun _ h9 => h9) rfl dX3_still_1 ?_
  refine lv_aload_n hx hb dX3_still_4 rfl (lv_at hl 0 rfl) ?_
  refine va_get (D := D) (ci := 3) (v := .ref (a 2)) (C := RX3) (T := TX3) (N := 13) hx hb hts inX3 hown hK hP 0 rfl rfl 1 (by decide) ln3 (fun _ h9 => h9) rfl dX3_still_5 ?_
  refine d_callSv (As := [.ref ((sb [1, 2] a) 0), .ref ((sb [1, 2] a) 1)]) (rest := []) (w := (fun z => wMo cI a z)) (wc := (wAr2 cI (sb [1, 2] a))) (put := (fun uq => pb [1, 2] uq σ)) (σ := σ) (τ0 := (sb [1, 2] σ)) ⟨hx, hb, hml, hown, hts⟩ hf (fun zq hq => mX3_copies l D cI cJ (sb [1, 2] a) s.heap.size N (sb [1, 2] σ) zq hq) (va_cwS 2 hts gX3_still_X3_copies rfl rfl rfl qX3_copies ⟨Nat.le_of_ble_eq_true rfl, Nat.le_of_ble_eq_true rfl⟩) hK hP hD hS hA (cmb_Mo_Ar2_1_2 D cI a σ hP (hD _)) rfl hl.1 rfl (Nat.le_of_ble_eq_true rfl) dX3_still_8 ⟨Nat.le_refl _, Nat.le_refl _⟩ (fun z1 H locs hP hS hf => ?_)
  refine lv_iconst (v := (0 : Int32)) hx hb dX3_still_11 (by decide) ?_
  refine lv_istore_n (lv' := [(1, .int (0 : Int32)), (0, .ref (a 0))]) hx hb dX3_still_12 rfl hl (by decide) rfl (fun ls hl => ?_)
  refine lv_iconst (v := (0 : Int32)) hx hb dX3_still_13 (by decide) ?_
  refine lv_istore_n (lv' := [(2, .int (0 : Int32)), (1, .int (0 : Int32)), (0, .ref (a 0))]) hx hb dX3_still_14 rfl hl (by decide) rfl (fun ls hl => ?_)
  exact b15  N z1 (0 : Int32) (0 : Int32) H locs ls hP hS (lv_sub hl [2, 1, 0] rfl) hf
def fX3_strikes (N : Nat) (σ : St) (p1 : Int32) : Option (Int32 × St) :=
    if p1 = 0 then bx (fX3_whenAt N σ (0 : Int32) (1048577 : Int32)) (fun uq => uq) (fun v6 z5 =>
    some (v6, z5))
    else if p1 = (1 : Int32) then bx (fX3_still N σ) (fun uq => uq) (fun v4 z3 =>
    some (v4, z3))
    else bx (fX3_no N σ (-2 : Int32)) (fun uq => uq) (fun v2 z1 =>
    some (v2, z1))
abbrev rmX3_strikes : Room := { frames := 8, cells := 0, slots := 0, locals := 179 }
theorem qX3_strikes : yX3_strikes.cls = RX3 ∧ yX3_strikes.cls ≠ "java/lang/invoke/MethodHandle" ∧ yX3_strikes.cls ≠ "java/lang/invoke/VarHandle" ∧ (parseMethodDescriptor yX3_strikes.desc).map (fun d => d.parameters.length) = some 1 := by decide +kernel
set_option maxHeartbeats 400000 in
set_option maxRecDepth 100000 in
theorem mX3_strikes (l : Launch) (D : va_G) (cI cJ : ClassId) (a : Nat → Nat) (sz N : Nat) (σ : St) (p1 : Int32) (r : (Int32 × St)) (hf : fX3_strikes N σ p1 = some r) : Met l yX3_strikes wsX3_strikes rmX3_strikes (WPre ([.ref (a 0), .int p1] : List Value) sz D (tyIJ cI cJ) (wMo cI a σ)) (WQi sz D (wMo cI a σ) (wMo cI a (r.2)) r.1) 0 0 (va_A (wMo cI a σ) sz) := by
  refine W_start (cc := cX3_strikes) (maxL := 2) (ret := (some .int)) (by decide) rfl (Nat.le_of_ble_eq_true rfl) (fun p e s m below meth c ls A hx hb hr hml hown hts hlk hP hK hS hA hD0 hAe hl => ?_)
  have hD : ∀ z, va_D A ((fun z => wMo cI a z) z) := fun z => hD0.ad rfl
  have hown : s.vm.findClass RX3 = some m.cls := hown
  have hl : lv_has ls 2 [(0, .ref (a 0)), (1, .int p1)] := hl
  have ln1 := hts (Cond.constant RX3 157 (1048577)) (List.mem_of_getElem? (i := 1) rfl)
  unfold fX3_strikes at hf
  refine lv_iload_n hx hb dX3_strikes_0 rfl (lv_at hl 1 rfl) ?_
  refine k_if_ne (tgt := 14) hx hb dX3_strikes_1 (by decide) hf (fun hf => ?_) (fun hf => ?_)
  · refine lv_iload_n hx hb dX3_strikes_14 rfl (lv_at hl 1 rfl) ?_
    refine lv_iconst (v := (1 : Int32)) hx hb dX3_strikes_15 (by decide) ?_
    refine k_icmp_ne (tgt := 26) hx hb dX3_strikes_16 (by decide) hf (fun hf => ?_) (fun hf => ?_)
    · refine lv_aload_n hx hb dX3_strikes_26 rfl (lv_at hl 0 rfl) ?_
      refine lv_bipush (v := (-2 : Int32)) hx hb dX3_strikes_27 (by decide) ?_
      refine d_callV (As := [.int (-2 : Int32)]) (rest := []) (w := (fun z => wMo cI a z)) (wc := (wMo cI a)) (put := (fun uq => uq)) (σ := σ) (τ0 := σ) ⟨hx, hb, hml, hown, hts⟩ hf (fun vq zq hq => mX3_no l D cI cJ a s.heap.size N σ (-2 : Int32) (vq, zq) hq) (cwV 1 hts gX3_strikes_X3_no rfl rfl rfl qX3_no ⟨Nat.le_of_ble_eq_true rfl, Nat.le_of_ble_eq_true rfl⟩) hK hP hD hS hA ⟨hP, hD _, fun _ _ _ h => h⟩ 3 rfl rfl rfl rfl hl.1 rfl (Nat.le_of_ble_eq_true rfl) dX3_strikes_29 ⟨Nat.le_refl _, Nat.le_refl _⟩ (fun v2 z1 H locs hP hS hf => ?_)
      exact W_iret (fun z => wMo cI a z) hx hb hr hlk hP hS hAe hf dX3_strikes_32
    · refine lv_aload_n hx hb dX3_strikes_19 rfl (lv_at hl 0 rfl) ?_
      refine d_callV (As := []) (rest := []) (w := (fun z => wMo cI a z)) (wc := (wMo cI a)) (put := (fun uq => uq)) (σ := σ) (τ0 := σ) ⟨hx, hb, hml, hown, hts⟩ hf (fun vq zq hq => mX3_still l D cI cJ a s.heap.size N σ (vq, zq) hq) (cwV 0 hts gX3_strikes_X3_still rfl rfl rfl qX3_still ⟨Nat.le_of_ble_eq_true rfl, Nat.le_of_ble_eq_true rfl⟩) hK hP hD hS hA ⟨hP, hD _, fun _ _ _ h => h⟩ 3 rfl rfl rfl rfl hl.1 rfl (Nat.le_of_ble_eq_true rfl) dX3_strikes_20 ⟨Nat.le_refl _, Nat.le_refl _⟩ (fun v4 z3 H locs hP hS hf => ?_)
      refine lv_goto (tgt := 32) hx hb dX3_strikes_23 (by decide) ?_
      exact W_iret (fun z => wMo cI a z) hx hb hr hlk hP hS hAe hf dX3_strikes_32
  · refine lv_aload_n hx hb dX3_strikes_4 rfl (lv_at hl 0 rfl) ?_
    refine lv_iconst (v := (0 : Int32)) hx hb dX3_strikes_5 (by decide) ?_
    refine lv_ldc (v := (1048577 : Int32)) hx hb hown ln1 dX3_strikes_6 ?_
    refine d_callV (As := [.int (0 : Int32), .int (1048577 : Int32)]) (rest := []) (w := (fun z => wMo cI a z)) (wc := (wMo cI a)) (put := (fun uq => uq)) (σ := σ) (τ0 := σ) ⟨hx, hb, hml, hown, hts⟩ hf (fun vq zq hq => mX3_whenAt l D cI cJ a s.heap.size N σ (0 : Int32) (1048577 : Int32) (vq, zq) hq) (cwV 2 hts gX3_strikes_X3_whenAt rfl rfl rfl qX3_whenAt ⟨Nat.le_of_ble_eq_true rfl, Nat.le_of_ble_eq_true rfl⟩) hK hP hD hS hA ⟨hP, hD _, fun _ _ _ h => h⟩ 3 rfl rfl rfl rfl hl.1 rfl (Nat.le_of_ble_eq_true rfl) dX3_strikes_8 ⟨Nat.le_refl _, Nat.le_refl _⟩ (fun v6 z5 H locs hP hS hf => ?_)
    refine lv_goto (tgt := 32) hx hb dX3_strikes_11 (by decide) ?_
    exact W_iret (fun z => wMo cI a z) hx hb hr hlk hP hS hAe hf dX3_strikes_32
def fX3_door (N : Nat) (σ : St) (p1 : Int32) : Option (Int32 × St) :=
    bo (fX3_isSide N p1) (fun v1 =>
    if v1 = 0 then bx (fX3_no N σ (-1 : Int32)) (fun uq => uq) (fun v3 z2 =>
    some (v3, z2))
    else bo (rdI σ 1 38 (3 : Int32)) (fun v4 =>
    bx (fX3_whenAt N σ p1 v4) (fun uq => uq) (fun v6 z5 =>
    some (v6, z5))))
abbrev rmX3_door : Room := { frames := 8, cells := 0, slots := 0, locals := 179 }
theorem qX3_door : yX3_door.cls = RX3 ∧ yX3_door.cls ≠ "java/lang/invoke/MethodHandle" ∧ yX3_door.cls ≠ "java/lang/invoke/VarHandle" ∧ (parseMethodDescriptor yX3_door.desc).map (fun d => d.parameters.length) = some 1 := by decide +kernel
set_option maxHeartbeats 400000 in
set_option maxRecDepth 100000 in
theorem mX3_door (l : Launch) (D : va_G) (cI cJ : ClassId) (a : Nat → Nat) (sz N : Nat) (σ : St) (p1 : Int32) (r : (Int32 × St)) (hf : fX3_door N σ p1 = some r) : Met l yX3_door wsX3_door rmX3_door (WPre ([.ref (a 0), .int p1] : List Value) sz D (tyIJ cI cJ) (wMo cI a σ)) (WQi sz D (wMo cI a σ) (wMo cI a (r.2)) r.1) 0 0 (va_A (wMo cI a σ) sz) := by
  refine W_start (cc := cX3_door) (maxL := 2) (ret := (some .int)) (by decide) rfl (Nat.le_of_ble_eq_true rfl) (fun p e s m below meth c ls A hx hb hr hml hown hts hlk hP hK hS hA hD0 hAe hl => ?_)
  have hD : ∀ z, va_D A ((fun z => wMo cI a z) z) := fun z => hD0.ad rfl
  have hown : s.vm.findClass RX3 = some m.cls := hown
  have hl : lv_has ls 2 [(0, .ref (a 0)), (1, .int p1)] := hl
  have ln1 := hts (Cond.fieldLink RX3 9 "HoistsAreSharedModel" "s" "[I") (List.mem_of_getElem? (i := 1) rfl)
  have inX3 : ∀ w ∈ u_ws RX3 TX3 13, w ∈ wsX3_door := fun _ h => List.mem_cons_of_mem _ (List.mem_append_right _ h)
  unfold fX3_door at hf
  refine lv_iload_n hx hb dX3_door_0 rfl (lv_at hl 1 rfl) ?_
  refine c_callS (As := [.int p1]) (rest := []) ⟨hx, hb, hml, hown, hts⟩ hf (fun vq hq => mX3_isSide l D cI cJ s.heap.size N p1 vq hq) (va_cwS 1 hts gX3_door_X3_isSide rfl rfl rfl qX3_isSide ⟨Nat.le_of_ble_eq_true rfl, Nat.le_of_ble_eq_true rfl⟩) hK hP hS hA va_P_nil rfl hl.1 rfl (Nat.le_of_ble_eq_true rfl) dX3_door_1 ⟨Nat.le_refl _, Nat.le_refl _⟩ (fun v1 H locs hP hS hf => ?_)
  refine k_if_eq (tgt := 21) hx hb dX3_door_4 (by decide) hf (fun hf => ?_) (fun hf => ?_)
  · refine lv_aload_n hx hb dX3_door_21 rfl (lv_at hl 0 rfl) ?_
    refine lv_iconst (v := (-1 : Int32)) hx hb dX3_door_22 (by decide) ?_
    refine d_callV (As := [.int (-1 : Int32)]) (rest := []) (w := (fun z => wMo cI a z)) (wc := (wMo cI a)) (put := (fun uq => uq)) (σ := σ) (τ0 := σ) ⟨hx, hb, hml, hown, hts⟩ hf (fun vq zq hq => mX3_no l D cI cJ a H.size N σ (-1 : Int32) (vq, zq) hq) (cwV 1 hts gX3_door_X3_no rfl rfl rfl qX3_no ⟨Nat.le_of_ble_eq_true rfl, Nat.le_of_ble_eq_true rfl⟩) hK hP hD hS hA ⟨hP, hD _, fun _ _ _ h => h⟩ 3 rfl rfl rfl rfl hl.1 rfl (Nat.le_of_ble_eq_true rfl) dX3_door_23 ⟨Nat.le_refl _, Nat.le_refl _⟩ (fun v3 z2 H locs hP hS hf => ?_)
    exact W_iret (fun z => wMo cI a z) hx hb hr hlk hP hS hAe hf dX3_door_26
  · refine lv_aload_n hx hb dX3_door_7 rfl (lv_at hl 0 rfl) ?_
    refine lv_iload_n hx hb dX3_door_8 rfl (lv_at hl 1 rfl) ?_
    refine lv_aload_n hx hb dX3_door_9 rfl (lv_at hl 0 rfl) ?_
    refine va_get (D := D) (ci := 3) (v := .ref (a 1)) (C := RX3) (T := TX3) (N := 13) hx hb hts inX3 hown hK hP 0 rfl rfl 0 (by decide) ln1 (fun _ h9 => h9) rfl dX3_door_10 ?_
    refine lv_iconst (v := (3 : Int32)) hx hb dX3_door_13 (by decide) ?_
    refine k_iald hx hb hK hP 1 0 hf rfl rfl dX3_door_14 (fun v4 hf => ?_)
    refine d_callV (As := [.int p1, .int v4]) (rest := []) (w := (fun z => wMo cI a z)) (wc := (wMo cI a)) (put := (fun uq => uq)) (σ := σ) (τ0 := σ) ⟨hx, hb, hml, hown, hts⟩ hf (fun vq zq hq => mX3_whenAt l D cI cJ a H.size N σ p1 v4 (vq, zq) hq) (cwV 2 hts gX3_door_X3_whenAt rfl rfl rfl qX3_whenAt ⟨Nat.le_of_ble_eq_true rfl, Nat.le_of_ble_eq_true rfl⟩) hK hP hD hS hA ⟨hP, hD _, fun _ _ _ h => h⟩ 3 rfl rfl rfl rfl hl.1 rfl (Nat.le_of_ble_eq_true rfl) dX3_door_15 ⟨Nat.le_refl _, Nat.le_refl _⟩ (fun v6 z5 H locs hP hS hf => ?_)
    refine lv_goto (tgt := 26) hx hb dX3_door_18 (by decide) ?_
    exact W_iret (fun z => wMo cI a z) hx hb hr hlk hP hS hAe hf dX3_door_26
def fX3_level_L57 (N : Nat) (k34 : St → Int32 → Int32 → Int32 → Option (Int32 × St)) (z : St) (x1 : Int32) (x4 : Int32) (y0 : Int32) (y1 : Int32) : Option (Int32 × St) :=
    lt_ ((y1 + y0) : Int32) (fun v4 =>
    by_ (fX3_day N (sb [2] z) (0 : Int32)) (fun uq => pb [2] uq z) (fun z5 =>
    lt_ (x4 + (1 : Int32) : Int32) (fun v6 =>
    k34 z5 x1 v4 v6)))
def fX3_level_L34 (N : Nat)  : Nat → St → Int32 → Int32 → Int32 → Option (Int32 × St)
  | 0, _, _, _, _ => none
  | n + 1, z, x1, x3, x4 =>
    if x1 < x4 then some (x3, z)
    else bo (rdI z 2 38 (2 : Int32)) (fun v3 =>
    if v3 = (10 : Int32) then fX3_level_L57 N (fX3_level_L34 N n) z x1 x4 (1 : Int32) x3
    else fX3_level_L57 N (fX3_level_L34 N n) z x1 x4 (0 : Int32) x3)
def fX3_level (N : Nat) (σ : St) (p1 : Int32) : Option (Int32 × St) :=
    bo (fX3_wrongBy N p1 (0 : Int32) (60 : Int32)) (fun v1 =>
    if v1 = 0 then by_ (fX3_copies N (sb [1, 2] σ)) (fun uq => pb [1, 2] uq σ) (fun z2 =>
    fX3_level_L34 N  N z2 p1 (0 : Int32) (0 : Int32))
    else bx (fX3_no N σ v1) (fun uq => uq) (fun v8 z7 =>
    some (v8, z7)))
abbrev rmX3_level : Room := { frames := 7, cells := 0, slots := 0, locals := 156 }
theorem qX3_level : yX3_level.cls = RX3 ∧ yX3_level.cls ≠ "java/lang/invoke/MethodHandle" ∧ yX3_level.cls ≠ "java/lang/invoke/VarHandle" ∧ (parseMethodDescriptor yX3_level.desc).map (fun d => d.parameters.length) = some 1 := by decide +kernel
set_option maxHeartbeats 400000 in
set_option maxRecDepth 100000 in
theorem mX3_level (l : Launch) (D : va_G) (cI cJ : ClassId) (a : Nat → Nat) (sz N : Nat) (σ : St) (p1 : Int32) (r : (Int32 × St)) (hf : fX3_level N σ p1 = some r) : Met l yX3_level wsX3_level rmX3_level (WPre ([.ref (a 0), .int p1] : List Value) sz D (tyIJ cI cJ) (wMo cI a σ)) (WQi sz D (wMo cI a σ) (wMo cI a (r.2)) r.1) 0 0 (va_A (wMo cI a σ) sz) := by
  refine W_start (cc := cX3_level) (maxL := 5) (ret := (some .int)) (by decide) rfl (Nat.le_of_ble_eq_true rfl) (fun p e s m below meth c ls A hx hb hr hml hown hts hlk hP hK hS hA hD0 hAe hl => ?_)
  have hD : ∀ z, va_D A ((fun z => wMo cI a z) z) := fun z => hD0.ad rfl
  have hown : s.vm.findClass RX3 = some m.cls := hown
  have hl : lv_has ls 5 [(0, .ref (a 0)), (1, .int p1)] := hl
  have ln1 := hts (Cond.fieldLink RX3 9 "HoistsAreSharedModel" "s" "[I") (List.mem_of_getElem? (i := 1) rfl)
  have inX3 : ∀ w ∈ u_ws RX3 TX3 13, w ∈ wsX3_level := fun _ h => List.mem_cons_of_mem _ (List.mem_append_right _ h)
  have ln3 := hts (Cond.fieldLink RX3 13 "HoistsAreSharedModel" "m" "[I") (List.mem_of_getElem? (i := 2) rfl)
  have b57 : ∀ (k34 : St → Int32 → Int32 → Int32 → Option (Int32 × St)) (hk34 : (∀ (z : St) (x1 : Int32) (x3 : Int32) (x4 : Int32) (H : Heap) (locs : List Loc) (ls : Array Slot), va_P D vwCl (wMo cI a z) H → va_S A s.heap H locs → lv_has ls 5 [(0, .ref (a 0)), (1, .int x1), (3, .int x3), (4, .int x4)] → k34 z x1 x3 x4 = some r → W p l e rmX3_level s m ([.ref (a 0), .int p1] : List Value).toArray below meth c H locs 0 0 (MQ below (WQi sz D (wMo cI a σ) (wMo cI a (r.2)) r.1) ([.ref (a 0), .int p1] : List Value).toArray s 0 0 A) (F0 m 34 ls []))) (z : St) (x1 : Int32) (x4 : Int32) (y0 : Int32) (y1 : Int32) (H : Heap) (locs : List Loc) (ls : Array Slot), va_P D vwCl (wMo cI a z) H → va_S A s.heap H locs → lv_has ls 5 [(0, .ref (a 0)), (1, .int x1), (4, .int x4)] → fX3_level_L57 N k34 z x1 x4 y0 y1 = some r → W p l e rmX3_level s m ([.ref (a 0), .int p1] : List Value).toArray below meth c H locs 0 0 (MQ below (WQi sz D (wMo cI a σ) (wMo cI a (r.2)) r.1) ([.ref (a 0), .int p1] : List Value).toArray s 0 0 A) (F0 m 57 ls [.int y0, .int y1]) := by
    intro k34 hk34 z x1 x4 y0 y1 H locs ls hP hS hl hf
    unfold fX3_level_L57 at hf
    refine lv_iadd hx hb dX3_level_57 ?_
    refine k_let hf (fun v4 hf => ?_)
    refine lv_istore_n (lv' := [(3, .int v4), (0, .ref (a 0)), (1, .int x1), (4, .int x4)]) hx hb dX3_level_58 rfl hl (by decide) rfl (fun ls hl => ?_)
    refine lv_aload_n hx hb dX3_level_59 rfl (lv_at hl 1 rfl) ?_
    refine va_get (D := D) (ci := 3) (v := .ref (a 2)) (C := RX3) (T := TX3) (N := 13) hx hb hts inX3 hown hK hP 0 rfl rfl 1 (by decide) ln3 (fun _ h9 => h9) rfl dX3_level_60 ?_
    refine lv_iconst (v := (0 : Int32)) hx hb dX3_level_63 (by decide) ?_
    refine d_callSv (As := [.ref ((sb [2] a) 0), .int (0 : Int32)]) (rest := []) (w := (fun z => wMo cI a z)) (wc := (wAr cI (sb [2] a))) (put := (fun uq => pb [2] uq z)) (σ := z) (τ0 := (sb [2] z)) ⟨hx, hb, hml, hown, hts⟩ hf (fun zq hq => mX3_day l D cI cJ (sb [2] a) H.size N (sb [2] z) (0 : Int32) zq hq) (va_cwS 2 hts gX3_level_X3_day rfl rfl rfl qX3_day ⟨Nat.le_of_ble_eq_true rfl, Nat.le_of_ble_eq_true rfl⟩) hK hP hD hS hA (cmb_Mo_Ar_2 D cI a z hP (hD _)) rfl hl.1 rfl (Nat.le_of_ble_eq_true rfl) dX3_level_64 ⟨Nat.le_refl _, Nat.le_refl _⟩ (fun z5 H locs hP hS hf => ?_)
    refine k_iinc (d := (1 : Int32)) (lv' := fun v6 => [(4, .int v6), (3, .int v4), (0, .ref (a 0)), (1, .int x1)]) hx hb dX3_level_67 hl (k := 3) rfl (by decide) (by decide) (fun _ => rfl) hf (fun v6 ls hl hf => ?_)
    refine lv_goto (tgt := 34) hx hb dX3_level_70 (by decide) ?_
    exact hk34 z5 x1 v4 v6 H locs ls hP hS (lv_sub hl [2, 3, 1, 0] rfl) hf
  have b34 : ∀  (n : Nat) (z : St) (x1 : Int32) (x3 : Int32) (x4 : Int32) (H : Heap) (locs : List Loc) (ls : Array Slot), va_P D vwCl (wMo cI a z) H → va_S A s.heap H locs → lv_has ls 5 [(0, .ref (a 0)), (1, .int x1), (3, .int x3), (4, .int x4)] → fX3_level_L34 N n z x1 x3 x4 = some r → W p l e rmX3_level s m ([.ref (a 0), .int p1] : List Value).toArray below meth c H locs 0 0 (MQ below (WQi sz D (wMo cI a σ) (wMo cI a (r.2)) r.1) ([.ref (a 0), .int p1] : List Value).toArray s 0 0 A) (F0 m 34 ls []) := by
    intro n
    induction n with
    | zero => intro z x1 x3 x4 H locs ls hP hS hl hf; cases hf
    | succ n ih =>
      intro z x1 x3 x4 H locs ls hP hS hl hf
      rw [fX3_level_L34] at hf
      refine lv_iload hx hb dX3_level_34 (lv_at hl 3 rfl) ?_
      refine lv_iload_n hx hb dX3_level_36 rfl (lv_at hl 1 rfl) ?_
      refine k_icmp_gt (tgt := 73) hx hb dX3_level_37 (by decide) hf (fun hf => ?_) (fun hf => ?_)
      · refine lv_iload_n hx hb dX3_level_73 rfl (lv_at hl 2 rfl) ?_
        exact W_iret (fun z => wMo cI a z) hx hb hr hlk hP hS hAe hf dX3_level_74
      · refine lv_iload_n hx hb dX3_level_40 rfl (lv_at hl 2 rfl) ?_
        refine lv_aload_n hx hb dX3_level_41 rfl (lv_at hl 0 rfl) ?_
        refine va_get (D := D) (ci := 3) (v := .ref (a 2)) (C := RX3) (T := TX3) (N := 13) hx hb hts inX3 hown hK hP 0 rfl rfl 1 (by decide) ln3 (fun _ h9 => h9) rfl dX3_level_42 ?_
        refine lv_iconst (v := (2 : Int32)) hx hb dX3_level_45 (by decide) ?_
        refine k_iald hx hb hK hP 2 0 hf rfl rfl dX3_level_46 (fun v3 hf => ?_)
        refine lv_bipush (v := (10 : Int32)) hx hb dX3_level_47 (by decide) ?_
        refine k_icmp_ne (tgt := 56) hx hb dX3_level_49 (by decide) hf (fun hf => ?_) (fun hf => ?_)
        · refine lv_iconst (v := (0 : Int32)) hx hb dX3_level_56 (by decide) ?_
          exact b57 (fX3_level_L34 N n) ih z x1 x4 (0 : Int32) x3 H locs ls hP hS (lv_sub hl [0, 1, 3] rfl) hf
        · refine lv_iconst (v := (1 : Int32)) hx hb dX3_level_52 (by decide) ?_
          refine lv_goto (tgt := 57) hx hb dX3_level_53 (by decide) ?_
          exact b57 (fX3_level_L34 N n) ih z x1 x4 (1 : Int32) x3 H locs ls hP hS (lv_sub hl [0, 1, 3] rfl) hf
  unfold fX3_level at hf
  refine lv_iload_n hx hb dX3_level_0 rfl (lv_at hl 1 rfl) ?_
  refine lv_iconst (v := (0 : Int32)) hx hb dX3_level_1 (by decide) ?_
  refine lv_bipush (v := (60 : Int32)) hx hb dX3_level_2 (by decide) ?_
  refine c_callS (As := [.int p1, .int (0 : Int32), .int (60 : Int32)]) (rest := []) ⟨hx, hb, hml, hown, hts⟩ hf (fun vq hq => mX3_wrongBy l D cI cJ s.heap.size N p1 (0 : Int32) (60 : Int32) vq hq) (va_cwS 3 hts gX3_level_X3_wrongBy rfl rfl rfl qX3_wrongBy ⟨Nat.le_of_ble_eq_true rfl, Nat.le_of_ble_eq_true rfl⟩) hK hP hS hA va_P_nil rfl hl.1 rfl (Nat.le_of_ble_eq_true rfl) dX3_level_4 ⟨Nat.le_refl _, Nat.le_refl _⟩ (fun v1 H locs hP hS hf => ?_)
  refine lv_istore_n (lv' := [(2, .int v1), (0, .ref (a 0)), (1, .int p1)]) hx hb dX3_level_7 rfl hl (by decide) rfl (fun ls hl => ?_)
  refine lv_iload_n hx hb dX3_level_8 rfl (lv_at hl 0 rfl) ?_
  refine k_if_eq (tgt := 18) hx hb dX3_level_9 (by decide) hf (fun hf => ?_) (fun hf => ?_)
  · refine lv_aload_n hx hb dX3_level_18 rfl (lv_at hl 1 rfl) ?_
    refine va_get (D := D) (ci := 3) (v := .ref (a 1)) (C := RX3) (T := TX3) (N := 13) hx hb hts inX3 hown hK hP 0 rfl rfl 0 (by decide) ln1 (fun _ h9 => h9) rfl dX3_level_19 ?_
    refine lv_aload_n hx hb dX3_level_22 rfl (lv_at hl 1 rfl) ?_
    refine va_get (D := D) (ci := 3) (v := .ref (a 2)) (C := RX3) (T := TX3) (N := 13) hx hb hts inX3 hown hK hP 0 rfl rfl 1 (by decide) ln3 (fun _ h9 => h9) rfl dX3_level_23 ?_
    refine d_callSv (As := [.ref ((sb [1, 2] a) 0), .ref ((sb [1, 2] a) 1)]) (rest := []) (w := (fun z => wMo cI a z)) (wc := (wAr2 cI (sb [1, 2] a))) (put := (fun uq => pb [1, 2] uq σ)) (σ := σ) (τ0 := (sb [1, 2] σ)) ⟨hx, hb, hml, hown, hts⟩ hf (fun zq hq => mX3_copies l D cI cJ (sb [1, 2] a) H.size N (sb [1, 2] σ) zq hq) (va_cwS 2 hts gX3_level_X3_copies rfl rfl rfl qX3_copies ⟨Nat.le_of_ble_eq_true rfl, Nat.le_of_ble_eq_true rfl⟩) hK hP hD hS hA (cmb_Mo_Ar2_1_2 D cI a σ hP (hD _)) rfl hl.1 rfl (Nat.le_of_ble_eq_true rfl) dX3_level_26 ⟨Nat.le_refl _, Nat.le_refl _⟩ (fun z2 H locs hP hS hf => ?_)
    refine lv_iconst (v := (0 : Int32)) hx hb dX3_level_29 (by decide) ?_
    refine lv_istore_n (lv' := [(3, .int (0 : Int32)), (2, .int v1), (0, .ref (a 0)), (1, .int p1)]) hx hb dX3_level_30 rfl hl (by decide) rfl (fun ls hl => ?_)
    refine lv_iconst (v := (0 : Int32)) hx hb dX3_level_31 (by decide) ?_
    refine lv_istore (lv' := [(4, .int (0 : Int32)), (3, .int (0 : Int32)), (2, .int v1), (0, .ref (a 0)), (1, .int p1)]) hx hb dX3_level_32 hl (by decide) rfl (fun ls hl => ?_)
    exact b34  N z2 p1 (0 : Int32) (0 : Int32) H locs ls hP hS (lv_sub hl [3, 4, 1, 0] rfl) hf
  · refine lv_aload_n hx hb dX3_level_12 rfl (lv_at hl 1 rfl) ?_
    refine lv_iload_n hx hb dX3_level_13 rfl (lv_at hl 0 rfl) ?_
    refine d_callV (As := [.int v1]) (rest := []) (w := (fun z => wMo cI a z)) (wc := (wMo cI a)) (put := (fun uq => uq)) (σ := σ) (τ0 := σ) ⟨hx, hb, hml, hown, hts⟩ hf (fun vq zq hq => mX3_no l D cI cJ a H.size N σ v1 (vq, zq) hq) (cwV 1 hts gX3_level_X3_no rfl rfl rfl qX3_no ⟨Nat.le_of_ble_eq_true rfl, Nat.le_of_ble_eq_true rfl⟩) hK hP hD hS hA ⟨hP, hD _, fun _ _ _ h => h⟩ 3 rfl rfl rfl rfl hl.1 rfl (Nat.le_of_ble_eq_true rfl) dX3_level_14 ⟨Nat.le_refl _, Nat.le_refl _⟩ (fun v8 z7 H locs hP hS hf => ?_)
    exact W_iret (fun z => wMo cI a z) hx hb hr hlk hP hS hAe hf dX3_level_17
def fX3_apartThen (N : Nat) (σ : St) (p1 : Int32) : Option (Int32 × St) :=
    by_ (fX3_daysOn N (sb [2] σ) p1) (fun uq => pb [2] uq σ) (fun z1 =>
    bo (fX3_apart N (sb [2] z1)) (fun v2 =>
    some (v2, z1)))
abbrev rmX3_apartThen : Room := { frames := 8, cells := 0, slots := 0, locals := 178 }
theorem qX3_apartThen : yX3_apartThen.cls = RX3 ∧ yX3_apartThen.cls ≠ "java/lang/invoke/MethodHandle" ∧ yX3_apartThen.cls ≠ "java/lang/invoke/VarHandle" ∧ (parseMethodDescriptor yX3_apartThen.desc).map (fun d => d.parameters.length) = some 1 := by decide +kernel
set_option maxHeartbeats 400000 in
set_option maxRecDepth 100000 in
theorem mX3_apartThen (l : Launch) (D : va_G) (cI cJ : ClassId) (a : Nat → Nat) (sz N : Nat) (σ : St) (p1 : Int32) (r : (Int32 × St)) (hf : fX3_apartThen N σ p1 = some r) : Met l yX3_apartThen wsX3_apartThen rmX3_apartThen (WPre ([.ref (a 0), .int p1] : List Value) sz D (tyIJ cI cJ) (wMo cI a σ)) (WQi sz D (wMo cI a σ) (wMo cI a (r.2)) r.1) 0 0 (va_A (wMo cI a σ) sz) := by
  refine W_start (cc := cX3_apartThen) (maxL := 2) (ret := (some .int)) (by decide) rfl (Nat.le_of_ble_eq_true rfl) (fun p e s m below meth c ls A hx hb hr hml hown hts hlk hP hK hS hA hD0 hAe hl => ?_)
  have hD : ∀ z, va_D A ((fun z => wMo cI a z) z) := fun z => hD0.ad rfl
  have hown : s.vm.findClass RX3 = some m.cls := hown
  have hl : lv_has ls 2 [(0, .ref (a 0)), (1, .int p1)] := hl
  have ln1 := hts (Cond.fieldLink RX3 13 "HoistsAreSharedModel" "m" "[I") (List.mem_of_getElem? (i := 1) rfl)
  have inX3 : ∀ w ∈ u_ws RX3 TX3 13, w ∈ wsX3_apartThen := fun _ h => List.mem_cons_of_mem _ (List.mem_append_right _ h)
  unfold fX3_apartThen at hf
  refine lv_aload_n hx hb dX3_apartThen_0 rfl (lv_at hl 0 rfl) ?_
  refine va_get (D := D) (ci := 3) (v := .ref (a 2)) (C := RX3) (T := TX3) (N := 13) hx hb hts inX3 hown hK hP 0 rfl rfl 1 (by decide) ln1 (fun _ h9 => h9) rfl dX3_apartThen_1 ?_
  refine lv_iload_n hx hb dX3_apartThen_4 rfl (lv_at hl 1 rfl) ?_
  refine d_callSv (As := [.ref ((sb [2] a) 0), .int p1]) (rest := []) (w := (fun z => wMo cI a z)) (wc := (wAr cI (sb [2] a))) (put := (fun uq => pb [2] uq σ)) (σ := σ) (τ0 := (sb [2] σ)) ⟨hx, hb, hml, hown, hts⟩ hf (fun zq hq => mX3_daysOn l D cI cJ (sb [2] a) s.heap.size N (sb [2] σ) p1 zq hq) (va_cwS 2 hts gX3_apartThen_X3_daysOn rfl rfl rfl qX3_daysOn ⟨Nat.le_of_ble_eq_true rfl, Nat.le_of_ble_eq_true rfl⟩) hK hP hD hS hA (cmb_Mo_Ar_2 D cI a σ hP (hD _)) rfl hl.1 rfl (Nat.le_of_ble_eq_true rfl) dX3_apartThen_5 ⟨Nat.le_refl _, Nat.le_refl _⟩ (fun z1 H locs hP hS hf => ?_)
  refine lv_aload_n hx hb dX3_apartThen_8 rfl (lv_at hl 0 rfl) ?_
  refine va_get (D := D) (ci := 3) (v := .ref (a 2)) (C := RX3) (T := TX3) (N := 13) hx hb hts inX3 hown hK hP 0 rfl rfl 1 (by decide) ln1 (fun _ h9 => h9) rfl dX3_apartThen_9 ?_
  refine c_callS (As := [.ref ((sb [2] a) 0)]) (rest := []) ⟨hx, hb, hml, hown, hts⟩ hf (fun vq hq => mX3_apart l D cI cJ (sb [2] a) H.size N (sb [2] z1) vq hq) (va_cwS 1 hts gX3_apartThen_X3_apart rfl rfl rfl qX3_apart ⟨Nat.le_of_ble_eq_true rfl, Nat.le_of_ble_eq_true rfl⟩) hK hP hS hA (cmr_Mo_Ar_2 D cI a z1 hP) rfl hl.1 rfl (Nat.le_of_ble_eq_true rfl) dX3_apartThen_12 ⟨Nat.le_refl _, Nat.le_refl _⟩ (fun v2 H locs hP hS hf => ?_)
  exact W_iret (fun z => wMo cI a z) hx hb hr hlk hP hS hAe hf dX3_apartThen_15
def fX3_apartNow (N : Nat) (σ : St) (p1 : Int32) : Option (Int32 × St) :=
    by_ (fX3_copies N (sb [1, 2] σ)) (fun uq => pb [1, 2] uq σ) (fun z1 =>
    bx (fX3_apartThen N z1 p1) (fun uq => uq) (fun v3 z2 =>
    some (v3, z2)))
abbrev rmX3_apartNow : Room := { frames := 9, cells := 0, slots := 0, locals := 199 }
theorem qX3_apartNow : yX3_apartNow.cls = RX3 ∧ yX3_apartNow.cls ≠ "java/lang/invoke/MethodHandle" ∧ yX3_apartNow.cls ≠ "java/lang/invoke/VarHandle" ∧ (parseMethodDescriptor yX3_apartNow.desc).map (fun d => d.parameters.length) = some 1 := by decide +kernel
set_option maxHeartbeats 400000 in
set_option maxRecDepth 100000 in
theorem mX3_apartNow (l : Launch) (D : va_G) (cI cJ : ClassId) (a : Nat → Nat) (sz N : Nat) (σ : St) (p1 : Int32) (r : (Int32 × St)) (hf : fX3_apartNow N σ p1 = some r) : Met l yX3_apartNow wsX3_apartNow rmX3_apartNow (WPre ([.ref (a 0), .int p1] : List Value) sz D (tyIJ cI cJ) (wMo cI a σ)) (WQi sz D (wMo cI a σ) (wMo cI a (r.2)) r.1) 0 0 (va_A (wMo cI a σ) sz) := by
  refine W_start (cc := cX3_apartNow) (maxL := 2) (ret := (some .int)) (by decide) rfl (Nat.le_of_ble_eq_true rfl) (fun p e s m below meth c ls A hx hb hr hml hown hts hlk hP hK hS hA hD0 hAe hl => ?_)
  have hD : ∀ z, va_D A ((fun z => wMo cI a z) z) := fun z => hD0.ad rfl
  have hown : s.vm.findClass RX3 = some m.cls := hown
  have hl : lv_has ls 2 [(0, .ref (a 0)), (1, .int p1)] := hl
  have ln1 := hts (Cond.fieldLink RX3 9 "HoistsAreSharedModel" "s" "[I") (List.mem_of_getElem? (i := 1) rfl)
  have inX3 : ∀ w ∈ u_ws RX3 TX3 13, w ∈ wsX3_apartNow := fun _ h => List.mem_cons_of_mem _ (List.mem_append_right _ h)
  have ln3 := hts (Cond.fieldLink RX3 13 "HoistsAreSharedModel" "m" "[I") (List.mem_of_getElem? (i := 2) rfl)
  unfold fX3_apartNow at hf
  refine lv_aload_n hx hb dX3_apartNow_0 rfl (lv_at hl 0 rfl) ?_
  refine va_get (D := D) (ci := 3) (v := .ref (a 1)) (C := RX3) (T := TX3) (N := 13) hx hb hts inX3 hown hK hP 0 rfl rfl 0 (by decide) ln1 (fun _ h9 => h9) rfl dX3_apartNow_1 ?_
  refine lv_aload_n hx hb dX3_apartNow_4 rfl (lv_at hl 0 rfl) ?_
  refine va_get (D := D) (ci := 3) (v := .ref (a 2)) (C := RX3) (T := TX3) (N := 13) hx hb hts inX3 hown hK hP 0 rfl rfl 1 (by decide) ln3 (fun _ h9 => h9) rfl dX3_apartNow_5 ?_
  refine d_callSv (As := [.ref ((sb [1, 2] a) 0), .ref ((sb [1, 2] a) 1)]) (rest := []) (w := (fun z => wMo cI a z)) (wc := (wAr2 cI (sb [1, 2] a))) (put := (fun uq => pb [1, 2] uq σ)) (σ := σ) (τ0 := (sb [1, 2] σ)) ⟨hx, hb, hml, hown, hts⟩ hf (fun zq hq => mX3_copies l D cI cJ (sb [1, 2] a) s.heap.size N (sb [1, 2] σ) zq hq) (va_cwS 2 hts gX3_apartNow_X3_copies rfl rfl rfl qX3_copies ⟨Nat.le_of_ble_eq_true rfl, Nat.le_of_ble_eq_true rfl⟩) hK hP hD hS hA (cmb_Mo_Ar2_1_2 D cI a σ hP (hD _)) rfl hl.1 rfl (Nat.le_of_ble_eq_true rfl) dX3_apartNow_8 ⟨Nat.le_refl _, Nat.le_refl _⟩ (fun z1 H locs hP hS hf => ?_)
  refine lv_aload_n hx hb dX3_apartNow_11 rfl (lv_at hl 0 rfl) ?_
  refine lv_iload_n hx hb dX3_apartNow_12 rfl (lv_at hl 1 rfl) ?_
  refine d_callV (As := [.int p1]) (rest := []) (w := (fun z => wMo cI a z)) (wc := (wMo cI a)) (put := (fun uq => uq)) (σ := z1) (τ0 := z1) ⟨hx, hb, hml, hown, hts⟩ hf (fun vq zq hq => mX3_apartThen l D cI cJ a H.size N z1 p1 (vq, zq) hq) (cwV 1 hts gX3_apartNow_X3_apartThen rfl rfl rfl qX3_apartThen ⟨Nat.le_of_ble_eq_true rfl, Nat.le_of_ble_eq_true rfl⟩) hK hP hD hS hA ⟨hP, hD _, fun _ _ _ h => h⟩ 3 rfl rfl rfl rfl hl.1 rfl (Nat.le_of_ble_eq_true rfl) dX3_apartNow_13 ⟨Nat.le_refl _, Nat.le_refl _⟩ (fun v3 z2 H locs hP hS hf => ?_)
  exact W_iret (fun z => wMo cI a z) hx hb hr hlk hP hS hAe hf dX3_apartNow_16
def fX3_apartHung (N : Nat) (σ : St) (p1 : Int32) (p2 : Int32) (p3 : Int32) : Option (Int32 × St) :=
    by_ (fX3_copies N (sb [1, 2] σ)) (fun uq => pb [1, 2] uq σ) (fun z1 =>
    by_ (fX3_hangsIn N (sb [2] z1) p1 p2) (fun uq => pb [2] uq z1) (fun z2 =>
    bx (fX3_apartThen N z2 p3) (fun uq => uq) (fun v4 z3 =>
    some (v4, z3))))
abbrev rmX3_apartHung : Room := { frames := 9, cells := 0, slots := 0, locals := 199 }
theorem qX3_apartHung : yX3_apartHung.cls = RX3 ∧ yX3_apartHung.cls ≠ "java/lang/invoke/MethodHandle" ∧ yX3_apartHung.cls ≠ "java/lang/invoke/VarHandle" ∧ (parseMethodDescriptor yX3_apartHung.desc).map (fun d => d.parameters.length) = some 3 := by decide +kernel
set_option maxHeartbeats 400000 in
set_option maxRecDepth 100000 in
theorem mX3_apartHung (l : Launch) (D : va_G) (cI cJ : ClassId) (a : Nat → Nat) (sz N : Nat) (σ : St) (p1 : Int32) (p2 : Int32) (p3 : Int32) (r : (Int32 × St)) (hf : fX3_apartHung N σ p1 p2 p3 = some r) : Met l yX3_apartHung wsX3_apartHung rmX3_apartHung (WPre ([.ref (a 0), .int p1, .int p2, .int p3] : List Value) sz D (tyIJ cI cJ) (wMo cI a σ)) (WQi sz D (wMo cI a σ) (wMo cI a (r.2)) r.1) 0 0 (va_A (wMo cI a σ) sz) := by
  refine W_start (cc := cX3_apartHung) (maxL := 4) (ret := (some .int)) (by decide) rfl (Nat.le_of_ble_eq_true rfl) (fun p e s m below meth c ls A hx hb hr hml hown hts hlk hP hK hS hA hD0 hAe hl => ?_)
  have hD : ∀ z, va_D A ((fun z => wMo cI a z) z) := fun z => hD0.ad rfl
  have hown : s.vm.findClass RX3 = some m.cls := hown
  have hl : lv_has ls 4 [(0, .ref (a 0)), (1, .int p1), (2, .int p2), (3, .int p3)] := hl
  have ln1 := hts (Cond.fieldLink RX3 9 "HoistsAreSharedModel" "s" "[I") (List.mem_of_getElem? (i := 1) rfl)
  have inX3 : ∀ w ∈ u_ws RX3 TX3 13, w ∈ wsX3_apartHung := fun _ h => List.mem_cons_of_mem _ (List.mem_append_right _ h)
  have ln3 := hts (Cond.fieldLink RX3 13 "HoistsAreSharedModel" "m" "[I") (List.mem_of_getElem? (i := 2) rfl)
  unfold fX3_apartHung at hf
  refine lv_aload_n hx hb dX3_apartHung_0 rfl (lv_at hl 0 rfl) ?_
  refine va_get (D := D) (ci := 3) (v := .ref (a 1)) (C := RX3) (T := TX3) (N := 13) hx hb hts inX3 hown hK hP 0 rfl rfl 0 (by decide) ln1 (fun _ h9 => h9) rfl dX3_apartHung_1 ?_
  refine lv_aload_n hx hb dX3_apartHung_4 rfl (lv_at hl 0 rfl) ?_
  refine va_get (D := D) (ci := 3) (v := .ref (a 2)) (C := RX3) (T := TX3) (N := 13) hx hb hts inX3 hown hK hP 0 rfl rfl 1 (by decide) ln3 (fun _ h9 => h9) rfl dX3_apartHung_5 ?_
  refine d_callSv (As := [.ref ((sb [1, 2] a) 0), .ref ((sb [1, 2] a) 1)]) (rest := []) (w := (fun z => wMo cI a z)) (wc := (wAr2 cI (sb [1, 2] a))) (put := (fun uq => pb [1, 2] uq σ)) (σ := σ) (τ0 := (sb [1, 2] σ)) ⟨hx, hb, hml, hown, hts⟩ hf (fun zq hq => mX3_copies l D cI cJ (sb [1, 2] a) s.heap.size N (sb [1, 2] σ) zq hq) (va_cwS 2 hts gX3_apartHung_X3_copies rfl rfl rfl qX3_copies ⟨Nat.le_of_ble_eq_true rfl, Nat.le_of_ble_eq_true rfl⟩) hK hP hD hS hA (cmb_Mo_Ar2_1_2 D cI a σ hP (hD _)) rfl hl.1 rfl (Nat.le_of_ble_eq_true rfl) dX3_apartHung_8 ⟨Nat.le_refl _, Nat.le_refl _⟩ (fun z1 H locs hP hS hf => ?_)
  refine lv_aload_n hx hb dX3_apartHung_11 rfl (lv_at hl 0 rfl) ?_
  refine va_get (D := D) (ci := 3) (v := .ref (a 2)) (C := RX3) (T := TX3) (N := 13) hx hb hts inX3 hown hK hP 0 rfl rfl 1 (by decide) ln3 (fun _ h9 => h9) rfl dX3_apartHung_12 ?_
  refine lv_iload_n hx hb dX3_apartHung_15 rfl (lv_at hl 1 rfl) ?_
  refine lv_iload_n hx hb dX3_apartHung_16 rfl (lv_at hl 2 rfl) ?_
  refine d_callSv (As := [.ref ((sb [2] a) 0), .int p1, .int p2]) (rest := []) (w := (fun z => wMo cI a z)) (wc := (wAr cI (sb [2] a))) (put := (fun uq => pb [2] uq z1)) (σ := z1) (τ0 := (sb [2] z1)) ⟨hx, hb, hml, hown, hts⟩ hf (fun zq hq => mX3_hangsIn l D cI cJ (sb [2] a) H.size N (sb [2] z1) p1 p2 zq hq) (va_cwS 3 hts gX3_apartHung_X3_hangsIn rfl rfl rfl qX3_hangsIn ⟨Nat.le_of_ble_eq_true rfl, Nat.le_of_ble_eq_true rfl⟩) hK hP hD hS hA (cmb_Mo_Ar_2 D cI a z1 hP (hD _)) rfl hl.1 rfl (Nat.le_of_ble_eq_true rfl) dX3_apartHung_17 ⟨Nat.le_refl _, Nat.le_refl _⟩ (fun z2 H locs hP hS hf => ?_)
  refine lv_aload_n hx hb dX3_apartHung_20 rfl (lv_at hl 0 rfl) ?_
  refine lv_iload_n hx hb dX3_apartHung_21 rfl (lv_at hl 3 rfl) ?_
  refine d_callV (As := [.int p3]) (rest := []) (w := (fun z => wMo cI a z)) (wc := (wMo cI a)) (put := (fun uq => uq)) (σ := z2) (τ0 := z2) ⟨hx, hb, hml, hown, hts⟩ hf (fun vq zq hq => mX3_apartThen l D cI cJ a H.size N z2 p3 (vq, zq) hq) (cwV 1 hts gX3_apartHung_X3_apartThen rfl rfl rfl qX3_apartThen ⟨Nat.le_of_ble_eq_true rfl, Nat.le_of_ble_eq_true rfl⟩) hK hP hD hS hA ⟨hP, hD _, fun _ _ _ h => h⟩ 3 rfl rfl rfl rfl hl.1 rfl (Nat.le_of_ble_eq_true rfl) dX3_apartHung_22 ⟨Nat.le_refl _, Nat.le_refl _⟩ (fun v4 z3 H locs hP hS hf => ?_)
  exact W_iret (fun z => wMo cI a z) hx hb hr hlk hP hS hAe hf dX3_apartHung_25
def fX3_take_L88 (N : Nat) (k31 : St → Int32 → Int32 → Int32 → Int32 → Option (Int32 × St)) (z : St) (x1 : Int32) (x3 : Int32) (x4 : Int32) (x5 : Int32) : Option (Int32 × St) :=
    lt_ (x5 + (1 : Int32) : Int32) (fun v9 =>
    k31 z x1 x3 x4 v9)
def fX3_take_L70 (N : Nat) (k31 : St → Int32 → Int32 → Int32 → Int32 → Option (Int32 × St)) (z : St) (x1 : Int32) (x3 : Int32) (x4 : Int32) (x5 : Int32) (y0 : Int32) : Option (Int32 × St) :=
    if y0 < x3 then fX3_take_L88 N k31 z x1 y0 x5 x5
    else fX3_take_L88 N k31 z x1 x3 x4 x5
def fX3_take_L31 (N : Nat)  : Nat → St → Int32 → Int32 → Int32 → Int32 → Option (Int32 × St)
  | 0, _, _, _, _, _ => none
  | n + 1, z, x1, x3, x4, x5 =>
    bo (rdI z 1 38 (0 : Int32)) (fun v4 =>
    if v4 ≤ x5 then some (x4, z)
    else bo (fX3_of N x5 (2 : Int32)) (fun v5 =>
    bo (rdI z 1 38 v5) (fun v6 =>
    if v6 = (2 : Int32) then fX3_take_L70 N (fX3_take_L31 N n) z x1 x3 x4 x5 (1000000000 : Int32)
    else bx (fX3_apartHung N z x5 (2 : Int32) x1) (fun uq => uq) (fun v8 z7 =>
    fX3_take_L70 N (fX3_take_L31 N n) z7 x1 x3 x4 x5 v8))))
def fX3_take (N : Nat) (σ : St) (p1 : Int32) : Option (Int32 × St) :=
    bo (fX3_wrongBy N p1 (0 : Int32) (30 : Int32)) (fun v1 =>
    if v1 = 0 then bx (fX3_apartNow N σ p1) (fun uq => uq) (fun v3 z2 =>
    fX3_take_L31 N  N z2 p1 v3 (-9 : Int32) (0 : Int32))
    else bx (fX3_no N σ v1) (fun uq => uq) (fun v11 z10 =>
    some (v11, z10)))
abbrev rmX3_take : Room := { frames := 10, cells := 0, slots := 0, locals := 222 }
theorem qX3_take : yX3_take.cls = RX3 ∧ yX3_take.cls ≠ "java/lang/invoke/MethodHandle" ∧ yX3_take.cls ≠ "java/lang/invoke/VarHandle" ∧ (parseMethodDescriptor yX3_take.desc).map (fun d => d.parameters.length) = some 1 := by decide +kernel
set_option maxHeartbeats 400000 in
set_option maxRecDepth 100000 in
theorem mX3_take (l : Launch) (D : va_G) (cI cJ : ClassId) (a : Nat → Nat) (sz N : Nat) (σ : St) (p1 : Int32) (r : (Int32 × St)) (hf : fX3_take N σ p1 = some r) : Met l yX3_take wsX3_take rmX3_take (WPre ([.ref (a 0), .int p1] : List Value) sz D (tyIJ cI cJ) (wMo cI a σ)) (WQi sz D (wMo cI a σ) (wMo cI a (r.2)) r.1) 0 0 (va_A (wMo cI a σ) sz) := by
  refine W_start (cc := cX3_take) (maxL := 7) (ret := (some .int)) (by decide) rfl (Nat.le_of_ble_eq_true rfl) (fun p e s m below meth c ls A hx hb hr hml hown hts hlk hP hK hS hA hD0 hAe hl => ?_)
  have hD : ∀ z, va_D A ((fun z => wMo cI a z) z) := fun z => hD0.ad rfl
  have hown : s.vm.findClass RX3 = some m.cls := hown
  have hl : lv_has ls 7 [(0, .ref (a 0)), (1, .int p1)] := hl
  have ln1 := hts (Cond.fieldLink RX3 9 "HoistsAreSharedModel" "s" "[I") (List.mem_of_getElem? (i := 1) rfl)
  have inX3 : ∀ w ∈ u_ws RX3 TX3 13, w ∈ wsX3_take := fun _ h => List.mem_cons_of_mem _ (List.mem_append_right _ h)
  have ln3 := hts (Cond.constant RX3 35 (1000000000)) (List.mem_of_getElem? (i := 2) rfl)
  have b88 : ∀ (k31 : St → Int32 → Int32 → Int32 → Int32 → Option (Int32 × St)) (hk31 : (∀ (z : St) (x1 : Int32) (x3 : Int32) (x4 : Int32) (x5 : Int32) (H : Heap) (locs : List Loc) (ls : Array Slot), va_P D vwCl (wMo cI a z) H → va_S A s.heap H locs → lv_has ls 7 [(0, .ref (a 0)), (1, .int x1), (3, .int x3), (4, .int x4), (5, .int x5)] → k31 z x1 x3 x4 x5 = some r → W p l e rmX3_take s m ([.ref (a 0), .int p1] : List Value).toArray below meth c H locs 0 0 (MQ below (WQi sz D (wMo cI a σ) (wMo cI a (r.2)) r.1) ([.ref (a 0), .int p1] : List Value).toArray s 0 0 A) (F0 m 31 ls []))) (z : St) (x1 : Int32) (x3 : Int32) (x4 : Int32) (x5 : Int32) (H : Heap) (locs : List Loc) (ls : Array Slot), va_P D vwCl (wMo cI a z) H → va_S A s.heap H locs → lv_has ls 7 [(0, .ref (a 0)), (1, .int x1), (3, .int x3), (4, .int x4), (5, .int x5)] → fX3_take_L88 N k31 z x1 x3 x4 x5 = some r → W p l e rmX3_take s m ([.ref (a 0), .int p1] : List Value).toArray below meth c H locs 0 0 (MQ below (WQi sz D (wMo cI a σ) (wMo cI a (r.2)) r.1) ([.ref (a 0), .int p1] : List Value).toArray s 0 0 A) (F0 m 88 ls []) := by
    intro k31 hk31 z x1 x3 x4 x5 H locs ls hP hS hl hf
    unfold fX3_take_L88 at hf
    refine k_iinc (d := (1 : Int32)) (lv' := fun v9 => [(5, .int v9), (0, .ref (a 0)), (1, .int x1), (3, .int x3), (4, .int x4)]) hx hb dX3_take_88 hl (k := 4) rfl (by decide) (by decide) (fun _ => rfl) hf (fun v9 ls hl hf => ?_)
    refine lv_goto (tgt := 31) hx hb dX3_take_91 (by decide) ?_
    exact hk31 z x1 x3 x4 v9 H locs ls hP hS (lv_sub hl [1, 2, 3, 4, 0] rfl) hf
  have b70 : ∀ (k31 : St → Int32 → Int32 → Int32 → Int32 → Option (Int32 × St)) (hk31 : (∀ (z : St) (x1 : Int32) (x3 : Int32) (x4 : Int32) (x5 : Int32) (H : Heap) (locs : List Loc) (ls : Array Slot), va_P D vwCl (wMo cI a z) H → va_S A s.heap H locs → lv_has ls 7 [(0, .ref (a 0)), (1, .int x1), (3, .int x3), (4, .int x4), (5, .int x5)] → k31 z x1 x3 x4 x5 = some r → W p l e rmX3_take s m ([.ref (a 0), .int p1] : List Value).toArray below meth c H locs 0 0 (MQ below (WQi sz D (wMo cI a σ) (wMo cI a (r.2)) r.1) ([.ref (a 0), .int p1] : List Value).toArray s 0 0 A) (F0 m 31 ls []))) (z : St) (x1 : Int32) (x3 : Int32) (x4 : Int32) (x5 : Int32) (y0 : Int32) (H : Heap) (locs : List Loc) (ls : Array Slot), va_P D vwCl (wMo cI a z) H → va_S A s.heap H locs → lv_has ls 7 [(0, .ref (a 0)), (1, .int x1), (3, .int x3), (4, .int x4), (5, .int x5)] → fX3_take_L70 N k31 z x1 x3 x4 x5 y0 = some r → W p l e rmX3_take s m ([.ref (a 0), .int p1] : List Value).toArray below meth c H locs 0 0 (MQ below (WQi sz D (wMo cI a σ) (wMo cI a (r.2)) r.1) ([.ref (a 0), .int p1] : List Value).toArray s 0 0 A) (F0 m 70 ls [.int y0]) := by
    intro k31 hk31 z x1 x3 x4 x5 y0 H locs ls hP hS hl hf
    unfold fX3_take_L70 at hf
    refine lv_istore (lv' := [(6, .int y0), (0, .ref (a 0)), (1, .int x1), (3, .int x3), (4, .int x4), (5, .int x5)]) hx hb dX3_take_70 hl (by decide) rfl (fun ls hl => ?_)
    refine lv_iload hx hb dX3_take_72 (lv_at hl 0 rfl) ?_
    refine lv_iload_n hx hb dX3_take_74 rfl (lv_at hl 3 rfl) ?_
    refine k_icmp_lt (tgt := 81) hx hb dX3_take_75 (by decide) hf (fun hf => ?_) (fun hf => ?_)
    · refine lv_iload hx hb dX3_take_81 (lv_at hl 5 rfl) ?_
      refine lv_istore (lv' := [(4, .int x5), (6, .int y0), (0, .ref (a 0)), (1, .int x1), (3, .int x3), (5, .int x5)]) hx hb dX3_take_83 hl (by decide) rfl (fun ls hl => ?_)
      refine lv_iload hx hb dX3_take_85 (lv_at hl 1 rfl) ?_
      refine lv_istore_n (lv' := [(3, .int y0), (4, .int x5), (6, .int y0), (0, .ref (a 0)), (1, .int x1), (5, .int x5)]) hx hb dX3_take_87 rfl hl (by decide) rfl (fun ls hl => ?_)
      exact b88 k31 hk31 z x1 y0 x5 x5 H locs ls hP hS (lv_sub hl [3, 4, 0, 1, 5] rfl) hf
    · refine lv_goto (tgt := 88) hx hb dX3_take_78 (by decide) ?_
      exact b88 k31 hk31 z x1 x3 x4 x5 H locs ls hP hS (lv_sub hl [1, 2, 3, 4, 5] rfl) hf
  have b31 : ∀  (n : Nat) (z : St) (x1 : Int32) (x3 : Int32) (x4 : Int32) (x5 : Int32) (H : Heap) (locs : List Loc) (ls : Array Slot), va_P D vwCl (wMo cI a z) H → va_S A s.heap H locs → lv_has ls 7 [(0, .ref (a 0)), (1, .int x1), (3, .int x3), (4, .int x4), (5, .int x5)] → fX3_take_L31 N n z x1 x3 x4 x5 = some r → W p l e rmX3_take s m ([.ref (a 0), .int p1] : List Value).toArray below meth c H locs 0 0 (MQ below (WQi sz D (wMo cI a σ) (wMo cI a (r.2)) r.1) ([.ref (a 0), .int p1] : List Value).toArray s 0 0 A) (F0 m 31 ls []) := by
    intro n
    induction n with
    | zero => intro z x1 x3 x4 x5 H locs ls hP hS hl hf; cases hf
    | succ n ih =>
      intro z x1 x3 x4 x5 H locs ls hP hS hl hf
      rw [fX3_take_L31] at hf
      refine lv_iload hx hb dX3_take_31 (lv_at hl 4 rfl) ?_
      refine lv_aload_n hx hb dX3_take_33 rfl (lv_at hl 0 rfl) ?_
      refine va_get (D := D) (ci := 3) (v := .ref (a 1)) (C := RX3) (T := TX3) (N := 13) hx hb hts inX3 hown hK hP 0 rfl rfl 0 (by decide) ln1 (fun _ h9 => h9) rfl dX3_take_34 ?_
      refine lv_iconst (v := (0 : Int32)) hx hb dX3_take_37 (by decide) ?_
      refine k_iald hx hb hK hP 1 0 hf rfl rfl dX3_take_38 (fun v4 hf => ?_)
      refine k_icmp_ge (tgt := 94) hx hb dX3_take_39 (by decide) hf (fun hf => ?_) (fun hf => ?_)
      · refine lv_iload hx hb dX3_take_94 (lv_at hl 3 rfl) ?_
        exact W_iret (fun z => wMo cI a z) hx hb hr hlk hP hS hAe hf dX3_take_96
      · refine lv_aload_n hx hb dX3_take_42 rfl (lv_at hl 0 rfl) ?_
        refine va_get (D := D) (ci := 3) (v := .ref (a 1)) (C := RX3) (T := TX3) (N := 13) hx hb hts inX3 hown hK hP 0 rfl rfl 0 (by decide) ln1 (fun _ h9 => h9) rfl dX3_take_43 ?_
        refine lv_iload hx hb dX3_take_46 (lv_at hl 4 rfl) ?_
        refine lv_iconst (v := (2 : Int32)) hx hb dX3_take_48 (by decide) ?_
        refine c_callS (As := [.int x5, .int (2 : Int32)]) (rest := [.ref (a 1)]) ⟨hx, hb, hml, hown, hts⟩ hf (fun vq hq => mX3_of l D cI cJ H.size N x5 (2 : Int32) vq hq) (va_cwS 2 hts gX3_take_X3_of rfl rfl rfl qX3_of ⟨Nat.le_of_ble_eq_true rfl, Nat.le_of_ble_eq_true rfl⟩) hK hP hS hA va_P_nil rfl hl.1 rfl (Nat.le_of_ble_eq_true rfl) dX3_take_49 ⟨Nat.le_refl _, Nat.le_refl _⟩ (fun v5 H locs hP hS hf => ?_)
        refine k_iald hx hb hK hP 1 0 hf rfl rfl dX3_take_52 (fun v6 hf => ?_)
        refine lv_iconst (v := (2 : Int32)) hx hb dX3_take_53 (by decide) ?_
        refine k_icmp_ne (tgt := 62) hx hb dX3_take_54 (by decide) hf (fun hf => ?_) (fun hf => ?_)
        · refine lv_aload_n hx hb dX3_take_62 rfl (lv_at hl 0 rfl) ?_
          refine lv_iload hx hb dX3_take_63 (lv_at hl 4 rfl) ?_
          refine lv_iconst (v := (2 : Int32)) hx hb dX3_take_65 (by decide) ?_
          refine lv_iload_n hx hb dX3_take_66 rfl (lv_at hl 1 rfl) ?_
          refine d_callV (As := [.int x5, .int (2 : Int32), .int x1]) (rest := []) (w := (fun z => wMo cI a z)) (wc := (wMo cI a)) (put := (fun uq => uq)) (σ := z) (τ0 := z) ⟨hx, hb, hml, hown, hts⟩ hf (fun vq zq hq => mX3_apartHung l D cI cJ a H.size N z x5 (2 : Int32) x1 (vq, zq) hq) (cwV 3 hts gX3_take_X3_apartHung rfl rfl rfl qX3_apartHung ⟨Nat.le_of_ble_eq_true rfl, Nat.le_of_ble_eq_true rfl⟩) hK hP hD hS hA ⟨hP, hD _, fun _ _ _ h => h⟩ 3 rfl rfl rfl rfl hl.1 rfl (Nat.le_of_ble_eq_true rfl) dX3_take_67 ⟨Nat.le_refl _, Nat.le_refl _⟩ (fun v8 z7 H locs hP hS hf => ?_)
          exact b70 (fX3_take_L31 N n) ih z7 x1 x3 x4 x5 v8 H locs ls hP hS (lv_sub hl [0, 1, 2, 3, 4] rfl) hf
        · refine lv_ldc (v := (1000000000 : Int32)) hx hb hown ln3 dX3_take_57 ?_
          refine lv_goto (tgt := 70) hx hb dX3_take_59 (by decide) ?_
          exact b70 (fX3_take_L31 N n) ih z x1 x3 x4 x5 (1000000000 : Int32) H locs ls hP hS (lv_sub hl [0, 1, 2, 3, 4] rfl) hf
  unfold fX3_take at hf
  refine lv_iload_n hx hb dX3_take_0 rfl (lv_at hl 1 rfl) ?_
  refine lv_iconst (v := (0 : Int32)) hx hb dX3_take_1 (by decide) ?_
  refine lv_bipush (v := (30 : Int32)) hx hb dX3_take_2 (by decide) ?_
  refine c_callS (As := [.int p1, .int (0 : Int32), .int (30 : Int32)]) (rest := []) ⟨hx, hb, hml, hown, hts⟩ hf (fun vq hq => mX3_wrongBy l D cI cJ s.heap.size N p1 (0 : Int32) (30 : Int32) vq hq) (va_cwS 3 hts gX3_take_X3_wrongBy rfl rfl rfl qX3_wrongBy ⟨Nat.le_of_ble_eq_true rfl, Nat.le_of_ble_eq_true rfl⟩) hK hP hS hA va_P_nil rfl hl.1 rfl (Nat.le_of_ble_eq_true rfl) dX3_take_4 ⟨Nat.le_refl _, Nat.le_refl _⟩ (fun v1 H locs hP hS hf => ?_)
  refine lv_istore_n (lv' := [(2, .int v1), (0, .ref (a 0)), (1, .int p1)]) hx hb dX3_take_7 rfl hl (by decide) rfl (fun ls hl => ?_)
  refine lv_iload_n hx hb dX3_take_8 rfl (lv_at hl 0 rfl) ?_
  refine k_if_eq (tgt := 18) hx hb dX3_take_9 (by decide) hf (fun hf => ?_) (fun hf => ?_)
  · refine lv_aload_n hx hb dX3_take_18 rfl (lv_at hl 1 rfl) ?_
    refine lv_iload_n hx hb dX3_take_19 rfl (lv_at hl 2 rfl) ?_
    refine d_callV (As := [.int p1]) (rest := []) (w := (fun z => wMo cI a z)) (wc := (wMo cI a)) (put := (fun uq => uq)) (σ := σ) (τ0 := σ) ⟨hx, hb, hml, hown, hts⟩ hf (fun vq zq hq => mX3_apartNow l D cI cJ a H.size N σ p1 (vq, zq) hq) (cwV 1 hts gX3_take_X3_apartNow rfl rfl rfl qX3_apartNow ⟨Nat.le_of_ble_eq_true rfl, Nat.le_of_ble_eq_true rfl⟩) hK hP hD hS hA ⟨hP, hD _, fun _ _ _ h => h⟩ 3 rfl rfl rfl rfl hl.1 rfl (Nat.le_of_ble_eq_true rfl) dX3_take_20 ⟨Nat.le_refl _, Nat.le_refl _⟩ (fun v3 z2 H locs hP hS hf => ?_)
    refine lv_istore_n (lv' := [(3, .int v3), (2, .int v1), (0, .ref (a 0)), (1, .int p1)]) hx hb dX3_take_23 rfl hl (by decide) rfl (fun ls hl => ?_)
    refine lv_bipush (v := (-9 : Int32)) hx hb dX3_take_24 (by decide) ?_
    refine lv_istore (lv' := [(4, .int (-9 : Int32)), (3, .int v3), (2, .int v1), (0, .ref (a 0)), (1, .int p1)]) hx hb dX3_take_26 hl (by decide) rfl (fun ls hl => ?_)
    refine lv_iconst (v := (0 : Int32)) hx hb dX3_take_28 (by decide) ?_
    refine lv_istore (lv' := [(5, .int (0 : Int32)), (4, .int (-9 : Int32)), (3, .int v3), (2, .int v1), (0, .ref (a 0)), (1, .int p1)]) hx hb dX3_take_29 hl (by decide) rfl (fun ls hl => ?_)
    exact b31  N z2 p1 v3 (-9 : Int32) (0 : Int32) H locs ls hP hS (lv_sub hl [4, 5, 2, 1, 0] rfl) hf
  · refine lv_aload_n hx hb dX3_take_12 rfl (lv_at hl 1 rfl) ?_
    refine lv_iload_n hx hb dX3_take_13 rfl (lv_at hl 0 rfl) ?_
    refine d_callV (As := [.int v1]) (rest := []) (w := (fun z => wMo cI a z)) (wc := (wMo cI a)) (put := (fun uq => uq)) (σ := σ) (τ0 := σ) ⟨hx, hb, hml, hown, hts⟩ hf (fun vq zq hq => mX3_no l D cI cJ a H.size N σ v1 (vq, zq) hq) (cwV 1 hts gX3_take_X3_no rfl rfl rfl qX3_no ⟨Nat.le_of_ble_eq_true rfl, Nat.le_of_ble_eq_true rfl⟩) hK hP hD hS hA ⟨hP, hD _, fun _ _ _ h => h⟩ 3 rfl rfl rfl rfl hl.1 rfl (Nat.le_of_ble_eq_true rfl) dX3_take_14 ⟨Nat.le_refl _, Nat.le_refl _⟩ (fun v11 z10 H locs hP hS hf => ?_)
    exact W_iret (fun z => wMo cI a z) hx hb hr hlk hP hS hAe hf dX3_take_17
def fX3_hang_L104 (N : Nat) (k31 : St → Int32 → Int32 → Int32 → Int32 → Option (Int32 × St)) (k45 : St → Int32 → Int32 → Int32 → Int32 → Int32 → Option (Int32 × St)) (z : St) (x1 : Int32) (x3 : Int32) (x4 : Int32) (x5 : Int32) (x6 : Int32) : Option (Int32 × St) :=
    lt_ (x6 + (1 : Int32) : Int32) (fun v9 =>
    k45 z x1 x3 x4 x5 v9)
def fX3_hang_L80 (N : Nat) (k31 : St → Int32 → Int32 → Int32 → Int32 → Option (Int32 × St)) (k45 : St → Int32 → Int32 → Int32 → Int32 → Int32 → Option (Int32 × St)) (z : St) (x1 : Int32) (x3 : Int32) (x4 : Int32) (x5 : Int32) (x6 : Int32) (y0 : Int32) : Option (Int32 × St) :=
    if y0 < x3 then lt_ ((((10 : Int32) * x5) + x6) : Int32) (fun v8 =>
    fX3_hang_L104 N k31 k45 z x1 y0 v8 x5 x6)
    else fX3_hang_L104 N k31 k45 z x1 x3 x4 x5 x6
def fX3_hang_L45 (N : Nat) (k31 : St → Int32 → Int32 → Int32 → Int32 → Option (Int32 × St)) : Nat → St → Int32 → Int32 → Int32 → Int32 → Int32 → Option (Int32 × St)
  | 0, _, _, _, _, _, _ => none
  | n + 1, z, x1, x3, x4, x5, x6 =>
    if (2 : Int32) ≤ x6 then lt_ (x5 + (1 : Int32) : Int32) (fun v5 =>
    k31 z x1 x3 x4 v5)
    else bo (fX3_of N x5 (2 : Int32)) (fun v6 =>
    bo (rdI z 1 38 v6) (fun v7 =>
    if v7 = (2 : Int32) then bx (fX3_apartHung N z x5 x6 x1) (fun uq => uq) (fun v11 z10 =>
    fX3_hang_L80 N k31 (fX3_hang_L45 N k31 n) z10 x1 x3 x4 x5 x6 v11)
    else fX3_hang_L80 N k31 (fX3_hang_L45 N k31 n) z x1 x3 x4 x5 x6 (1000000000 : Int32)))
def fX3_hang_L31 (N : Nat)  : Nat → St → Int32 → Int32 → Int32 → Int32 → Option (Int32 × St)
  | 0, _, _, _, _, _ => none
  | n + 1, z, x1, x3, x4, x5 =>
    bo (rdI z 1 38 (0 : Int32)) (fun v4 =>
    if v4 ≤ x5 then some (x4, z)
    else fX3_hang_L45 N (fX3_hang_L31 N n) N z x1 x3 x4 x5 (0 : Int32))
def fX3_hang (N : Nat) (σ : St) (p1 : Int32) : Option (Int32 × St) :=
    bo (fX3_wrongBy N p1 (0 : Int32) (30 : Int32)) (fun v1 =>
    if v1 = 0 then bx (fX3_apartNow N σ p1) (fun uq => uq) (fun v3 z2 =>
    fX3_hang_L31 N  N z2 p1 v3 (-9 : Int32) (0 : Int32))
    else bx (fX3_no N σ v1) (fun uq => uq) (fun v13 z12 =>
    some (v13, z12)))
abbrev rmX3_hang : Room := { frames := 10, cells := 0, slots := 0, locals := 222 }
theorem qX3_hang : yX3_hang.cls = RX3 ∧ yX3_hang.cls ≠ "java/lang/invoke/MethodHandle" ∧ yX3_hang.cls ≠ "java/lang/invoke/VarHandle" ∧ (parseMethodDescriptor yX3_hang.desc).map (fun d => d.parameters.length) = some 1 := by decide +kernel
set_option maxHeartbeats 400000 in
set_option maxRecDepth 100000 in
theorem mX3_hang (l : Launch) (D : va_G) (cI cJ : ClassId) (a : Nat → Nat) (sz N : Nat) (σ : St) (p1 : Int32) (r : (Int32 × St)) (hf : fX3_hang N σ p1 = some r) : Met l yX3_hang wsX3_hang rmX3_hang (WPre ([.ref (a 0), .int p1] : List Value) sz D (tyIJ cI cJ) (wMo cI a σ)) (WQi sz D (wMo cI a σ) (wMo cI a (r.2)) r.1) 0 0 (va_A (wMo cI a σ) sz) := by
  refine W_start (cc := cX3_hang) (maxL := 8) (ret := (some .int)) (by decide) rfl (Nat.le_of_ble_eq_true rfl) (fun p e s m below meth c ls A hx hb hr hml hown hts hlk hP hK hS hA hD0 hAe hl => ?_)
  have hD : ∀ z, va_D A ((fun z => wMo cI a z) z) := fun z => hD0.ad rfl
  have hown : s.vm.findClass RX3 = some m.cls := hown
  have hl : lv_has ls 8 [(0, .ref (a 0)), (1, .int p1)] := hl
  have ln1 := hts (Cond.fieldLink RX3 9 "HoistsAreSharedModel" "s" "[I") (List.mem_of_getElem? (i := 1) rfl)
  have inX3 : ∀ w ∈ u_ws RX3 TX3 13, w ∈ wsX3_hang := fun _ h => List.mem_cons_of_mem _ (List.mem_append_right _ h)
  have ln3 := hts (Cond.constant RX3 35 (1000000000)) (List.mem_of_getElem? (i := 2) rfl)
  have b104 : ∀ (k31 : St → Int32 → Int32 → Int32 → Int32 → Option (Int32 × St)) (hk31 : (∀ (z : St) (x1 : Int32) (x3 : Int32) (x4 : Int32) (x5 : Int32) (H : Heap) (locs : List Loc) (ls : Array Slot), va_P D vwCl (wMo cI a z) H → va_S A s.heap H locs → lv_has ls 8 [(0, .ref (a 0)), (1, .int x1), (3, .int x3), (4, .int x4), (5, .int x5)] → k31 z x1 x3 x4 x5 = some r → W p l e rmX3_hang s m ([.ref (a 0), .int p1] : List Value).toArray below meth c H locs 0 0 (MQ below (WQi sz D (wMo cI a σ) (wMo cI a (r.2)) r.1) ([.ref (a 0), .int p1] : List Value).toArray s 0 0 A) (F0 m 31 ls []))) (k45 : St → Int32 → Int32 → Int32 → Int32 → Int32 → Option (Int32 × St)) (hk45 : (∀ (z : St) (x1 : Int32) (x3 : Int32) (x4 : Int32) (x5 : Int32) (x6 : Int32) (H : Heap) (locs : List Loc) (ls : Array Slot), va_P D vwCl (wMo cI a z) H → va_S A s.heap H locs → lv_has ls 8 [(0, .ref (a 0)), (1, .int x1), (3, .int x3), (4, .int x4), (5, .int x5), (6, .int x6)] → k45 z x1 x3 x4 x5 x6 = some r → W p l e rmX3_hang s m ([.ref (a 0), .int p1] : List Value).toArray below meth c H locs 0 0 (MQ below (WQi sz D (wMo cI a σ) (wMo cI a (r.2)) r.1) ([.ref (a 0), .int p1] : List Value).toArray s 0 0 A) (F0 m 45 ls []))) (z : St) (x1 : Int32) (x3 : Int32) (x4 : Int32) (x5 : Int32) (x6 : Int32) (H : Heap) (locs : List Loc) (ls : Array Slot), va_P D vwCl (wMo cI a z) H → va_S A s.heap H locs → lv_has ls 8 [(0, .ref (a 0)), (1, .int x1), (3, .int x3), (4, .int x4), (5, .int x5), (6, .int x6)] → fX3_hang_L104 N k31 k45 z x1 x3 x4 x5 x6 = some r → W p l e rmX3_hang s m ([.ref (a 0), .int p1] : List Value).toArray below meth c H locs 0 0 (MQ below (WQi sz D (wMo cI a σ) (wMo cI a (r.2)) r.1) ([.ref (a 0), .int p1] : List Value).toArray s 0 0 A) (F0 m 104 ls []) := by
    intro k31 hk31 k45 hk45 z x1 x3 x4 x5 x6 H locs ls hP hS hl hf
    unfold fX3_hang_L104 at hf
    refine k_iinc (d := (1 : Int32)) (lv' := fun v9 => [(6, .int v9), (0, .ref (a 0)), (1, .int x1), (3, .int x3), (4, .int x4), (5, .int x5)]) hx hb dX3_hang_104 hl (k := 5) rfl (by decide) (by decide) (fun _ => rfl) hf (fun v9 ls hl hf => ?_)
    refine lv_goto (tgt := 45) hx hb dX3_hang_107 (by decide) ?_
    exact hk45 z x1 x3 x4 x5 v9 H locs ls hP hS (lv_sub hl [1, 2, 3, 4, 5, 0] rfl) hf
  have b80 : ∀ (k31 : St → Int32 → Int32 → Int32 → Int32 → Option (Int32 × St)) (hk31 : (∀ (z : St) (x1 : Int32) (x3 : Int32) (x4 : Int32) (x5 : Int32) (H : Heap) (locs : List Loc) (ls : Array Slot), va_P D vwCl (wMo cI a z) H → va_S A s.heap H locs → lv_has ls 8 [(0, .ref (a 0)), (1, .int x1), (3, .int x3), (4, .int x4), (5, .int x5)] → k31 z x1 x3 x4 x5 = some r → W p l e rmX3_hang s m ([.ref (a 0), .int p1] : List Value).toArray below meth c H locs 0 0 (MQ below (WQi sz D (wMo cI a σ) (wMo cI a (r.2)) r.1) ([.ref (a 0), .int p1] : List Value).toArray s 0 0 A) (F0 m 31 ls []))) (k45 : St → Int32 → Int32 → Int32 → Int32 → Int32 → Option (Int32 × St)) (hk45 : (∀ (z : St) (x1 : Int32) (x3 : Int32) (x4 : Int32) (x5 : Int32) (x6 : Int32) (H : Heap) (locs : List Loc) (ls : Array Slot), va_P D vwCl (wMo cI a z) H → va_S A s.heap H locs → lv_has ls 8 [(0, .ref (a 0)), (1, .int x1), (3, .int x3), (4, .int x4), (5, .int x5), (6, .int x6)] → k45 z x1 x3 x4 x5 x6 = some r → W p l e rmX3_hang s m ([.ref (a 0), .int p1] : List Value).toArray below meth c H locs 0 0 (MQ below (WQi sz D (wMo cI a σ) (wMo cI a (r.2)) r.1) ([.ref (a 0), .int p1] : List Value).toArray s 0 0 A) (F0 m 45 ls []))) (z : St) (x1 : Int32) (x3 : Int32) (x4 : Int32) (x5 : Int32) (x6 : Int32) (y0 : Int32) (H : Heap) (locs : List Loc) (ls : Array Slot), va_P D vwCl (wMo cI a z) H → va_S A s.heap H locs → lv_has ls 8 [(0, .ref (a 0)), (1, .int x1), (3, .int x3), (4, .int x4), (5, .int x5), (6, .int x6)] → fX3_hang_L80 N k31 k45 z x1 x3 x4 x5 x6 y0 = some r → W p l e rmX3_hang s m ([.ref (a 0), .int p1] : List Value).toArray below meth c H locs 0 0 (MQ below (WQi sz D (wMo cI a σ) (wMo cI a (r.2)) r.1) ([.ref (a 0), .int p1] : List Value).toArray s 0 0 A) (F0 m 80 ls [.int y0]) := by
    intro k31 hk31 k45 hk45 z x1 x3 x4 x5 x6 y0 H locs ls hP hS hl hf
    unfold fX3_hang_L80 at hf
    refine lv_istore (lv' := [(7, .int y0), (0, .ref (a 0)), (1, .int x1), (3, .int x3), (4, .int x4), (5, .int x5), (6, .int x6)]) hx hb dX3_hang_80 hl (by decide) rfl (fun ls hl => ?_)
    refine lv_iload hx hb dX3_hang_82 (lv_at hl 0 rfl) ?_
    refine lv_iload_n hx hb dX3_hang_84 rfl (lv_at hl 3 rfl) ?_
    refine k_icmp_lt (tgt := 91) hx hb dX3_hang_85 (by decide) hf (fun hf => ?_) (fun hf => ?_)
    · refine lv_bipush (v := (10 : Int32)) hx hb dX3_hang_91 (by decide) ?_
      refine lv_iload hx hb dX3_hang_93 (lv_at hl 5 rfl) ?_
      refine lv_imul hx hb dX3_hang_95 ?_
      refine lv_iload hx hb dX3_hang_96 (lv_at hl 6 rfl) ?_
      refine lv_iadd hx hb dX3_hang_98 ?_
      refine k_let hf (fun v8 hf => ?_)
      refine lv_istore (lv' := [(4, .int v8), (7, .int y0), (0, .ref (a 0)), (1, .int x1), (3, .int x3), (5, .int x5), (6, .int x6)]) hx hb dX3_hang_99 hl (by decide) rfl (fun ls hl => ?_)
      refine lv_iload hx hb dX3_hang_101 (lv_at hl 1 rfl) ?_
      refine lv_istore_n (lv' := [(3, .int y0), (4, .int v8), (7, .int y0), (0, .ref (a 0)), (1, .int x1), (5, .int x5), (6, .int x6)]) hx hb dX3_hang_103 rfl hl (by decide) rfl (fun ls hl => ?_)
      exact b104 k31 hk31 k45 hk45 z x1 y0 v8 x5 x6 H locs ls hP hS (lv_sub hl [3, 4, 0, 1, 5, 6] rfl) hf
    · refine lv_goto (tgt := 104) hx hb dX3_hang_88 (by decide) ?_
      exact b104 k31 hk31 k45 hk45 z x1 x3 x4 x5 x6 H locs ls hP hS (lv_sub hl [1, 2, 3, 4, 5, 6] rfl) hf
  have b45 : ∀ (k31 : St → Int32 → Int32 → Int32 → Int32 → Option (Int32 × St)) (hk31 : (∀ (z : St) (x1 : Int32) (x3 : Int32) (x4 : Int32) (x5 : Int32) (H : Heap) (locs : List Loc) (ls : Array Slot), va_P D vwCl (wMo cI a z) H → va_S A s.heap H locs → lv_has ls 8 [(0, .ref (a 0)), (1, .int x1), (3, .int x3), (4, .int x4), (5, .int x5)] → k31 z x1 x3 x4 x5 = some r → W p l e rmX3_hang s m ([.ref (a 0), .int p1] : List Value).toArray below meth c H locs 0 0 (MQ below (WQi sz D (wMo cI a σ) (wMo cI a (r.2)) r.1) ([.ref (a 0), .int p1] : List Value).toArray s 0 0 A) (F0 m 31 ls []))) (n : Nat) (z : St) (x1 : Int32) (x3 : Int32) (x4 : Int32) (x5 : Int32) (x6 : Int32) (H : Heap) (locs : List Loc) (ls : Array Slot), va_P D vwCl (wMo cI a z) H → va_S A s.heap H locs → lv_has ls 8 [(0, .ref (a 0)), (1, .int x1), (3, .int x3), (4, .int x4), (5, .int x5), (6, .int x6)] → fX3_hang_L45 N k31 n z x1 x3 x4 x5 x6 = some r → W p l e rmX3_hang s m ([.ref (a 0), .int p1] : List Value).toArray below meth c H locs 0 0 (MQ below (WQi sz D (wMo cI a σ) (wMo cI a (r.2)) r.1) ([.ref (a 0), .int p1] : List Value).toArray s 0 0 A) (F0 m 45 ls []) := by
    intro k31 hk31 n
    induction n with
    | zero => intro z x1 x3 x4 x5 x6 H locs ls hP hS hl hf; cases hf
    | succ n ih =>
      intro z x1 x3 x4 x5 x6 H locs ls hP hS hl hf
      rw [fX3_hang_L45] at hf
      refine lv_iload hx hb dX3_hang_45 (lv_at hl 5 rfl) ?_
      refine lv_iconst (v := (2 : Int32)) hx hb dX3_hang_47 (by decide) ?_
      refine k_icmp_ge (tgt := 110) hx hb dX3_hang_48 (by decide) hf (fun hf => ?_) (fun hf => ?_)
      · refine k_iinc (d := (1 : Int32)) (lv' := fun v5 => [(5, .int v5), (0, .ref (a 0)), (1, .int x1), (3, .int x3), (4, .int x4), (6, .int x6)]) hx hb dX3_hang_110 hl (k := 4) rfl (by decide) (by decide) (fun _ => rfl) hf (fun v5 ls hl hf => ?_)
        refine lv_goto (tgt := 31) hx hb dX3_hang_113 (by decide) ?_
        exact hk31 z x1 x3 x4 v5 H locs ls hP hS (lv_sub hl [1, 2, 3, 4, 0] rfl) hf
      · refine lv_aload_n hx hb dX3_hang_51 rfl (lv_at hl 0 rfl) ?_
        refine va_get (D := D) (ci := 3) (v := .ref (a 1)) (C := RX3) (T := TX3) (N := 13) hx hb hts inX3 hown hK hP 0 rfl rfl 0 (by decide) ln1 (fun _ h9 => h9) rfl dX3_hang_52 ?_
        refine lv_iload hx hb dX3_hang_55 (lv_at hl 4 rfl) ?_
        refine lv_iconst (v := (2 : Int32)) hx hb dX3_hang_57 (by decide) ?_
        refine c_callS (As := [.int x5, .int (2 : Int32)]) (rest := [.ref (a 1)]) ⟨hx, hb, hml, hown, hts⟩ hf (fun vq hq => mX3_of l D cI cJ H.size N x5 (2 : Int32) vq hq) (va_cwS 2 hts gX3_hang_X3_of rfl rfl rfl qX3_of ⟨Nat.le_of_ble_eq_true rfl, Nat.le_of_ble_eq_true rfl⟩) hK hP hS hA va_P_nil rfl hl.1 rfl (Nat.le_of_ble_eq_true rfl) dX3_hang_58 ⟨Nat.le_refl _, Nat.le_refl _⟩ (fun v6 H locs hP hS hf => ?_)
        refine k_iald hx hb hK hP 1 0 hf rfl rfl dX3_hang_61 (fun v7 hf => ?_)
        refine lv_iconst (v := (2 : Int32)) hx hb dX3_hang_62 (by decide) ?_
        refine k_icmp_ne (tgt := 78) hx hb dX3_hang_63 (by decide) hf (fun hf => ?_) (fun hf => ?_)
        · refine lv_ldc (v := (1000000000 : Int32)) hx hb hown ln3 dX3_hang_78 ?_
          exact b80 k31 hk31 (fX3_hang_L45 N k31 n) ih z x1 x3 x4 x5 x6 (1000000000 : Int32) H locs ls hP hS (lv_sub hl [0, 1, 2, 3, 4, 5] rfl) hf
        · refine lv_aload_n hx hb dX3_hang_66 rfl (lv_at hl 0 rfl) ?_
          refine lv_iload hx hb dX3_hang_67 (lv_at hl 4 rfl) ?_
          refine lv_iload hx hb dX3_hang_69 (lv_at hl 5 rfl) ?_
          refine lv_iload_n hx hb dX3_hang_71 rfl (lv_at hl 1 rfl) ?_
          refine d_callV (As := [.int x5, .int x6, .int x1]) (rest := []) (w := (fun z => wMo cI a z)) (wc := (wMo cI a)) (put := (fun uq => uq)) (σ := z) (τ0 := z) ⟨hx, hb, hml, hown, hts⟩ hf (fun vq zq hq => mX3_apartHung l D cI cJ a H.size N z x5 x6 x1 (vq, zq) hq) (cwV 3 hts gX3_hang_X3_apartHung rfl rfl rfl qX3_apartHung ⟨Nat.le_of_ble_eq_true rfl, Nat.le_of_ble_eq_true rfl⟩) hK hP hD hS hA ⟨hP, hD _, fun _ _ _ h => h⟩ 3 rfl rfl rfl rfl hl.1 rfl (Nat.le_of_ble_eq_true rfl) dX3_hang_72 ⟨Nat.le_refl _, Nat.le_refl _⟩ (fun v11 z10 H locs hP hS hf => ?_)
          refine lv_goto (tgt := 80) hx hb dX3_hang_75 (by decide) ?_
          exact b80 k31 hk31 (fX3_hang_L45 N k31 n) ih z10 x1 x3 x4 x5 x6 v11 H locs ls hP hS (lv_sub hl [0, 1, 2, 3, 4, 5] rfl) hf
  have b31 : ∀  (n : Nat) (z : St) (x1 : Int32) (x3 : Int32) (x4 : Int32) (x5 : Int32) (H : Heap) (locs : List Loc) (ls : Array Slot), va_P D vwCl (wMo cI a z) H → va_S A s.heap H locs → lv_has ls 8 [(0, .ref (a 0)), (1, .int x1), (3, .int x3), (4, .int x4), (5, .int x5)] → fX3_hang_L31 N n z x1 x3 x4 x5 = some r → W p l e rmX3_hang s m ([.ref (a 0), .int p1] : List Value).toArray below meth c H locs 0 0 (MQ below (WQi sz D (wMo cI a σ) (wMo cI a (r.2)) r.1) ([.ref (a 0), .int p1] : List Value).toArray s 0 0 A) (F0 m 31 ls []) := by
    intro n
    induction n with
    | zero => intro z x1 x3 x4 x5 H locs ls hP hS hl hf; cases hf
    | succ n ih =>
      intro z x1 x3 x4 x5 H locs ls hP hS hl hf
      rw [fX3_hang_L31] at hf
      refine lv_iload hx hb dX3_hang_31 (lv_at hl 4 rfl) ?_
      refine lv_aload_n hx hb dX3_hang_33 rfl (lv_at hl 0 rfl) ?_
      refine va_get (D := D) (ci := 3) (v := .ref (a 1)) (C := RX3) (T := TX3) (N := 13) hx hb hts inX3 hown hK hP 0 rfl rfl 0 (by decide) ln1 (fun _ h9 => h9) rfl dX3_hang_34 ?_
      refine lv_iconst (v := (0 : Int32)) hx hb dX3_hang_37 (by decide) ?_
      refine k_iald hx hb hK hP 1 0 hf rfl rfl dX3_hang_38 (fun v4 hf => ?_)
      refine k_icmp_ge (tgt := 116) hx hb dX3_hang_39 (by decide) hf (fun hf => ?_) (fun hf => ?_)
      · refine lv_iload hx hb dX3_hang_116 (lv_at hl 3 rfl) ?_
        exact W_iret (fun z => wMo cI a z) hx hb hr hlk hP hS hAe hf dX3_hang_118
      · refine lv_iconst (v := (0 : Int32)) hx hb dX3_hang_42 (by decide) ?_
        refine lv_istore (lv' := [(6, .int (0 : Int32)), (0, .ref (a 0)), (1, .int x1), (3, .int x3), (4, .int x4), (5, .int x5)]) hx hb dX3_hang_43 hl (by decide) rfl (fun ls hl => ?_)
        exact b45 (fX3_hang_L31 N n) ih N z x1 x3 x4 x5 (0 : Int32) H locs ls hP hS (lv_sub hl [1, 2, 3, 4, 5, 0] rfl) hf
  unfold fX3_hang at hf
  refine lv_iload_n hx hb dX3_hang_0 rfl (lv_at hl 1 rfl) ?_
  refine lv_iconst (v := (0 : Int32)) hx hb dX3_hang_1 (by decide) ?_
  refine lv_bipush (v := (30 : Int32)) hx hb dX3_hang_2 (by decide) ?_
  refine c_callS (As := [.int p1, .int (0 : Int32), .int (30 : Int32)]) (rest := []) ⟨hx, hb, hml, hown, hts⟩ hf (fun vq hq => mX3_wrongBy l D cI cJ s.heap.size N p1 (0 : Int32) (30 : Int32) vq hq) (va_cwS 3 hts gX3_hang_X3_wrongBy rfl rfl rfl qX3_wrongBy ⟨Nat.le_of_ble_eq_true rfl, Nat.le_of_ble_eq_true rfl⟩) hK hP hS hA va_P_nil rfl hl.1 rfl (Nat.le_of_ble_eq_true rfl) dX3_hang_4 ⟨Nat.le_refl _, Nat.le_refl _⟩ (fun v1 H locs hP hS hf => ?_)
  refine lv_istore_n (lv' := [(2, .int v1), (0, .ref (a 0)), (1, .int p1)]) hx hb dX3_hang_7 rfl hl (by decide) rfl (fun ls hl => ?_)
  refine lv_iload_n hx hb dX3_hang_8 rfl (lv_at hl 0 rfl) ?_
  refine k_if_eq (tgt := 18) hx hb dX3_hang_9 (by decide) hf (fun hf => ?_) (fun hf => ?_)
  · refine lv_aload_n hx hb dX3_hang_18 rfl (lv_at hl 1 rfl) ?_
    refine lv_iload_n hx hb dX3_hang_19 rfl (lv_at hl 2 rfl) ?_
    refine d_callV (As := [.int p1]) (rest := []) (w := (fun z => wMo cI a z)) (wc := (wMo cI a)) (put := (fun uq => uq)) (σ := σ) (τ0 := σ) ⟨hx, hb, hml, hown, hts⟩ hf (fun vq zq hq => mX3_apartNow l D cI cJ a H.size N σ p1 (vq, zq) hq) (cwV 1 hts gX3_hang_X3_apartNow rfl rfl rfl qX3_apartNow ⟨Nat.le_of_ble_eq_true rfl, Nat.le_of_ble_eq_true rfl⟩) hK hP hD hS hA ⟨hP, hD _, fun _ _ _ h => h⟩ 3 rfl rfl rfl rfl hl.1 rfl (Nat.le_of_ble_eq_true rfl) dX3_hang_20 ⟨Nat.le_refl _, Nat.le_refl _⟩ (fun v3 z2 H locs hP hS hf => ?_)
    refine lv_istore_n (lv' := [(3, .int v3), (2, .int v1), (0, .ref (a 0)), (1, .int p1)]) hx hb dX3_hang_23 rfl hl (by decide) rfl (fun ls hl => ?_)
    refine lv_bipush (v := (-9 : Int32)) hx hb dX3_hang_24 (by decide) ?_
    refine lv_istore (lv' := [(4, .int (-9 : Int32)), (3, .int v3), (2, .int v1), (0, .ref (a 0)), (1, .int p1)]) hx hb dX3_hang_26 hl (by decide) rfl (fun ls hl => ?_)
    refine lv_iconst (v := (0 : Int32)) hx hb dX3_hang_28 (by decide) ?_
    refine lv_istore (lv' := [(5, .int (0 : Int32)), (4, .int (-9 : Int32)), (3, .int v3), (2, .int v1), (0, .ref (a 0)), (1, .int p1)]) hx hb dX3_hang_29 hl (by decide) rfl (fun ls hl => ?_)
    exact b31  N z2 p1 v3 (-9 : Int32) (0 : Int32) H locs ls hP hS (lv_sub hl [4, 5, 2, 1, 0] rfl) hf
  · refine lv_aload_n hx hb dX3_hang_12 rfl (lv_at hl 1 rfl) ?_
    refine lv_iload_n hx hb dX3_hang_13 rfl (lv_at hl 0 rfl) ?_
    refine d_callV (As := [.int v1]) (rest := []) (w := (fun z => wMo cI a z)) (wc := (wMo cI a)) (put := (fun uq => uq)) (σ := σ) (τ0 := σ) ⟨hx, hb, hml, hown, hts⟩ hf (fun vq zq hq => mX3_no l D cI cJ a H.size N σ v1 (vq, zq) hq) (cwV 1 hts gX3_hang_X3_no rfl rfl rfl qX3_no ⟨Nat.le_of_ble_eq_true rfl, Nat.le_of_ble_eq_true rfl⟩) hK hP hD hS hA ⟨hP, hD _, fun _ _ _ h => h⟩ 3 rfl rfl rfl rfl hl.1 rfl (Nat.le_of_ble_eq_true rfl) dX3_hang_14 ⟨Nat.le_refl _, Nat.le_refl _⟩ (fun v13 z12 H locs hP hS hf => ?_)
    exact W_iret (fun z => wMo cI a z) hx hb hr hlk hP hS hAe hf dX3_hang_17
def fX3_change_L123 (N : Nat) (k11 : St → Int32 → Int32 → Int32 → Option (Int32 × St)) (z : St) (x1 : Int32) (x2 : Int32) (x3 : Int32) : Option (Int32 × St) :=
    lt_ (x3 + (1 : Int32) : Int32) (fun v3 =>
    k11 z x1 x2 v3)
def fX3_change_L103 (N : Nat) (k11 : St → Int32 → Int32 → Int32 → Option (Int32 × St)) (k61 : St → Int32 → Int32 → Int32 → Int32 → Option (Int32 × St)) (z : St) (x1 : Int32) (x2 : Int32) (x3 : Int32) (x4 : Int32) : Option (Int32 × St) :=
    lt_ (x4 + (1 : Int32) : Int32) (fun v8 =>
    k61 z x1 x2 x3 v8)
def fX3_change_L61 (N : Nat) (k11 : St → Int32 → Int32 → Int32 → Option (Int32 × St)) : Nat → St → Int32 → Int32 → Int32 → Int32 → Option (Int32 × St)
  | 0, _, _, _, _, _ => none
  | n + 1, z, x1, x2, x3, x4 =>
    bo (rdI z 1 38 (0 : Int32)) (fun v5 =>
    if v5 ≤ x4 then bo (fX3_pullIn N (sb [2] z)) (fun v6 =>
    if (v6 / (4 : Int32)) = 0 then fX3_change_L123 N k11 z x1 x3 x3
    else fX3_change_L123 N k11 z x1 x2 x3)
    else bo (fX3_has N x3 x4) (fun v7 =>
    if v7 = 0 then fX3_change_L103 N k11 (fX3_change_L61 N k11 n) z x1 x2 x3 x4
    else bo (fX3_of N x4 (2 : Int32)) (fun v9 =>
    bo (rdI z 2 38 v9) (fun v10 =>
    by_ (fX3_hangsIn N (sb [2] z) x4 ((1 : Int32) - v10)) (fun uq => pb [2] uq z) (fun z11 =>
    fX3_change_L103 N k11 (fX3_change_L61 N k11 n) z11 x1 x2 x3 x4)))))
def fX3_change_L47 (N : Nat) (k11 : St → Int32 → Int32 → Int32 → Option (Int32 × St)) (z : St) (x1 : Int32) (x2 : Int32) (x3 : Int32) : Option (Int32 × St) :=
    by_ (fX3_copies N (sb [1, 2] z)) (fun uq => pb [1, 2] uq z) (fun z4 =>
    fX3_change_L61 N k11 N z4 x1 x2 x3 (0 : Int32))
def fX3_change_L11 (N : Nat)  : Nat → St → Int32 → Int32 → Int32 → Option (Int32 × St)
  | 0, _, _, _, _ => none
  | n + 1, z, x1, x2, x3 =>
    bo (rdI z 1 38 (0 : Int32)) (fun v2 =>
    if ((1 : Int32) <<< (v2 &&& 31)) ≤ x3 then some (x2, z)
    else if (x3 &&& x1) = 0 then if x2 < 0 then fX3_change_L47 N (fX3_change_L11 N n) z x1 x2 x3
    else bo (fX3_bits N x3) (fun v12 =>
    bo (fX3_bits N x2) (fun v13 =>
    if v12 < v13 then fX3_change_L47 N (fX3_change_L11 N n) z x1 x2 x3
    else fX3_change_L123 N (fX3_change_L11 N n) z x1 x2 x3))
    else fX3_change_L123 N (fX3_change_L11 N n) z x1 x2 x3)
def fX3_change (N : Nat) (σ : St)  : Option (Int32 × St) :=
    bo (fX3_onSide N σ (2 : Int32)) (fun v1 =>
    fX3_change_L11 N  N σ v1 (-9 : Int32) (0 : Int32))
abbrev rmX3_change : Room := { frames := 6, cells := 0, slots := 0, locals := 132 }
theorem qX3_change : yX3_change.cls = RX3 ∧ yX3_change.cls ≠ "java/lang/invoke/MethodHandle" ∧ yX3_change.cls ≠ "java/lang/invoke/VarHandle" ∧ (parseMethodDescriptor yX3_change.desc).map (fun d => d.parameters.length) = some 0 := by decide +kernel
set_option maxHeartbeats 400000 in
set_option maxRecDepth 100000 in
theorem mX3_change (l : Launch) (D : va_G) (cI cJ : ClassId) (a : Nat → Nat) (sz N : Nat) (σ : St)  (r : (Int32 × St)) (hf : fX3_change N σ = some r) : Met l yX3_change wsX3_change rmX3_change (WPre ([.ref (a 0)] : List Value) sz D (tyIJ cI cJ) (wMo cI a σ)) (WQi sz D (wMo cI a σ) (wMo cI a (r.2)) r.1) 0 0 (va_A (wMo cI a σ) sz) := by
  refine W_start (cc := cX3_change) (maxL := 5) (ret := (some .int)) (by decide) rfl (Nat.le_of_ble_eq_true rfl) (fun p e s m below meth c ls A hx hb hr hml hown hts hlk hP hK hS hA hD0 hAe hl => ?_)
  have hD : ∀ z, va_D A ((fun z => wMo cI a z) z) := fun z => hD0.ad rfl
  have hown : s.vm.findClass RX3 = some m.cls := hown
  have hl : lv_has ls 5 [(0, .ref (a 0))] := hl
  have ln1 := hts (Cond.fieldLink RX3 9 "HoistsAreSharedModel" "s" "[I") (List.mem_of_getElem? (i := 1) rfl)
  have inX3 : ∀ w ∈ u_ws RX3 TX3 13, w ∈ wsX3_change := fun _ h => List.mem_cons_of_mem _ (List.mem_append_right _ h)
  have ln3 := hts (Cond.fieldLink RX3 13 "HoistsAreSharedModel" "m" "[I") (List.mem_of_getElem? (i := 2) rfl)
  have b123 : ∀ (k11 : St → Int32 → Int32 → Int32 → Option (Int32 × St)) (hk11 : (∀ (z : St) (x1 : Int32) (x2 : Int32) (x3 : Int32) (H : Heap) (locs : List Loc) (ls : Array Slot), va_P D vwCl (wMo cI a z) H → va_S A s.heap H locs → lv_has ls 5 [(0, .ref (a 0)), (1, .int x1), (2, .int x2), (3, .int x3)] → k11 z x1 x2 x3 = some r → W p l e rmX3_change s m ([.ref (a 0)] : List Value).toArray below meth c H locs 0 0 (MQ below (WQi sz D (wMo cI a σ) (wMo cI a (r.2)) r.1) ([.ref (a 0)] : List Value).toArray s 0 0 A) (F0 m 11 ls []))) (z : St) (x1 : Int32) (x2 : Int32) (x3 : Int32) (H : Heap) (locs : List Loc) (ls : Array Slot), va_P D vwCl (wMo cI a z) H → va_S A s.heap H locs → lv_has ls 5 [(0, .ref (a 0)), (1, .int x1), (2, .int x2), (3, .int x3)] → fX3_change_L123 N k11 z x1 x2 x3 = some r → W p l e rmX3_change s m ([.ref (a 0)] : List Value).toArray below meth c H locs 0 0 (MQ below (WQi sz D (wMo cI a σ) (wMo cI a (r.2)) r.1) ([.ref (a 0)] : List Value).toArray s 0 0 A) (F0 m 123 ls []) := by
    intro k11 hk11 z x1 x2 x3 H locs ls hP hS hl hf
    unfold fX3_change_L123 at hf
    refine k_iinc (d := (1 : Int32)) (lv' := fun v3 => [(3, .int v3), (0, .ref (a 0)), (1, .int x1), (2, .int x2)]) hx hb dX3_change_123 hl (k := 3) rfl (by decide) (by decide) (fun _ => rfl) hf (fun v3 ls hl hf => ?_)
    refine lv_goto (tgt := 11) hx hb dX3_change_126 (by decide) ?_
    exact hk11 z x1 x2 v3 H locs ls hP hS (lv_sub hl [1, 2, 3, 0] rfl) hf
  have b103 : ∀ (k11 : St → Int32 → Int32 → Int32 → Option (Int32 × St)) (hk11 : (∀ (z : St) (x1 : Int32) (x2 : Int32) (x3 : Int32) (H : Heap) (locs : List Loc) (ls : Array Slot), va_P D vwCl (wMo cI a z) H → va_S A s.heap H locs → lv_has ls 5 [(0, .ref (a 0)), (1, .int x1), (2, .int x2), (3, .int x3)] → k11 z x1 x2 x3 = some r → W p l e rmX3_change s m ([.ref (a 0)] : List Value).toArray below meth c H locs 0 0 (MQ below (WQi sz D (wMo cI a σ) (wMo cI a (r.2)) r.1) ([.ref (a 0)] : List Value).toArray s 0 0 A) (F0 m 11 ls []))) (k61 : St → Int32 → Int32 → Int32 → Int32 → Option (Int32 × St)) (hk61 : (∀ (z : St) (x1 : Int32) (x2 : Int32) (x3 : Int32) (x4 : Int32) (H : Heap) (locs : List Loc) (ls : Array Slot), va_P D vwCl (wMo cI a z) H → va_S A s.heap H locs → lv_has ls 5 [(0, .ref (a 0)), (1, .int x1), (2, .int x2), (3, .int x3), (4, .int x4)] → k61 z x1 x2 x3 x4 = some r → W p l e rmX3_change s m ([.ref (a 0)] : List Value).toArray below meth c H locs 0 0 (MQ below (WQi sz D (wMo cI a σ) (wMo cI a (r.2)) r.1) ([.ref (a 0)] : List Value).toArray s 0 0 A) (F0 m 61 ls []))) (z : St) (x1 : Int32) (x2 : Int32) (x3 : Int32) (x4 : Int32) (H : Heap) (locs : List Loc) (ls : Array Slot), va_P D vwCl (wMo cI a z) H → va_S A s.heap H locs → lv_has ls 5 [(0, .ref (a 0)), (1, .int x1), (2, .int x2), (3, .int x3), (4, .int x4)] → fX3_change_L103 N k11 k61 z x1 x2 x3 x4 = some r → W p l e rmX3_change s m ([.ref (a 0)] : List Value).toArray below meth c H locs 0 0 (MQ below (WQi sz D (wMo cI a σ) (wMo cI a (r.2)) r.1) ([.ref (a 0)] : List Value).toArray s 0 0 A) (F0 m 103 ls []) := by
    intro k11 hk11 k61 hk61 z x1 x2 x3 x4 H locs ls hP hS hl hf
    unfold fX3_change_L103 at hf
    refine k_iinc (d := (1 : Int32)) (lv' := fun v8 => [(4, .int v8), (0, .ref (a 0)), (1, .int x1), (2, .int x2), (3, .int x3)]) hx hb dX3_change_103 hl (k := 4) rfl (by decide) (by decide) (fun _ => rfl) hf (fun v8 ls hl hf => ?_)
    refine lv_goto (tgt := 61) hx hb dX3_change_106 (by decide) ?_
    exact hk61 z x1 x2 x3 v8 H locs ls hP hS (lv_sub hl [1, 2, 3, 4, 0] rfl) hf
  have b61 : ∀ (k11 : St → Int32 → Int32 → Int32 → Option (Int32 × St)) (hk11 : (∀ (z : St) (x1 : Int32) (x2 : Int32) (x3 : Int32) (H : Heap) (locs : List Loc) (ls : Array Slot), va_P D vwCl (wMo cI a z) H → va_S A s.heap H locs → lv_has ls 5 [(0, .ref (a 0)), (1, .int x1), (2, .int x2), (3, .int x3)] → k11 z x1 x2 x3 = some r → W p l e rmX3_change s m ([.ref (a 0)] : List Value).toArray below meth c H locs 0 0 (MQ below (WQi sz D (wMo cI a σ) (wMo cI a (r.2)) r.1) ([.ref (a 0)] : List Value).toArray s 0 0 A) (F0 m 11 ls []))) (n : Nat) (z : St) (x1 : Int32) (x2 : Int32) (x3 : Int32) (x4 : Int32) (H : Heap) (locs : List Loc) (ls : Array Slot), va_P D vwCl (wMo cI a z) H → va_S A s.heap H locs → lv_has ls 5 [(0, .ref (a 0)), (1, .int x1), (2, .int x2), (3, .int x3), (4, .int x4)] → fX3_change_L61 N k11 n z x1 x2 x3 x4 = some r → W p l e rmX3_change s m ([.ref (a 0)] : List Value).toArray below meth c H locs 0 0 (MQ below (WQi sz D (wMo cI a σ) (wMo cI a (r.2)) r.1) ([.ref (a 0)] : List Value).toArray s 0 0 A) (F0 m 61 ls []) := by
    intro k11 hk11 n
    induction n with
    | zero => intro z x1 x2 x3 x4 H locs ls hP hS hl hf; cases hf
    | succ n ih =>
      intro z x1 x2 x3 x4 H locs ls hP hS hl hf
      rw [fX3_change_L61] at hf
      refine lv_iload hx hb dX3_change_61 (lv_at hl 4 rfl) ?_
      refine lv_aload_n hx hb dX3_change_63 rfl (lv_at hl 0 rfl) ?_
      refine va_get (D := D) (ci := 3) (v := .ref (a 1)) (C := RX3) (T := TX3) (N := 13) hx hb hts inX3 hown hK hP 0 rfl rfl 0 (by decide) ln1 (fun _ h9 => h9) rfl dX3_change_64 ?_
      refine lv_iconst (v := (0 : Int32)) hx hb dX3_change_67 (by decide) ?_
      refine k_iald hx hb hK hP 1 0 hf rfl rfl dX3_change_68 (fun v5 hf => ?_)
      refine k_icmp_ge (tgt := 109) hx hb dX3_change_69 (by decide) hf (fun hf => ?_) (fun hf => ?_)
      · refine lv_aload_n hx hb dX3_change_109 rfl (lv_at hl 0 rfl) ?_
        refine va_get (D := D) (ci := 3) (v := .ref (a 2)) (C := RX3) (T := TX3) (N := 13) hx hb hts inX3 hown hK hP 0 rfl rfl 1 (by decide) ln3 (fun _ h9 => h9) rfl dX3_change_110 ?_
        refine c_callS (As := [.ref ((sb [2] a) 0)]) (rest := []) ⟨hx, hb, hml, hown, hts⟩ hf (fun vq hq => mX3_pullIn l D cI cJ (sb [2] a) H.size N (sb [2] z) vq hq) (va_cwS 1 hts gX3_change_X3_pullIn rfl rfl rfl qX3_pullIn ⟨Nat.le_of_ble_eq_true rfl, Nat.le_of_ble_eq_true rfl⟩) hK hP hS hA (cmr_Mo_Ar_2 D cI a z hP) rfl hl.1 rfl (Nat.le_of_ble_eq_true rfl) dX3_change_113 ⟨Nat.le_refl _, Nat.le_refl _⟩ (fun v6 H locs hP hS hf => ?_)
        refine lv_iconst (v := (4 : Int32)) hx hb dX3_change_116 (by decide) ?_
        refine lv_idiv hx hb dX3_change_117 (by decide) ?_
        refine k_if_ne (tgt := 123) hx hb dX3_change_118 (by decide) hf (fun hf => ?_) (fun hf => ?_)
        · exact b123 k11 hk11 z x1 x2 x3 H locs ls hP hS (lv_sub hl [0, 1, 2, 3] rfl) hf
        · refine lv_iload_n hx hb dX3_change_121 rfl (lv_at hl 3 rfl) ?_
          refine lv_istore_n (lv' := [(2, .int x3), (0, .ref (a 0)), (1, .int x1), (3, .int x3), (4, .int x4)]) hx hb dX3_change_122 rfl hl (by decide) rfl (fun ls hl => ?_)
          exact b123 k11 hk11 z x1 x3 x3 H locs ls hP hS (lv_sub hl [1, 2, 0, 3] rfl) hf
      · refine lv_iload_n hx hb dX3_change_72 rfl (lv_at hl 3 rfl) ?_
        refine lv_iload hx hb dX3_change_73 (lv_at hl 4 rfl) ?_
        refine c_callS (As := [.int x3, .int x4]) (rest := []) ⟨hx, hb, hml, hown, hts⟩ hf (fun vq hq => mX3_has l D cI cJ H.size N x3 x4 vq hq) (va_cwS 2 hts gX3_change_X3_has rfl rfl rfl qX3_has ⟨Nat.le_of_ble_eq_true rfl, Nat.le_of_ble_eq_true rfl⟩) hK hP hS hA va_P_nil rfl hl.1 rfl (Nat.le_of_ble_eq_true rfl) dX3_change_75 ⟨Nat.le_refl _, Nat.le_refl _⟩ (fun v7 H locs hP hS hf => ?_)
        refine k_if_eq (tgt := 103) hx hb dX3_change_78 (by decide) hf (fun hf => ?_) (fun hf => ?_)
        · exact b103 k11 hk11 (fX3_change_L61 N k11 n) ih z x1 x2 x3 x4 H locs ls hP hS (lv_sub hl [0, 1, 2, 3, 4] rfl) hf
        · refine lv_aload_n hx hb dX3_change_81 rfl (lv_at hl 0 rfl) ?_
          refine va_get (D := D) (ci := 3) (v := .ref (a 2)) (C := RX3) (T := TX3) (N := 13) hx hb hts inX3 hown hK hP 0 rfl rfl 1 (by decide) ln3 (fun _ h9 => h9) rfl dX3_change_82 ?_
          refine lv_iload hx hb dX3_change_85 (lv_at hl 4 rfl) ?_
          refine lv_iconst (v := (1 : Int32)) hx hb dX3_change_87 (by decide) ?_
          refine lv_aload_n hx hb dX3_change_88 rfl (lv_at hl 0 rfl) ?_
          refine va_get (D := D) (ci := 3) (v := .ref (a 2)) (C := RX3) (T := TX3) (N := 13) hx hb hts inX3 hown hK hP 0 rfl rfl 1 (by decide) ln3 (fun _ h9 => h9) rfl dX3_change_89 ?_
          refine lv_iload hx hb dX3_change_92 (lv_at hl 4 rfl) ?_
          refine lv_iconst (v := (2 : Int32)) hx hb dX3_change_94 (by decide) ?_
          refine c_callS (As := [.int x4, .int (2 : Int32)]) (rest := [.ref (a 2), .int (1 : Int32), .int x4, .ref (a 2)]) ⟨hx, hb, hml, hown, hts⟩ hf (fun vq hq => mX3_of l D cI cJ H.size N x4 (2 : Int32) vq hq) (va_cwS 2 hts gX3_change_X3_of rfl rfl rfl qX3_of ⟨Nat.le_of_ble_eq_true rfl, Nat.le_of_ble_eq_true rfl⟩) hK hP hS hA va_P_nil rfl hl.1 rfl (Nat.le_of_ble_eq_true rfl) dX3_change_95 ⟨Nat.le_refl _, Nat.le_refl _⟩ (fun v9 H locs hP hS hf => ?_)
          refine k_iald hx hb hK hP 2 0 hf rfl rfl dX3_change_98 (fun v10 hf => ?_)
          refine lv_isub hx hb dX3_change_99 ?_
          refine d_callSv (As := [.ref ((sb [2] a) 0), .int x4, .int ((1 : Int32) - v10)]) (rest := []) (w := (fun z => wMo cI a z)) (wc := (wAr cI (sb [2] a))) (put := (fun uq => pb [2] uq z)) (σ := z) (τ0 := (sb [2] z)) ⟨hx, hb, hml, hown, hts⟩ hf (fun zq hq => mX3_hangsIn l D cI cJ (sb [2] a) H.size N (sb [2] z) x4 ((1 : Int32) - v10) zq hq) (va_cwS 3 hts gX3_change_X3_hangsIn rfl rfl rfl qX3_hangsIn ⟨Nat.le_of_ble_eq_true rfl, Nat.le_of_ble_eq_true rfl⟩) hK hP hD hS hA (cmb_Mo_Ar_2 D cI a z hP (hD _)) rfl hl.1 rfl (Nat.le_of_ble_eq_true rfl) dX3_change_100 ⟨Nat.le_refl _, Nat.le_refl _⟩ (fun z11 H locs hP hS hf => ?_)
          exact b103 k11 hk11 (fX3_change_L61 N k11 n) ih z11 x1 x2 x3 x4 H locs ls hP hS (lv_sub hl [0, 1, 2, 3, 4] rfl) hf
  have b47 : ∀ (k11 : St → Int32 → Int32 → Int32 → Option (Int32 × St)) (hk11 : (∀ (z : St) (x1 : Int32) (x2 : Int32) (x3 : Int32) (H : Heap) (locs : List Loc) (ls : Array Slot), va_P D vwCl (wMo cI a z) H → va_S A s.heap H locs → lv_has ls 5 [(0, .ref (a 0)), (1, .int x1), (2, .int x2), (3, .int x3)] → k11 z x1 x2 x3 = some r → W p l e rmX3_change s m ([.ref (a 0)] : List Value).toArray below meth c H locs 0 0 (MQ below (WQi sz D (wMo cI a σ) (wMo cI a (r.2)) r.1) ([.ref (a 0)] : List Value).toArray s 0 0 A) (F0 m 11 ls []))) (z : St) (x1 : Int32) (x2 : Int32) (x3 : Int32) (H : Heap) (locs : List Loc) (ls : Array Slot), va_P D vwCl (wMo cI a z) H → va_S A s.heap H locs → lv_has ls 5 [(0, .ref (a 0)), (1, .int x1), (2, .int x2), (3, .int x3)] → fX3_change_L47 N k11 z x1 x2 x3 = some r → W p l e rmX3_change s m ([.ref (a 0)] : List Value).toArray below meth c H locs 0 0 (MQ below (WQi sz D (wMo cI a σ) (wMo cI a (r.2)) r.1) ([.ref (a 0)] : List Value).toArray s 0 0 A) (F0 m 47 ls []) := by
    intro k11 hk11 z x1 x2 x3 H locs ls hP hS hl hf
    unfold fX3_change_L47 at hf
    refine lv_aload_n hx hb dX3_change_47 rfl (lv_at hl 0 rfl) ?_
    refine va_get (D := D) (ci := 3) (v := .ref (a 1)) (C := RX3) (T := TX3) (N := 13) hx hb hts inX3 hown hK hP 0 rfl rfl 0 (by decide) ln1 (fun _ h9 => h9) rfl dX3_change_48 ?_
    refine lv_aload_n hx hb dX3_change_51 rfl (lv_at hl 0 rfl) ?_
    refine va_get (D := D) (ci := 3) (v := .ref (a 2)) (C := RX3) (T := TX3) (N := 13) hx hb hts inX3 hown hK hP 0 rfl rfl 1 (by decide) ln3 (fun _ h9 => h9) rfl dX3_change_52 ?_
    refine d_callSv (As := [.ref ((sb [1, 2] a) 0), .ref ((sb [1, 2] a) 1)]) (rest := []) (w := (fun z => wMo cI a z)) (wc := (wAr2 cI (sb [1, 2] a))) (put := (fun uq => pb [1, 2] uq z)) (σ := z) (τ0 := (sb [1, 2] z)) ⟨hx, hb, hml, hown, hts⟩ hf (fun zq hq => mX3_copies l D cI cJ (sb [1, 2] a) H.size N (sb [1, 2] z) zq hq) (va_cwS 2 hts gX3_change_X3_copies rfl rfl rfl qX3_copies ⟨Nat.le_of_ble_eq_true rfl, Nat.le_of_ble_eq_true rfl⟩) hK hP hD hS hA (cmb_Mo_Ar2_1_2 D cI a z hP (hD _)) rfl hl.1 rfl (Nat.le_of_ble_eq_true rfl) dX3_change_55 ⟨Nat.le_refl _, Nat.le_refl _⟩ (fun z4 H locs hP hS hf => ?_)
    refine lv_iconst (v := (0 : Int32)) hx hb dX3_change_58 (by decide) ?_
    refine lv_istore (lv' := [(4, .int (0 : Int32)), (0, .ref (a 0)), (1, .int x1), (2, .int x2), (3, .int x3)]) hx hb dX3_change_59 hl (by decide) rfl (fun ls hl => ?_)
    exact b61 k11 hk11 N z4 x1 x2 x3 (0 : Int32) H locs ls hP hS (lv_sub hl [1, 2, 3, 4, 0] rfl) hf
  have b11 : ∀  (n : Nat) (z : St) (x1 : Int32) (x2 : Int32) (x3 : Int32) (H : Heap) (locs : List Loc) (ls : Array Slot), va_P D vwCl (wMo cI a z) H → va_S A s.heap H locs → lv_has ls 5 [(0, .ref (a 0)), (1, .int x1), (2, .int x2), (3, .int x3)] → fX3_change_L11 N n z x1 x2 x3 = some r → W p l e rmX3_change s m ([.ref (a 0)] : List Value).toArray below meth c H locs 0 0 (MQ below (WQi sz D (wMo cI a σ) (wMo cI a (r.2)) r.1) ([.ref (a 0)] : List Value).toArray s 0 0 A) (F0 m 11 ls []) := by
    intro n
    induction n with
    | zero => intro z x1 x2 x3 H locs ls hP hS hl hf; cases hf
    | succ n ih =>
      intro z x1 x2 x3 H locs ls hP hS hl hf
      rw [fX3_change_L11] at hf
      refine lv_iload_n hx hb dX3_change_11 rfl (lv_at hl 3 rfl) ?_
      refine lv_iconst (v := (1 : Int32)) hx hb dX3_change_12 (by decide) ?_
      refine lv_aload_n hx hb dX3_change_13 rfl (lv_at hl 0 rfl) ?_
      refine va_get (D := D) (ci := 3) (v := .ref (a 1)) (C := RX3) (T := TX3) (N := 13) hx hb hts inX3 hown hK hP 0 rfl rfl 0 (by decide) ln1 (fun _ h9 => h9) rfl dX3_change_14 ?_
      refine lv_iconst (v := (0 : Int32)) hx hb dX3_change_17 (by decide) ?_
      refine k_iald hx hb hK hP 1 0 hf rfl rfl dX3_change_18 (fun v2 hf => ?_)
      refine lv_ishl hx hb dX3_change_19 ?_
      refine k_icmp_ge (tgt := 129) hx hb dX3_change_20 (by decide) hf (fun hf => ?_) (fun hf => ?_)
      · refine lv_iload_n hx hb dX3_change_129 rfl (lv_at hl 2 rfl) ?_
        exact W_iret (fun z => wMo cI a z) hx hb hr hlk hP hS hAe hf dX3_change_130
      · refine lv_iload_n hx hb dX3_change_23 rfl (lv_at hl 3 rfl) ?_
        refine lv_iload_n hx hb dX3_change_24 rfl (lv_at hl 1 rfl) ?_
        refine lv_iand hx hb dX3_change_25 ?_
        refine k_if_ne (tgt := 123) hx hb dX3_change_26 (by decide) hf (fun hf => ?_) (fun hf => ?_)
        · exact b123 (fX3_change_L11 N n) ih z x1 x2 x3 H locs ls hP hS (lv_sub hl [0, 1, 2, 3] rfl) hf
        · refine lv_iload_n hx hb dX3_change_29 rfl (lv_at hl 2 rfl) ?_
          refine k_if_lt (tgt := 47) hx hb dX3_change_30 (by decide) hf (fun hf => ?_) (fun hf => ?_)
          · exact b47 (fX3_change_L11 N n) ih z x1 x2 x3 H locs ls hP hS (lv_sub hl [0, 1, 2, 3] rfl) hf
          · refine lv_iload_n hx hb dX3_change_33 rfl (lv_at hl 3 rfl) ?_
            refine c_callS (As := [.int x3]) (rest := []) ⟨hx, hb, hml, hown, hts⟩ hf (fun vq hq => mX3_bits l D cI cJ H.size N x3 vq hq) (va_cwS 1 hts gX3_change_X3_bits rfl rfl rfl qX3_bits ⟨Nat.le_of_ble_eq_true rfl, Nat.le_of_ble_eq_true rfl⟩) hK hP hS hA va_P_nil rfl hl.1 rfl (Nat.le_of_ble_eq_true rfl) dX3_change_34 ⟨Nat.le_refl _, Nat.le_refl _⟩ (fun v12 H locs hP hS hf => ?_)
            refine lv_iload_n hx hb dX3_change_37 rfl (lv_at hl 2 rfl) ?_
            refine c_callS (As := [.int x2]) (rest := [.int v12]) ⟨hx, hb, hml, hown, hts⟩ hf (fun vq hq => mX3_bits l D cI cJ H.size N x2 vq hq) (va_cwS 1 hts gX3_change_X3_bits rfl rfl rfl qX3_bits ⟨Nat.le_of_ble_eq_true rfl, Nat.le_of_ble_eq_true rfl⟩) hK hP hS hA va_P_nil rfl hl.1 rfl (Nat.le_of_ble_eq_true rfl) dX3_change_38 ⟨Nat.le_refl _, Nat.le_refl _⟩ (fun v13 H locs hP hS hf => ?_)
            refine k_icmp_lt (tgt := 47) hx hb dX3_change_41 (by decide) hf (fun hf => ?_) (fun hf => ?_)
            · exact b47 (fX3_change_L11 N n) ih z x1 x2 x3 H locs ls hP hS (lv_sub hl [0, 1, 2, 3] rfl) hf
            · refine lv_goto (tgt := 123) hx hb dX3_change_44 (by decide) ?_
              exact b123 (fX3_change_L11 N n) ih z x1 x2 x3 H locs ls hP hS (lv_sub hl [0, 1, 2, 3] rfl) hf
  unfold fX3_change at hf
  refine lv_aload_n hx hb dX3_change_0 rfl (lv_at hl 0 rfl) ?_
  refine lv_iconst (v := (2 : Int32)) hx hb dX3_change_1 (by decide) ?_
  refine c_callV (As := [.int (2 : Int32)]) (rest := []) ⟨hx, hb, hml, hown, hts⟩ hf (fun vq hq => mX3_onSide l D cI cJ a s.heap.size N σ (2 : Int32) vq hq) (cwV 1 hts gX3_change_X3_onSide rfl rfl rfl qX3_onSide ⟨Nat.le_of_ble_eq_true rfl, Nat.le_of_ble_eq_true rfl⟩) hK hP hS hA hP 3 rfl rfl rfl rfl hl.1 rfl (Nat.le_of_ble_eq_true rfl) dX3_change_2 ⟨Nat.le_refl _, Nat.le_refl _⟩ (fun v1 H locs hP hS hf => ?_)
  refine lv_istore_n (lv' := [(1, .int v1), (0, .ref (a 0))]) hx hb dX3_change_5 rfl hl (by decide) rfl (fun ls hl => ?_)
  refine lv_bipush (v := (-9 : Int32)) hx hb dX3_change_6 (by decide) ?_
  refine lv_istore_n (lv' := [(2, .int (-9 : Int32)), (1, .int v1), (0, .ref (a 0))]) hx hb dX3_change_8 rfl hl (by decide) rfl (fun ls hl => ?_)
  refine lv_iconst (v := (0 : Int32)) hx hb dX3_change_9 (by decide) ?_
  refine lv_istore_n (lv' := [(3, .int (0 : Int32)), (2, .int (-9 : Int32)), (1, .int v1), (0, .ref (a 0))]) hx hb dX3_change_10 rfl hl (by decide) rfl (fun ls hl => ?_)
  exact b11  N σ v1 (-9 : Int32) (0 : Int32) H locs ls hP hS (lv_sub hl [3, 2, 1, 0] rfl) hf
def fX3_ballast_L113 (N : Nat) (k60 : St → Int32 → Int32 → Int32 → Int32 → Int32 → Int32 → Option (Int32 × St)) (z : St) (x1 : Int32) (x2 : Int32) (x3 : Int32) (x5 : Int32) (x6 : Int32) (x7 : Int32) : Option (Int32 × St) :=
    lt_ (x7 + (1 : Int32) : Int32) (fun v6 =>
    k60 z x1 x2 x3 x5 x6 v6)
def fX3_ballast_L60 (N : Nat)  : Nat → St → Int32 → Int32 → Int32 → Int32 → Int32 → Int32 → Option (Int32 × St)
  | 0, _, _, _, _, _, _, _ => none
  | n + 1, z, x1, x2, x3, x5, x6, x7 =>
    if (50 : Int32) < x7 then if x3 = 0 then some (x5, z)
    else some (x6, z)
    else by_ (fX3_copies N (sb [1, 2] z)) (fun uq => pb [1, 2] uq z) (fun z2 =>
    bo (wrI z2 2 38 ((4 : Int32) + x1) x7) (fun z3 =>
    bx (fX3_apartThen N z3 x2) (fun uq => uq) (fun v5 z4 =>
    if v5 < x6 then fX3_ballast_L113 N (fX3_ballast_L60 N n) z4 x1 x2 x3 x7 v5 x7
    else fX3_ballast_L113 N (fX3_ballast_L60 N n) z4 x1 x2 x3 x5 x6 x7)))
def fX3_ballast_L38 (N : Nat)  (z : St) (x1 : Int32) (x2 : Int32) (x3 : Int32) (x4 : Int32) : Option (Int32 × St) :=
    if x4 = 0 then fX3_ballast_L60 N  N z x1 x2 x3 (0 : Int32) (1000000000 : Int32) (0 : Int32)
    else bx (fX3_no N z x4) (fun uq => uq) (fun v8 z7 =>
    some (v8, z7))
def fX3_ballast_L18 (N : Nat)  (z : St) (x1 : Int32) (x2 : Int32) (x3 : Int32) (y0 : Int32) : Option (Int32 × St) :=
    if y0 = 0 then bo (fX3_isIn N x3 (0 : Int32) (1 : Int32)) (fun v9 =>
    if v9 = 0 then fX3_ballast_L38 N  z x1 x2 x3 (-2 : Int32)
    else fX3_ballast_L38 N  z x1 x2 x3 y0)
    else fX3_ballast_L38 N  z x1 x2 x3 y0
def fX3_ballast (N : Nat) (σ : St) (p1 : Int32) (p2 : Int32) (p3 : Int32) : Option (Int32 × St) :=
    bo (fX3_isSide N p1) (fun v1 =>
    if v1 = 0 then fX3_ballast_L18 N  σ p1 p2 p3 (-1 : Int32)
    else bo (fX3_wrongBy N p2 (0 : Int32) (30 : Int32)) (fun v10 =>
    fX3_ballast_L18 N  σ p1 p2 p3 v10))
abbrev rmX3_ballast : Room := { frames := 9, cells := 0, slots := 0, locals := 199 }
theorem qX3_ballast : yX3_ballast.cls = RX3 ∧ yX3_ballast.cls ≠ "java/lang/invoke/MethodHandle" ∧ yX3_ballast.cls ≠ "java/lang/invoke/VarHandle" ∧ (parseMethodDescriptor yX3_ballast.desc).map (fun d => d.parameters.length) = some 3 := by decide +kernel
set_option maxHeartbeats 400000 in
set_option maxRecDepth 100000 in
theorem mX3_ballast (l : Launch) (D : va_G) (cI cJ : ClassId) (a : Nat → Nat) (sz N : Nat) (σ : St) (p1 : Int32) (p2 : Int32) (p3 : Int32) (r : (Int32 × St)) (hf : fX3_ballast N σ p1 p2 p3 = some r) : Met l yX3_ballast wsX3_ballast rmX3_ballast (WPre ([.ref (a 0), .int p1, .int p2, .int p3] : List Value) sz D (tyIJ cI cJ) (wMo cI a σ)) (WQi sz D (wMo cI a σ) (wMo cI a (r.2)) r.1) 0 0 (va_A (wMo cI a σ) sz) := by
  refine W_start (cc := cX3_ballast) (maxL := 9) (ret := (some .int)) (by decide) rfl (Nat.le_of_ble_eq_true rfl) (fun p e s m below meth c ls A hx hb hr hml hown hts hlk hP hK hS hA hD0 hAe hl => ?_)
  have hD : ∀ z, va_D A ((fun z => wMo cI a z) z) := fun z => hD0.ad rfl
  have hown : s.vm.findClass RX3 = some m.cls := hown
  have hl : lv_has ls 9 [(0, .ref (a 0)), (1, .int p1), (2, .int p2), (3, .int p3)] := hl
  have ln1 := hts (Cond.constant RX3 35 (1000000000)) (List.mem_of_getElem? (i := 1) rfl)
  have ln2 := hts (Cond.fieldLink RX3 9 "HoistsAreSharedModel" "s" "[I") (List.mem_of_getElem? (i := 2) rfl)
  have inX3 : ∀ w ∈ u_ws RX3 TX3 13, w ∈ wsX3_ballast := fun _ h => List.mem_cons_of_mem _ (List.mem_append_right _ h)
  have ln4 := hts (Cond.fieldLink RX3 13 "HoistsAreSharedModel" "m" "[I") (List.mem_of_getElem? (i := 3) rfl)
  have b113 : ∀ (k60 : St → Int32 → Int32 → Int32 → Int32 → Int32 → Int32 → Option (Int32 × St)) (hk60 : (∀ (z : St) (x1 : Int32) (x2 : Int32) (x3 : Int32) (x5 : Int32) (x6 : Int32) (x7 : Int32) (H : Heap) (locs : List Loc) (ls : Array Slot), va_P D vwCl (wMo cI a z) H → va_S A s.heap H locs → lv_has ls 9 [(0, .ref (a 0)), (1, .int x1), (2, .int x2), (3, .int x3), (5, .int x5), (6, .int x6), (7, .int x7)] → k60 z x1 x2 x3 x5 x6 x7 = some r → W p l e rmX3_ballast s m ([.ref (a 0), .int p1, .int p2, .int p3] : List Value).toArray below meth c H locs 0 0 (MQ below (WQi sz D (wMo cI a σ) (wMo cI a (r.2)) r.1) ([.ref (a 0), .int p1, .int p2, .int p3] : List Value).toArray s 0 0 A) (F0 m 60 ls []))) (z : St) (x1 : Int32) (x2 : Int32) (x3 : Int32) (x5 : Int32) (x6 : Int32) (x7 : Int32) (H : Heap) (locs : List Loc) (ls : Array Slot), va_P D vwCl (wMo cI a z) H → va_S A s.heap H locs → lv_has ls 9 [(0, .ref (a 0)), (1, .int x1), (2, .int x2), (3, .int x3), (5, .int x5), (6, .int x6), (7, .int x7)] → fX3_ballast_L113 N k60 z x1 x2 x3 x5 x6 x7 = some r → W p l e rmX3_ballast s m ([.ref (a 0), .int p1, .int p2, .int p3] : List Value).toArray below meth c H locs 0 0 (MQ below (WQi sz D (wMo cI a σ) (wMo cI a (r.2)) r.1) ([.ref (a 0), .int p1, .int p2, .int p3] : List Value).toArray s 0 0 A) (F0 m 113 ls []) := by
    intro k60 hk60 z x1 x2 x3 x5 x6 x7 H locs ls hP hS hl hf
    unfold fX3_ballast_L113 at hf
    refine k_iinc (d := (1 : Int32)) (lv' := fun v6 => [(7, .int v6), (0, .ref (a 0)), (1, .int x1), (2, .int x2), (3, .int x3), (5, .int x5), (6, .int x6)]) hx hb dX3_ballast_113 hl (k := 6) rfl (by decide) (by decide) (fun _ => rfl) hf (fun v6 ls hl hf => ?_)
    refine lv_goto (tgt := 60) hx hb dX3_ballast_116 (by decide) ?_
    exact hk60 z x1 x2 x3 x5 x6 v6 H locs ls hP hS (lv_sub hl [1, 2, 3, 4, 5, 6, 0] rfl) hf
  have b60 : ∀  (n : Nat) (z : St) (x1 : Int32) (x2 : Int32) (x3 : Int32) (x5 : Int32) (x6 : Int32) (x7 : Int32) (H : Heap) (locs : List Loc) (ls : Array Slot), va_P D vwCl (wMo cI a z) H → va_S A s.heap H locs → lv_has ls 9 [(0, .ref (a 0)), (1, .int x1), (2, .int x2), (3, .int x3), (5, .int x5), (6, .int x6), (7, .int x7)] → fX3_ballast_L60 N n z x1 x2 x3 x5 x6 x7 = some r → W p l e rmX3_ballast s m ([.ref (a 0), .int p1, .int p2, .int p3] : List Value).toArray below meth c H locs 0 0 (MQ below (WQi sz D (wMo cI a σ) (wMo cI a (r.2)) r.1) ([.ref (a 0), .int p1, .int p2, .int p3] : List Value).toArray s 0 0 A) (F0 m 60 ls []) := by
    intro n
    induction n with
    | zero => intro z x1 x2 x3 x5 x6 x7 H locs ls hP hS hl hf; cases hf
    | succ n ih =>
      intro z x1 x2 x3 x5 x6 x7 H locs ls hP hS hl hf
      rw [fX3_ballast_L60] at hf
      refine lv_iload hx hb dX3_ballast_60 (lv_at hl 6 rfl) ?_
      refine lv_bipush (v := (50 : Int32)) hx hb dX3_ballast_62 (by decide) ?_
      refine k_icmp_gt (tgt := 119) hx hb dX3_ballast_64 (by decide) hf (fun hf => ?_) (fun hf => ?_)
      · refine lv_iload_n hx hb dX3_ballast_119 rfl (lv_at hl 3 rfl) ?_
        refine k_if_ne (tgt := 128) hx hb dX3_ballast_120 (by decide) hf (fun hf => ?_) (fun hf => ?_)
        · refine lv_iload hx hb dX3_ballast_128 (lv_at hl 5 rfl) ?_
          exact W_iret (fun z => wMo cI a z) hx hb hr hlk hP hS hAe hf dX3_ballast_130
        · refine lv_iload hx hb dX3_ballast_123 (lv_at hl 4 rfl) ?_
          refine lv_goto (tgt := 130) hx hb dX3_ballast_125 (by decide) ?_
          exact W_iret (fun z => wMo cI a z) hx hb hr hlk hP hS hAe hf dX3_ballast_130
      · refine lv_aload_n hx hb dX3_ballast_67 rfl (lv_at hl 0 rfl) ?_
        refine va_get (D := D) (ci := 3) (v := .ref (a 1)) (C := RX3) (T := TX3) (N := 13) hx hb hts inX3 hown hK hP 0 rfl rfl 0 (by decide) ln2 (fun _ h9 => h9) rfl dX3_ballast_68 ?_
        refine lv_aload_n hx hb dX3_ballast_71 rfl (lv_at hl 0 rfl) ?_
        refine va_get (D := D) (ci := 3) (v := .ref (a 2)) (C := RX3) (T := TX3) (N := 13) hx hb hts inX3 hown hK hP 0 rfl rfl 1 (by decide) ln4 (fun _ h9 => h9) rfl dX3_ballast_72 ?_
        refine d_callSv (As := [.ref ((sb [1, 2] a) 0), .ref ((sb [1, 2] a) 1)]) (rest := []) (w := (fun z => wMo cI a z)) (wc := (wAr2 cI (sb [1, 2] a))) (put := (fun uq => pb [1, 2] uq z)) (σ := z) (τ0 := (sb [1, 2] z)) ⟨hx, hb, hml, hown, hts⟩ hf (fun zq hq => mX3_copies l D cI cJ (sb [1, 2] a) H.size N (sb [1, 2] z) zq hq) (va_cwS 2 hts gX3_ballast_X3_copies rfl rfl rfl qX3_copies ⟨Nat.le_of_ble_eq_true rfl, Nat.le_of_ble_eq_true rfl⟩) hK hP hD hS hA (cmb_Mo_Ar2_1_2 D cI a z hP (hD _)) rfl hl.1 rfl (Nat.le_of_ble_eq_true rfl) dX3_ballast_75 ⟨Nat.le_refl _, Nat.le_refl _⟩ (fun z2 H locs hP hS hf => ?_)
        refine lv_aload_n hx hb dX3_ballast_78 rfl (lv_at hl 0 rfl) ?_
        refine va_get (D := D) (ci := 3) (v := .ref (a 2)) (C := RX3) (T := TX3) (N := 13) hx hb hts inX3 hown hK hP 0 rfl rfl 1 (by decide) ln4 (fun _ h9 => h9) rfl dX3_ballast_79 ?_
        refine lv_iconst (v := (4 : Int32)) hx hb dX3_ballast_82 (by decide) ?_
        refine lv_iload_n hx hb dX3_ballast_83 rfl (lv_at hl 1 rfl) ?_
        refine lv_iadd hx hb dX3_ballast_84 ?_
        refine lv_iload hx hb dX3_ballast_85 (lv_at hl 6 rfl) ?_
        refine k_iast (w := (fun z => wMo cI a z)) hx hb hK hP hD hS 2 0 hf rfl rfl (fun _ => rfl) dX3_ballast_87 (fun z3 H locs hP hS hf => ?_)
        refine lv_aload_n hx hb dX3_ballast_88 rfl (lv_at hl 0 rfl) ?_
        refine lv_iload_n hx hb dX3_ballast_89 rfl (lv_at hl 2 rfl) ?_
        refine d_callV (As := [.int x2]) (rest := []) (w := (fun z => wMo cI a z)) (wc := (wMo cI a)) (put := (fun uq => uq)) (σ := z3) (τ0 := z3) ⟨hx, hb, hml, hown, hts⟩ hf (fun vq zq hq => mX3_apartThen l D cI cJ a H.size N z3 x2 (vq, zq) hq) (cwV 1 hts gX3_ballast_X3_apartThen rfl rfl rfl qX3_apartThen ⟨Nat.le_of_ble_eq_true rfl, Nat.le_of_ble_eq_true rfl⟩) hK hP hD hS hA ⟨hP, hD _, fun _ _ _ h => h⟩ 3 rfl rfl rfl rfl hl.1 rfl (Nat.le_of_ble_eq_true rfl) dX3_ballast_90 ⟨Nat.le_refl _, Nat.le_refl _⟩ (fun v5 z4 H locs hP hS hf => ?_)
        refine lv_istore (lv' := [(8, .int v5), (0, .ref (a 0)), (1, .int x1), (2, .int x2), (3, .int x3), (5, .int x5), (6, .int x6), (7, .int x7)]) hx hb dX3_ballast_93 hl (by decide) rfl (fun ls hl => ?_)
        refine lv_iload hx hb dX3_ballast_95 (lv_at hl 0 rfl) ?_
        refine lv_iload hx hb dX3_ballast_97 (lv_at hl 6 rfl) ?_
        refine k_icmp_lt (tgt := 105) hx hb dX3_ballast_99 (by decide) hf (fun hf => ?_) (fun hf => ?_)
        · refine lv_iload hx hb dX3_ballast_105 (lv_at hl 7 rfl) ?_
          refine lv_istore (lv' := [(5, .int x7), (8, .int v5), (0, .ref (a 0)), (1, .int x1), (2, .int x2), (3, .int x3), (6, .int x6), (7, .int x7)]) hx hb dX3_ballast_107 hl (by decide) rfl (fun ls hl => ?_)
          refine lv_iload hx hb dX3_ballast_109 (lv_at hl 1 rfl) ?_
          refine lv_istore (lv' := [(6, .int v5), (5, .int x7), (8, .int v5), (0, .ref (a 0)), (1, .int x1), (2, .int x2), (3, .int x3), (7, .int x7)]) hx hb dX3_ballast_111 hl (by decide) rfl (fun ls hl => ?_)
          exact b113 (fX3_ballast_L60 N n) ih z4 x1 x2 x3 x7 v5 x7 H locs ls hP hS (lv_sub hl [3, 4, 5, 6, 1, 0, 7] rfl) hf
        · refine lv_goto (tgt := 113) hx hb dX3_ballast_102 (by decide) ?_
          exact b113 (fX3_ballast_L60 N n) ih z4 x1 x2 x3 x5 x6 x7 H locs ls hP hS (lv_sub hl [1, 2, 3, 4, 5, 6, 7] rfl) hf
  have b38 : ∀  (z : St) (x1 : Int32) (x2 : Int32) (x3 : Int32) (x4 : Int32) (H : Heap) (locs : List Loc) (ls : Array Slot), va_P D vwCl (wMo cI a z) H → va_S A s.heap H locs → lv_has ls 9 [(0, .ref (a 0)), (1, .int x1), (2, .int x2), (3, .int x3), (4, .int x4)] → fX3_ballast_L38 N z x1 x2 x3 x4 = some r → W p l e rmX3_ballast s m ([.ref (a 0), .int p1, .int p2, .int p3] : List Value).toArray below meth c H locs 0 0 (MQ below (WQi sz D (wMo cI a σ) (wMo cI a (r.2)) r.1) ([.ref (a 0), .int p1, .int p2, .int p3] : List Value).toArray s 0 0 A) (F0 m 38 ls []) := by
    intro  z x1 x2 x3 x4 H locs ls hP hS hl hf
    unfold fX3_ballast_L38 at hf
    refine lv_iload hx hb dX3_ballast_38 (lv_at hl 4 rfl) ?_
    refine k_if_eq (tgt := 50) hx hb dX3_ballast_40 (by decide) hf (fun hf => ?_) (fun hf => ?_)
    · refine lv_iconst (v := (0 : Int32)) hx hb dX3_ballast_50 (by decide) ?_
      refine lv_istore (lv' := [(5, .int (0 : Int32)), (0, .ref (a 0)), (1, .int x1), (2, .int x2), (3, .int x3), (4, .int x4)]) hx hb dX3_ballast_51 hl (by decide) rfl (fun ls hl => ?_)
      refine lv_ldc (v := (1000000000 : Int32)) hx hb hown ln1 dX3_ballast_53 ?_
      refine lv_istore (lv' := [(6, .int (1000000000 : Int32)), (5, .int (0 : Int32)), (0, .ref (a 0)), (1, .int x1), (2, .int x2), (3, .int x3), (4, .int x4)]) hx hb dX3_ballast_55 hl (by decide) rfl (fun ls hl => ?_)
      refine lv_iconst (v := (0 : Int32)) hx hb dX3_ballast_57 (by decide) ?_
      refine lv_istore (lv' := [(7, .int (0 : Int32)), (6, .int (1000000000 : Int32)), (5, .int (0 : Int32)), (0, .ref (a 0)), (1, .int x1), (2, .int x2), (3, .int x3), (4, .int x4)]) hx hb dX3_ballast_58 hl (by decide) rfl (fun ls hl => ?_)
      exact b60  N z x1 x2 x3 (0 : Int32) (1000000000 : Int32) (0 : Int32) H locs ls hP hS (lv_sub hl [3, 4, 5, 6, 2, 1, 0] rfl) hf
    · refine lv_aload_n hx hb dX3_ballast_43 rfl (lv_at hl 0 rfl) ?_
      refine lv_iload hx hb dX3_ballast_44 (lv_at hl 4 rfl) ?_
      refine d_callV (As := [.int x4]) (rest := []) (w := (fun z => wMo cI a z)) (wc := (wMo cI a)) (put := (fun uq => uq)) (σ := z) (τ0 := z) ⟨hx, hb, hml, hown, hts⟩ hf (fun vq zq hq => mX3_no l D cI cJ a H.size N z x4 (vq, zq) hq) (cwV 1 hts gX3_ballast_X3_no rfl rfl rfl qX3_no ⟨Nat.le_of_ble_eq_true rfl, Nat.le_of_ble_eq_true rfl⟩) hK hP hD hS hA ⟨hP, hD _, fun _ _ _ h => h⟩ 3 rfl rfl rfl rfl hl.1 rfl (Nat.le_of_ble_eq_true rfl) dX3_ballast_46 ⟨Nat.le_refl _, Nat.le_refl _⟩ (fun v8 z7 H locs hP hS hf => ?_)
      exact W_iret (fun z => wMo cI a z) hx hb hr hlk hP hS hAe hf dX3_ballast_49
  have b18 : ∀  (z : St) (x1 : Int32) (x2 : Int32) (x3 : Int32) (y0 : Int32) (H : Heap) (locs : List Loc) (ls : Array Slot), va_P D vwCl (wMo cI a z) H → va_S A s.heap H locs → lv_has ls 9 [(0, .ref (a 0)), (1, .int x1), (2, .int x2), (3, .int x3)] → fX3_ballast_L18 N z x1 x2 x3 y0 = some r → W p l e rmX3_ballast s m ([.ref (a 0), .int p1, .int p2, .int p3] : List Value).toArray below meth c H locs 0 0 (MQ below (WQi sz D (wMo cI a σ) (wMo cI a (r.2)) r.1) ([.ref (a 0), .int p1, .int p2, .int p3] : List Value).toArray s 0 0 A) (F0 m 18 ls [.int y0]) := by
    intro  z x1 x2 x3 y0 H locs ls hP hS hl hf
    unfold fX3_ballast_L18 at hf
    refine lv_istore (lv' := [(4, .int y0), (0, .ref (a 0)), (1, .int x1), (2, .int x2), (3, .int x3)]) hx hb dX3_ballast_18 hl (by decide) rfl (fun ls hl => ?_)
    refine lv_iload hx hb dX3_ballast_20 (lv_at hl 0 rfl) ?_
    refine k_if_ne (tgt := 38) hx hb dX3_ballast_22 (by decide) hf (fun hf => ?_) (fun hf => ?_)
    · exact b38  z x1 x2 x3 y0 H locs ls hP hS (lv_sub hl [1, 2, 3, 4, 0] rfl) hf
    · refine lv_iload_n hx hb dX3_ballast_25 rfl (lv_at hl 4 rfl) ?_
      refine lv_iconst (v := (0 : Int32)) hx hb dX3_ballast_26 (by decide) ?_
      refine lv_iconst (v := (1 : Int32)) hx hb dX3_ballast_27 (by decide) ?_
      refine c_callS (As := [.int x3, .int (0 : Int32), .int (1 : Int32)]) (rest := []) ⟨hx, hb, hml, hown, hts⟩ hf (fun vq hq => mX3_isIn l D cI cJ H.size N x3 (0 : Int32) (1 : Int32) vq hq) (va_cwS 3 hts gX3_ballast_X3_isIn rfl rfl rfl qX3_isIn ⟨Nat.le_of_ble_eq_true rfl, Nat.le_of_ble_eq_true rfl⟩) hK hP hS hA va_P_nil rfl hl.1 rfl (Nat.le_of_ble_eq_true rfl) dX3_ballast_28 ⟨Nat.le_refl _, Nat.le_refl _⟩ (fun v9 H locs hP hS hf => ?_)
      refine k_if_ne (tgt := 38) hx hb dX3_ballast_31 (by decide) hf (fun hf => ?_) (fun hf => ?_)
      · exact b38  z x1 x2 x3 y0 H locs ls hP hS (lv_sub hl [1, 2, 3, 4, 0] rfl) hf
      · refine lv_bipush (v := (-2 : Int32)) hx hb dX3_ballast_34 (by decide) ?_
        refine lv_istore (lv' := [(4, .int (-2 : Int32)), (0, .ref (a 0)), (1, .int x1), (2, .int x2), (3, .int x3)]) hx hb dX3_ballast_36 hl (by decide) rfl (fun ls hl => ?_)
        exact b38  z x1 x2 x3 (-2 : Int32) H locs ls hP hS (lv_sub hl [1, 2, 3, 4, 0] rfl) hf
  unfold fX3_ballast at hf
  refine lv_iload_n hx hb dX3_ballast_0 rfl (lv_at hl 1 rfl) ?_
  refine c_callS (As := [.int p1]) (rest := []) ⟨hx, hb, hml, hown, hts⟩ hf (fun vq hq => mX3_isSide l D cI cJ s.heap.size N p1 vq hq) (va_cwS 1 hts gX3_ballast_X3_isSide rfl rfl rfl qX3_isSide ⟨Nat.le_of_ble_eq_true rfl, Nat.le_of_ble_eq_true rfl⟩) hK hP hS hA va_P_nil rfl hl.1 rfl (Nat.le_of_ble_eq_true rfl) dX3_ballast_1 ⟨Nat.le_refl _, Nat.le_refl _⟩ (fun v1 H locs hP hS hf => ?_)
  refine k_if_eq (tgt := 17) hx hb dX3_ballast_4 (by decide) hf (fun hf => ?_) (fun hf => ?_)
  · refine lv_iconst (v := (-1 : Int32)) hx hb dX3_ballast_17 (by decide) ?_
    exact b18  σ p1 p2 p3 (-1 : Int32) H locs ls hP hS (lv_sub hl [0, 1, 2, 3] rfl) hf
  · refine lv_iload_n hx hb dX3_ballast_7 rfl (lv_at hl 2 rfl) ?_
    refine lv_iconst (v := (0 : Int32)) hx hb dX3_ballast_8 (by decide) ?_
    refine lv_bipush (v := (30 : Int32)) hx hb dX3_ballast_9 (by decide) ?_
    refine c_callS (As := [.int p2, .int (0 : Int32), .int (30 : Int32)]) (rest := []) ⟨hx, hb, hml, hown, hts⟩ hf (fun vq hq => mX3_wrongBy l D cI cJ H.size N p2 (0 : Int32) (30 : Int32) vq hq) (va_cwS 3 hts gX3_ballast_X3_wrongBy rfl rfl rfl qX3_wrongBy ⟨Nat.le_of_ble_eq_true rfl, Nat.le_of_ble_eq_true rfl⟩) hK hP hS hA va_P_nil rfl hl.1 rfl (Nat.le_of_ble_eq_true rfl) dX3_ballast_11 ⟨Nat.le_refl _, Nat.le_refl _⟩ (fun v10 H locs hP hS hf => ?_)
    refine lv_goto (tgt := 18) hx hb dX3_ballast_14 (by decide) ?_
    exact b18  σ p1 p2 p3 v10 H locs ls hP hS (lv_sub hl [0, 1, 2, 3] rfl) hf
def fX3_mustWeigh_L43 (N : Nat)  : Nat → St → Int32 → Int32 → Int32 → Int32 → Option (Int32 × St)
  | 0, _, _, _, _, _ => none
  | n + 1, z, x1, x2, x3, x5 =>
    if (10 : Int32) ≤ x5 then some ((-9 : Int32), z)
    else by_ (fX3_copies N (sb [1, 2] z)) (fun uq => pb [1, 2] uq z) (fun z2 =>
    bo (fX3_of N x1 (1 : Int32)) (fun v3 =>
    bo (wrI z2 2 38 v3 x5) (fun z4 =>
    by_ (fX3_daysOn N (sb [2] z4) x3) (fun uq => pb [2] uq z4) (fun z5 =>
    bo (fX3_isAtDoor N (sb [2] z5) x2) (fun v6 =>
    if v6 = 0 then lt_ (x5 + (1 : Int32) : Int32) (fun v7 =>
    (fX3_mustWeigh_L43 N n) z5 x1 x2 x3 v7)
    else some (x5, z5))))))
def fX3_mustWeigh_L26 (N : Nat)  (z : St) (x1 : Int32) (x2 : Int32) (x3 : Int32) (y0 : Int32) : Option (Int32 × St) :=
    if y0 = 0 then fX3_mustWeigh_L43 N  N z x1 x2 x3 (0 : Int32)
    else bx (fX3_no N z y0) (fun uq => uq) (fun v9 z8 =>
    some (v9, z8))
def fX3_mustWeigh_L25 (N : Nat)  (z : St) (x1 : Int32) (x2 : Int32) (x3 : Int32) : Option (Int32 × St) :=
    fX3_mustWeigh_L26 N  z x1 x2 x3 (-1 : Int32)
def fX3_mustWeigh (N : Nat) (σ : St) (p1 : Int32) (p2 : Int32) (p3 : Int32) : Option (Int32 × St) :=
    bo (fX3_isThing N σ p1) (fun v1 =>
    if v1 = 0 then fX3_mustWeigh_L25 N  σ p1 p2 p3
    else bo (fX3_isSide N p2) (fun v10 =>
    if v10 = 0 then fX3_mustWeigh_L25 N  σ p1 p2 p3
    else bo (fX3_wrongBy N p3 (0 : Int32) (30 : Int32)) (fun v11 =>
    fX3_mustWeigh_L26 N  σ p1 p2 p3 v11)))
abbrev rmX3_mustWeigh : Room := { frames := 8, cells := 0, slots := 0, locals := 178 }
theorem qX3_mustWeigh : yX3_mustWeigh.cls = RX3 ∧ yX3_mustWeigh.cls ≠ "java/lang/invoke/MethodHandle" ∧ yX3_mustWeigh.cls ≠ "java/lang/invoke/VarHandle" ∧ (parseMethodDescriptor yX3_mustWeigh.desc).map (fun d => d.parameters.length) = some 3 := by decide +kernel
set_option maxHeartbeats 400000 in
set_option maxRecDepth 100000 in
theorem mX3_mustWeigh (l : Launch) (D : va_G) (cI cJ : ClassId) (a : Nat → Nat) (sz N : Nat) (σ : St) (p1 : Int32) (p2 : Int32) (p3 : Int32) (r : (Int32 × St)) (hf : fX3_mustWeigh N σ p1 p2 p3 = some r) : Met l yX3_mustWeigh wsX3_mustWeigh rmX3_mustWeigh (WPre ([.ref (a 0), .int p1, .int p2, .int p3] : List Value) sz D (tyIJ cI cJ) (wMo cI a σ)) (WQi sz D (wMo cI a σ) (wMo cI a (r.2)) r.1) 0 0 (va_A (wMo cI a σ) sz) := by
  refine W_start (cc := cX3_mustWeigh) (maxL := 6) (ret := (some .int)) (by decide) rfl (Nat.le_of_ble_eq_true rfl) (fun p e s m below meth c ls A hx hb hr hml hown hts hlk hP hK hS hA hD0 hAe hl => ?_)
  have hD : ∀ z, va_D A ((fun z => wMo cI a z) z) := fun z => hD0.ad rfl
  have hown : s.vm.findClass RX3 = some m.cls := hown
  have hl : lv_has ls 6 [(0, .ref (a 0)), (1, .int p1), (2, .int p2), (3, .int p3)] := hl
  have ln1 := hts (Cond.fieldLink RX3 9 "HoistsAreSharedModel" "s" "[I") (List.mem_of_getElem? (i := 1) rfl)
  have inX3 : ∀ w ∈ u_ws RX3 TX3 13, w ∈ wsX3_mustWeigh := fun _ h => List.mem_cons_of_mem _ (List.mem_append_right _ h)
  have ln3 := hts (Cond.fieldLink RX3 13 "HoistsAreSharedModel" "m" "[I") (List.mem_of_getElem? (i := 2) rfl)
  have b43 : ∀  (n : Nat) (z : St) (x1 : Int32) (x2 : Int32) (x3 : Int32) (x5 : Int32) (H : Heap) (locs : List Loc) (ls : Array Slot), va_P D vwCl (wMo cI a z) H → va_S A s.heap H locs → lv_has ls 6 [(0, .ref (a 0)), (1, .int x1), (2, .int x2), (3, .int x3), (5, .int x5)] → fX3_mustWeigh_L43 N n z x1 x2 x3 x5 = some r → W p l e rmX3_mustWeigh s m ([.ref (a 0), .int p1, .int p2, .int p3] : List Value).toArray below meth c H locs 0 0 (MQ below (WQi sz D (wMo cI a σ) (wMo cI a (r.2)) r.1) ([.ref (a 0), .int p1, .int p2, .int p3] : List Value).toArray s 0 0 A) (F0 m 43 ls []) := by
    intro n
    induction n with
    | zero => intro z x1 x2 x3 x5 H locs ls hP hS hl hf; cases hf
    | succ n ih =>
      intro z x1 x2 x3 x5 H locs ls hP hS hl hf
      rw [fX3_mustWeigh_L43] at hf
      refine lv_iload hx hb dX3_mustWeigh_43 (lv_at hl 4 rfl) ?_
      refine lv_bipush (v := (10 : Int32)) hx hb dX3_mustWeigh_45 (by decide) ?_
      refine k_icmp_ge (tgt := 101) hx hb dX3_mustWeigh_47 (by decide) hf (fun hf => ?_) (fun hf => ?_)
      · refine lv_bipush (v := (-9 : Int32)) hx hb dX3_mustWeigh_101 (by decide) ?_
        exact W_iret (fun z => wMo cI a z) hx hb hr hlk hP hS hAe hf dX3_mustWeigh_103
      · refine lv_aload_n hx hb dX3_mustWeigh_50 rfl (lv_at hl 0 rfl) ?_
        refine va_get (D := D) (ci := 3) (v := .ref (a 1)) (C := RX3) (T := TX3) (N := 13) hx hb hts inX3 hown hK hP 0 rfl rfl 0 (by decide) ln1 (fun _ h9 => h9) rfl dX3_mustWeigh_51 ?_
        refine lv_aload_n hx hb dX3_mustWeigh_54 rfl (lv_at hl 0 rfl) ?_
        refine va_get (D := D) (ci := 3) (v := .ref (a 2)) (C := RX3) (T := TX3) (N := 13) hx hb hts inX3 hown hK hP 0 rfl rfl 1 (by decide) ln3 (fun _ h9 => h9) rfl dX3_mustWeigh_55 ?_
        refine d_callSv (As := [.ref ((sb [1, 2] a) 0), .ref ((sb [1, 2] a) 1)]) (rest := []) (w := (fun z => wMo cI a z)) (wc := (wAr2 cI (sb [1, 2] a))) (put := (fun uq => pb [1, 2] uq z)) (σ := z) (τ0 := (sb [1, 2] z)) ⟨hx, hb, hml, hown, hts⟩ hf (fun zq hq => mX3_copies l D cI cJ (sb [1, 2] a) H.size N (sb [1, 2] z) zq hq) (va_cwS 2 hts gX3_mustWeigh_X3_copies rfl rfl rfl qX3_copies ⟨Nat.le_of_ble_eq_true rfl, Nat.le_of_ble_eq_true rfl⟩) hK hP hD hS hA (cmb_Mo_Ar2_1_2 D cI a z hP (hD _)) rfl hl.1 rfl (Nat.le_of_ble_eq_true rfl) dX3_mustWeigh_58 ⟨Nat.le_refl _, Nat.le_refl _⟩ (fun z2 H locs hP hS hf => ?_)
        refine lv_aload_n hx hb dX3_mustWeigh_61 rfl (lv_at hl 0 rfl) ?_
        refine va_get (D := D) (ci := 3) (v := .ref (a 2)) (C := RX3) (T := TX3) (N := 13) hx hb hts inX3 hown hK hP 0 rfl rfl 1 (by decide) ln3 (fun _ h9 => h9) rfl dX3_mustWeigh_62 ?_
        refine lv_iload_n hx hb dX3_mustWeigh_65 rfl (lv_at hl 1 rfl) ?_
        refine lv_iconst (v := (1 : Int32)) hx hb dX3_mustWeigh_66 (by decide) ?_
        refine c_callS (As := [.int x1, .int (1 : Int32)]) (rest := [.ref (a 2)]) ⟨hx, hb, hml, hown, hts⟩ hf (fun vq hq => mX3_of l D cI cJ H.size N x1 (1 : Int32) vq hq) (va_cwS 2 hts gX3_mustWeigh_X3_of rfl rfl rfl qX3_of ⟨Nat.le_of_ble_eq_true rfl, Nat.le_of_ble_eq_true rfl⟩) hK hP hS hA va_P_nil rfl hl.1 rfl (Nat.le_of_ble_eq_true rfl) dX3_mustWeigh_67 ⟨Nat.le_refl _, Nat.le_refl _⟩ (fun v3 H locs hP hS hf => ?_)
        refine lv_iload hx hb dX3_mustWeigh_70 (lv_at hl 4 rfl) ?_
        refine k_iast (w := (fun z => wMo cI a z)) hx hb hK hP hD hS 2 0 hf rfl rfl (fun _ => rfl) dX3_mustWeigh_72 (fun z4 H locs hP hS hf => ?_)
        refine lv_aload_n hx hb dX3_mustWeigh_73 rfl (lv_at hl 0 rfl) ?_
        refine va_get (D := D) (ci := 3) (v := .ref (a 2)) (C := RX3) (T := TX3) (N := 13) hx hb hts inX3 hown hK hP 0 rfl rfl 1 (by decide) ln3 (fun _ h9 => h9) rfl dX3_mustWeigh_74 ?_
        refine lv_iload_n hx hb dX3_mustWeigh_77 rfl (lv_at hl 3 rfl) ?_
        refine d_callSv (As := [.ref ((sb [2] a) 0), .int x3]) (rest := []) (w := (fun z => wMo cI a z)) (wc := (wAr cI (sb [2] a))) (put := (fun uq => pb [2] uq z4)) (σ := z4) (τ0 := (sb [2] z4)) ⟨hx, hb, hml, hown, hts⟩ hf (fun zq hq => mX3_daysOn l D cI cJ (sb [2] a) H.size N (sb [2] z4) x3 zq hq) (va_cwS 2 hts gX3_mustWeigh_X3_daysOn rfl rfl rfl qX3_daysOn ⟨Nat.le_of_ble_eq_true rfl, Nat.le_of_ble_eq_true rfl⟩) hK hP hD hS hA (cmb_Mo_Ar_2 D cI a z4 hP (hD _)) rfl hl.1 rfl (Nat.le_of_ble_eq_true rfl) dX3_mustWeigh_78 ⟨Nat.le_refl _, Nat.le_refl _⟩ (fun z5 H locs hP hS hf => ?_)
        refine lv_aload_n hx hb dX3_mustWeigh_81 rfl (lv_at hl 0 rfl) ?_
        refine va_get (D := D) (ci := 3) (v := .ref (a 2)) (C := RX3) (T := TX3) (N := 13) hx hb hts inX3 hown hK hP 0 rfl rfl 1 (by decide) ln3 (fun _ h9 => h9) rfl dX3_mustWeigh_82 ?_
        refine lv_iload_n hx hb dX3_mustWeigh_85 rfl (lv_at hl 2 rfl) ?_
        refine c_callS (As := [.ref ((sb [2] a) 0), .int x2]) (rest := []) ⟨hx, hb, hml, hown, hts⟩ hf (fun vq hq => mX3_isAtDoor l D cI cJ (sb [2] a) H.size N (sb [2] z5) x2 vq hq) (va_cwS 2 hts gX3_mustWeigh_X3_isAtDoor rfl rfl rfl qX3_isAtDoor ⟨Nat.le_of_ble_eq_true rfl, Nat.le_of_ble_eq_true rfl⟩) hK hP hS hA (cmr_Mo_Ar_2 D cI a z5 hP) rfl hl.1 rfl (Nat.le_of_ble_eq_true rfl) dX3_mustWeigh_86 ⟨Nat.le_refl _, Nat.le_refl _⟩ (fun v6 H locs hP hS hf => ?_)
        refine k_if_eq (tgt := 95) hx hb dX3_mustWeigh_89 (by decide) hf (fun hf => ?_) (fun hf => ?_)
        · refine k_iinc (d := (1 : Int32)) (lv' := fun v7 => [(5, .int v7), (0, .ref (a 0)), (1, .int x1), (2, .int x2), (3, .int x3)]) hx hb dX3_mustWeigh_95 hl (k := 4) rfl (by decide) (by decide) (fun _ => rfl) hf (fun v7 ls hl hf => ?_)
          refine lv_goto (tgt := 43) hx hb dX3_mustWeigh_98 (by decide) ?_
          exact ih z5 x1 x2 x3 v7 H locs ls hP hS (lv_sub hl [1, 2, 3, 4, 0] rfl) hf
        · refine lv_iload hx hb dX3_mustWeigh_92 (lv_at hl 4 rfl) ?_
          exact W_iret (fun z => wMo cI a z) hx hb hr hlk hP hS hAe hf dX3_mustWeigh_94
  have b26 : ∀  (z : St) (x1 : Int32) (x2 : Int32) (x3 : Int32) (y0 : Int32) (H : Heap) (locs : List Loc) (ls : Array Slot), va_P D vwCl (wMo cI a z) H → va_S A s.heap H locs → lv_has ls 6 [(0, .ref (a 0)), (1, .int x1), (2, .int x2), (3, .int x3)] → fX3_mustWeigh_L26 N z x1 x2 x3 y0 = some r → W p l e rmX3_mustWeigh s m ([.ref (a 0), .int p1, .int p2, .int p3] : List Value).toArray below meth c H locs 0 0 (MQ below (WQi sz D (wMo cI a σ) (wMo cI a (r.2)) r.1) ([.ref (a 0), .int p1, .int p2, .int p3] : List Value).toArray s 0 0 A) (F0 m 26 ls [.int y0]) := by
    intro  z x1 x2 x3 y0 H locs ls hP hS hl hf
    unfold fX3_mustWeigh_L26 at hf
    refine lv_istore (lv' := [(4, .int y0), (0, .ref (a 0)), (1, .int x1), (2, .int x2), (3, .int x3)]) hx hb dX3_mustWeigh_26 hl (by decide) rfl (fun ls hl => ?_)
    refine lv_iload hx hb dX3_mustWeigh_28 (lv_at hl 0 rfl) ?_
    refine k_if_eq (tgt := 40) hx hb dX3_mustWeigh_30 (by decide) hf (fun hf => ?_) (fun hf => ?_)
    · refine lv_iconst (v := (0 : Int32)) hx hb dX3_mustWeigh_40 (by decide) ?_
      refine lv_istore (lv' := [(5, .int (0 : Int32)), (4, .int y0), (0, .ref (a 0)), (1, .int x1), (2, .int x2), (3, .int x3)]) hx hb dX3_mustWeigh_41 hl (by decide) rfl (fun ls hl => ?_)
      exact b43  N z x1 x2 x3 (0 : Int32) H locs ls hP hS (lv_sub hl [2, 3, 4, 5, 0] rfl) hf
    · refine lv_aload_n hx hb dX3_mustWeigh_33 rfl (lv_at hl 1 rfl) ?_
      refine lv_iload hx hb dX3_mustWeigh_34 (lv_at hl 0 rfl) ?_
      refine d_callV (As := [.int y0]) (rest := []) (w := (fun z => wMo cI a z)) (wc := (wMo cI a)) (put := (fun uq => uq)) (σ := z) (τ0 := z) ⟨hx, hb, hml, hown, hts⟩ hf (fun vq zq hq => mX3_no l D cI cJ a H.size N z y0 (vq, zq) hq) (cwV 1 hts gX3_mustWeigh_X3_no rfl rfl rfl qX3_no ⟨Nat.le_of_ble_eq_true rfl, Nat.le_of_ble_eq_true rfl⟩) hK hP hD hS hA ⟨hP, hD _, fun _ _ _ h => h⟩ 3 rfl rfl rfl rfl hl.1 rfl (Nat.le_of_ble_eq_true rfl) dX3_mustWeigh_36 ⟨Nat.le_refl _, Nat.le_refl _⟩ (fun v9 z8 H locs hP hS hf => ?_)
      exact W_iret (fun z => wMo cI a z) hx hb hr hlk hP hS hAe hf dX3_mustWeigh_39
  have b25 : ∀  (z : St) (x1 : Int32) (x2 : Int32) (x3 : Int32) (H : Heap) (locs : List Loc) (ls : Array Slot), va_P D vwCl (wMo cI a z) H → va_S A s.heap H locs → lv_has ls 6 [(0, .ref (a 0)), (1, .int x1), (2, .int x2), (3, .int x3)] → fX3_mustWeigh_L25 N z x1 x2 x3 = some r → W p l e rmX3_mustWeigh s m ([.ref (a 0), .int p1, .int p2, .int p3] : List Value).toArray below meth c H locs 0 0 (MQ below (WQi sz D (wMo cI a σ) (wMo cI a (r.2)) r.1) ([.ref (a 0), .int p1, .int p2, .int p3] : List Value).toArray s 0 0 A) (F0 m 25 ls []) := by
    intro  z x1 x2 x3 H locs ls hP hS hl hf
    unfold fX3_mustWeigh_L25 at hf
    refine lv_iconst (v := (-1 : Int32)) hx hb dX3_mustWeigh_25 (by decide) ?_
    exact b26  z x1 x2 x3 (-1 : Int32) H locs ls hP hS (lv_sub hl [0, 1, 2, 3] rfl) hf
  unfold fX3_mustWeigh at hf
  refine lv_aload_n hx hb dX3_mustWeigh_0 rfl (lv_at hl 0 rfl) ?_
  refine lv_iload_n hx hb dX3_mustWeigh_1 rfl (lv_at hl 1 rfl) ?_
  refine c_callV (As := [.int p1]) (rest := []) ⟨hx, hb, hml, hown, hts⟩ hf (fun vq hq => mX3_isThing l D cI cJ a s.heap.size N σ p1 vq hq) (cwV 1 hts gX3_mustWeigh_X3_isThing rfl rfl rfl qX3_isThing ⟨Nat.le_of_ble_eq_true rfl, Nat.le_of_ble_eq_true rfl⟩) hK hP hS hA hP 3 rfl rfl rfl rfl hl.1 rfl (Nat.le_of_ble_eq_true rfl) dX3_mustWeigh_2 ⟨Nat.le_refl _, Nat.le_refl _⟩ (fun v1 H locs hP hS hf => ?_)
  refine k_if_eq (tgt := 25) hx hb dX3_mustWeigh_5 (by decide) hf (fun hf => ?_) (fun hf => ?_)
  · exact b25  σ p1 p2 p3 H locs ls hP hS (lv_sub hl [0, 1, 2, 3] rfl) hf
  · refine lv_iload_n hx hb dX3_mustWeigh_8 rfl (lv_at hl 2 rfl) ?_
    refine c_callS (As := [.int p2]) (rest := []) ⟨hx, hb, hml, hown, hts⟩ hf (fun vq hq => mX3_isSide l D cI cJ H.size N p2 vq hq) (va_cwS 1 hts gX3_mustWeigh_X3_isSide rfl rfl rfl qX3_isSide ⟨Nat.le_of_ble_eq_true rfl, Nat.le_of_ble_eq_true rfl⟩) hK hP hS hA va_P_nil rfl hl.1 rfl (Nat.le_of_ble_eq_true rfl) dX3_mustWeigh_9 ⟨Nat.le_refl _, Nat.le_refl _⟩ (fun v10 H locs hP hS hf => ?_)
    refine k_if_eq (tgt := 25) hx hb dX3_mustWeigh_12 (by decide) hf (fun hf => ?_) (fun hf => ?_)
    · exact b25  σ p1 p2 p3 H locs ls hP hS (lv_sub hl [0, 1, 2, 3] rfl) hf
    · refine lv_iload_n hx hb dX3_mustWeigh_15 rfl (lv_at hl 3 rfl) ?_
      refine lv_iconst (v := (0 : Int32)) hx hb dX3_mustWeigh_16 (by decide) ?_
      refine lv_bipush (v := (30 : Int32)) hx hb dX3_mustWeigh_17 (by decide) ?_
      refine c_callS (As := [.int p3, .int (0 : Int32), .int (30 : Int32)]) (rest := []) ⟨hx, hb, hml, hown, hts⟩ hf (fun vq hq => mX3_wrongBy l D cI cJ H.size N p3 (0 : Int32) (30 : Int32) vq hq) (va_cwS 3 hts gX3_mustWeigh_X3_wrongBy rfl rfl rfl qX3_wrongBy ⟨Nat.le_of_ble_eq_true rfl, Nat.le_of_ble_eq_true rfl⟩) hK hP hS hA va_P_nil rfl hl.1 rfl (Nat.le_of_ble_eq_true rfl) dX3_mustWeigh_19 ⟨Nat.le_refl _, Nat.le_refl _⟩ (fun v11 H locs hP hS hf => ?_)
      refine lv_goto (tgt := 26) hx hb dX3_mustWeigh_22 (by decide) ?_
      exact b26  σ p1 p2 p3 v11 H locs ls hP hS (lv_sub hl [0, 1, 2, 3] rfl) hf
