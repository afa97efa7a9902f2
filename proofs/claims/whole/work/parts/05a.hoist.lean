def fX0_copy_L59 (N : Nat)  : Nat → St → Int32 → Option St
  | 0, _, _ => none
  | n + 1, z, x2 =>
    if (8 : Int32) ≤ x2 then some z
    else bo (rdI z 8 8 x2) (fun v5 =>
    bo (wrI z 2 8 x2 v5) (fun z6 =>
    bo (rdI z6 9 8 x2) (fun v7 =>
    bo (wrI z6 3 8 x2 v7) (fun z8 =>
    bo (rdI z8 10 8 x2) (fun v9 =>
    bo (wrI z8 4 8 x2 v9) (fun z10 =>
    bo (rdI z10 11 8 x2) (fun v11 =>
    bo (wrI z10 5 8 x2 v11) (fun z12 =>
    lt_ (x2 + (1 : Int32) : Int32) (fun v13 =>
    (fX0_copy_L59 N n) z12 v13)))))))))
def fX0_copy_L34 (N : Nat)  : Nat → St → Int32 → Option St
  | 0, _, _ => none
  | n + 1, z, x2 =>
    if (2 : Int32) ≤ x2 then fX0_copy_L59 N  N z (0 : Int32)
    else bo (rdI z 7 2 x2) (fun v14 =>
    bo (wrI z 1 2 x2 v14) (fun z15 =>
    lt_ (x2 + (1 : Int32) : Int32) (fun v16 =>
    (fX0_copy_L34 N n) z15 v16)))
def fX0_copy (N : Nat) (σ : St)  : Option St :=
    lt_ (up2 σ 0 0 (σ 6 0)) (fun z1 =>
    lt_ (up2 z1 0 1 (z1 6 1)) (fun z2 =>
    lt_ (up2 z2 0 2 (z2 6 2)) (fun z3 =>
    lt_ (up2 z3 0 3 (z3 6 3)) (fun z4 =>
    fX0_copy_L34 N  N z4 (0 : Int32)))))
abbrev rmX0_copy : Room := { frames := 0, cells := 0, slots := 0, locals := 0 }
theorem qX0_copy : yX0_copy.cls = RX0 ∧ yX0_copy.cls ≠ "java/lang/invoke/MethodHandle" ∧ yX0_copy.cls ≠ "java/lang/invoke/VarHandle" ∧ (parseMethodDescriptor yX0_copy.desc).map (fun d => d.parameters.length) = some 1 := by decide +kernel
set_option maxHeartbeats 400000 in
set_option maxRecDepth 100000 in
theorem mX0_copy (l : Launch) (D : va_G) (cI cJ : ClassId) (a : Nat → Nat) (sz N : Nat) (σ : St)  (r : St) (hf : fX0_copy N σ = some r) : Met l yX0_copy wsX0_copy rmX0_copy (WPre ([.ref (a 0), .ref (a 6)] : List Value) sz D (tyIJ cI cJ) (wHo2 cI a σ)) (WQv sz D (wHo2 cI a σ) (wHo2 cI a r)) 0 0 (va_A (wHo2 cI a σ) sz) := by
  refine W_start (cc := cX0_copy) (maxL := 3) (ret := none) (by decide) rfl (Nat.le_of_ble_eq_true rfl) (fun p e s m below meth c ls A hx hb hr hml hown hts hlk hP hK hS hA hD0 hAe hl => ?_)
  have hD : ∀ z, va_D A ((fun z => wHo2 cI a z) z) := fun z => hD0.ad rfl
  have hown : s.vm.findClass RX0 = some m.cls := hown
  have hl : lv_has ls 3 [(0, .ref (a 0)), (1, .ref (a 6))] := hl
  have ln1 := hts (Cond.fieldLink RX0 11 "HoistsAreShared$Hoist" "floor" "I") (List.mem_of_getElem? (i := 1) rfl)
  have inX0 : ∀ w ∈ u_ws RX0 TX0 9, w ∈ wsX0_copy := fun _ h => List.mem_cons_of_mem _ (List.mem_append_right _ h)
  have ln3 := hts (Cond.fieldLink RX0 16 "HoistsAreShared$Hoist" "doorBits" "I") (List.mem_of_getElem? (i := 2) rfl)
  have ln4 := hts (Cond.fieldLink RX0 19 "HoistsAreShared$Hoist" "day" "I") (List.mem_of_getElem? (i := 3) rfl)
  have ln5 := hts (Cond.fieldLink RX0 22 "HoistsAreShared$Hoist" "things" "I") (List.mem_of_getElem? (i := 4) rfl)
  have ln6 := hts (Cond.fieldLink RX0 29 "HoistsAreShared$Hoist" "kinds" "[I") (List.mem_of_getElem? (i := 6) rfl)
  have ln7 := hts (Cond.fieldLink RX0 32 "HoistsAreShared$Hoist" "figures" "[I") (List.mem_of_getElem? (i := 7) rfl)
  have ln8 := hts (Cond.fieldLink RX0 35 "HoistsAreShared$Hoist" "places" "[I") (List.mem_of_getElem? (i := 8) rfl)
  have ln9 := hts (Cond.fieldLink RX0 38 "HoistsAreShared$Hoist" "sinces" "[I") (List.mem_of_getElem? (i := 9) rfl)
  have ln10 := hts (Cond.fieldLink RX0 25 "HoistsAreShared$Hoist" "ballasts" "[I") (List.mem_of_getElem? (i := 5) rfl)
  have b59 : ∀  (n : Nat) (z : St) (x2 : Int32) (H : Heap) (locs : List Loc) (ls : Array Slot), va_P D vwCl (wHo2 cI a z) H → va_S A s.heap H locs → lv_has ls 3 [(0, .ref (a 0)), (1, .ref (a 6)), (2, .int x2)] → fX0_copy_L59 N n z x2 = some r → W p l e rmX0_copy s m ([.ref (a 0), .ref (a 6)] : List Value).toArray below meth c H locs 0 0 (MQ below (WQv sz D (wHo2 cI a σ) (wHo2 cI a r)) ([.ref (a 0), .ref (a 6)] : List Value).toArray s 0 0 A) (F0 m 59 ls []) := by
    intro n
    induction n with
    | zero => intro z x2 H locs ls hP hS hl hf; cases hf
    | succ n ih =>
      intro z x2 H locs ls hP hS hl hf
      rw [fX0_copy_L59] at hf
      refine lv_iload_n hx hb dX0_copy_59 rfl (lv_at hl 2 rfl) ?_
      refine lv_bipush (v := (8 : Int32)) hx hb dX0_copy_60 (by decide) ?_
      refine k_icmp_ge (tgt := 119) hx hb dX0_copy_62 (by decide) hf (fun hf => ?_) (fun hf => ?_)
      · exact W_vret (fun z => wHo2 cI a z) hx hb hr hlk hP hS hAe hf dX0_copy_119
      · refine lv_aload_n hx hb dX0_copy_65 rfl (lv_at hl 0 rfl) ?_
        refine va_get (D := D) (ci := 0) (v := .ref (a 2)) (C := RX0) (T := TX0) (N := 9) hx hb hts inX0 hown hK hP 0 rfl rfl 5 (by decide) ln6 (fun _ h9 => h9) rfl dX0_copy_66 ?_
        refine lv_iload_n hx hb dX0_copy_69 rfl (lv_at hl 2 rfl) ?_
        refine lv_aload_n hx hb dX0_copy_70 rfl (lv_at hl 1 rfl) ?_
        refine va_get (D := D) (ci := 0) (v := .ref (a 8)) (C := RX0) (T := TX0) (N := 9) hx hb hts inX0 hown hK hP 6 rfl rfl 5 (by decide) ln6 (fun _ h9 => h9) rfl dX0_copy_71 ?_
        refine lv_iload_n hx hb dX0_copy_74 rfl (lv_at hl 2 rfl) ?_
        refine k_iald hx hb hK hP 8 0 hf rfl rfl dX0_copy_75 (fun v5 hf => ?_)
        refine k_iast (w := (fun z => wHo2 cI a z)) hx hb hK hP hD hS 2 0 hf rfl rfl (fun _ => rfl) dX0_copy_76 (fun z6 H locs hP hS hf => ?_)
        refine lv_aload_n hx hb dX0_copy_77 rfl (lv_at hl 0 rfl) ?_
        refine va_get (D := D) (ci := 0) (v := .ref (a 3)) (C := RX0) (T := TX0) (N := 9) hx hb hts inX0 hown hK hP 0 rfl rfl 6 (by decide) ln7 (fun _ h9 => h9) rfl dX0_copy_78 ?_
        refine lv_iload_n hx hb dX0_copy_81 rfl (lv_at hl 2 rfl) ?_
        refine lv_aload_n hx hb dX0_copy_82 rfl (lv_at hl 1 rfl) ?_
        refine va_get (D := D) (ci := 0) (v := .ref (a 9)) (C := RX0) (T := TX0) (N := 9) hx hb hts inX0 hown hK hP 6 rfl rfl 6 (by decide) ln7 (fun _ h9 => h9) rfl dX0_copy_83 ?_
        refine lv_iload_n hx hb dX0_copy_86 rfl (lv_at hl 2 rfl) ?_
        refine k_iald hx hb hK hP 9 0 hf rfl rfl dX0_copy_87 (fun v7 hf => ?_)
        refine k_iast (w := (fun z => wHo2 cI a z)) hx hb hK hP hD hS 3 0 hf rfl rfl (fun _ => rfl) dX0_copy_88 (fun z8 H locs hP hS hf => ?_)
        refine lv_aload_n hx hb dX0_copy_89 rfl (lv_at hl 0 rfl) ?_
        refine va_get (D := D) (ci := 0) (v := .ref (a 4)) (C := RX0) (T := TX0) (N := 9) hx hb hts inX0 hown hK hP 0 rfl rfl 7 (by decide) ln8 (fun _ h9 => h9) rfl dX0_copy_90 ?_
        refine lv_iload_n hx hb dX0_copy_93 rfl (lv_at hl 2 rfl) ?_
        refine lv_aload_n hx hb dX0_copy_94 rfl (lv_at hl 1 rfl) ?_
        refine va_get (D := D) (ci := 0) (v := .ref (a 10)) (C := RX0) (T := TX0) (N := 9) hx hb hts inX0 hown hK hP 6 rfl rfl 7 (by decide) ln8 (fun _ h9 => h9) rfl dX0_copy_95 ?_
        refine lv_iload_n hx hb dX0_copy_98 rfl (lv_at hl 2 rfl) ?_
        refine k_iald hx hb hK hP 10 0 hf rfl rfl dX0_copy_99 (fun v9 hf => ?_)
        refine k_iast (w := (fun z => wHo2 cI a z)) hx hb hK hP hD hS 4 0 hf rfl rfl (fun _ => rfl) dX0_copy_100 (fun z10 H locs hP hS hf => ?_)
        refine lv_aload_n hx hb dX0_copy_101 rfl (lv_at hl 0 rfl) ?_
        refine va_get (D := D) (ci := 0) (v := .ref (a 5)) (C := RX0) (T := TX0) (N := 9) hx hb hts inX0 hown hK hP 0 rfl rfl 8 (by decide) ln9 (fun _ h9 => h9) rfl dX0_copy_102 ?_
        refine lv_iload_n hx hb dX0_copy_105 rfl (lv_at hl 2 rfl) ?_
        refine lv_aload_n hx hb dX0_copy_106 rfl (lv_at hl 1 rfl) ?_
        refine va_get (D := D) (ci := 0) (v := .ref (a 11)) (C := RX0) (T := TX0) (N := 9) hx hb hts inX0 hown hK hP 6 rfl rfl 8 (by decide) ln9 (fun _ h9 => h9) rfl dX0_copy_107 ?_
        refine lv_iload_n hx hb dX0_copy_110 rfl (lv_at hl 2 rfl) ?_
        refine k_iald hx hb hK hP 11 0 hf rfl rfl dX0_copy_111 (fun v11 hf => ?_)
        refine k_iast (w := (fun z => wHo2 cI a z)) hx hb hK hP hD hS 5 0 hf rfl rfl (fun _ => rfl) dX0_copy_112 (fun z12 H locs hP hS hf => ?_)
        refine k_iinc (d := (1 : Int32)) (lv' := fun v13 => [(2, .int v13), (0, .ref (a 0)), (1, .ref (a 6))]) hx hb dX0_copy_113 hl (k := 2) rfl (by decide) (by decide) (fun _ => rfl) hf (fun v13 ls hl hf => ?_)
        refine lv_goto (tgt := 59) hx hb dX0_copy_116 (by decide) ?_
        exact ih z12 v13 H locs ls hP hS (lv_sub hl [1, 2, 0] rfl) hf
  have b34 : ∀  (n : Nat) (z : St) (x2 : Int32) (H : Heap) (locs : List Loc) (ls : Array Slot), va_P D vwCl (wHo2 cI a z) H → va_S A s.heap H locs → lv_has ls 3 [(0, .ref (a 0)), (1, .ref (a 6)), (2, .int x2)] → fX0_copy_L34 N n z x2 = some r → W p l e rmX0_copy s m ([.ref (a 0), .ref (a 6)] : List Value).toArray below meth c H locs 0 0 (MQ below (WQv sz D (wHo2 cI a σ) (wHo2 cI a r)) ([.ref (a 0), .ref (a 6)] : List Value).toArray s 0 0 A) (F0 m 34 ls []) := by
    intro n
    induction n with
    | zero => intro z x2 H locs ls hP hS hl hf; cases hf
    | succ n ih =>
      intro z x2 H locs ls hP hS hl hf
      rw [fX0_copy_L34] at hf
      refine lv_iload_n hx hb dX0_copy_34 rfl (lv_at hl 2 rfl) ?_
      refine lv_iconst (v := (2 : Int32)) hx hb dX0_copy_35 (by decide) ?_
      refine k_icmp_ge (tgt := 57) hx hb dX0_copy_36 (by decide) hf (fun hf => ?_) (fun hf => ?_)
      · refine lv_iconst (v := (0 : Int32)) hx hb dX0_copy_57 (by decide) ?_
        refine lv_istore_n (lv' := [(2, .int (0 : Int32)), (0, .ref (a 0)), (1, .ref (a 6))]) hx hb dX0_copy_58 rfl hl (by decide) rfl (fun ls hl => ?_)
        exact b59  N z (0 : Int32) H locs ls hP hS (lv_sub hl [1, 2, 0] rfl) hf
      · refine lv_aload_n hx hb dX0_copy_39 rfl (lv_at hl 0 rfl) ?_
        refine va_get (D := D) (ci := 0) (v := .ref (a 1)) (C := RX0) (T := TX0) (N := 9) hx hb hts inX0 hown hK hP 0 rfl rfl 4 (by decide) ln10 (fun _ h9 => h9) rfl dX0_copy_40 ?_
        refine lv_iload_n hx hb dX0_copy_43 rfl (lv_at hl 2 rfl) ?_
        refine lv_aload_n hx hb dX0_copy_44 rfl (lv_at hl 1 rfl) ?_
        refine va_get (D := D) (ci := 0) (v := .ref (a 7)) (C := RX0) (T := TX0) (N := 9) hx hb hts inX0 hown hK hP 6 rfl rfl 4 (by decide) ln10 (fun _ h9 => h9) rfl dX0_copy_45 ?_
        refine lv_iload_n hx hb dX0_copy_48 rfl (lv_at hl 2 rfl) ?_
        refine k_iald hx hb hK hP 7 0 hf rfl rfl dX0_copy_49 (fun v14 hf => ?_)
        refine k_iast (w := (fun z => wHo2 cI a z)) hx hb hK hP hD hS 1 0 hf rfl rfl (fun _ => rfl) dX0_copy_50 (fun z15 H locs hP hS hf => ?_)
        refine k_iinc (d := (1 : Int32)) (lv' := fun v16 => [(2, .int v16), (0, .ref (a 0)), (1, .ref (a 6))]) hx hb dX0_copy_51 hl (k := 2) rfl (by decide) (by decide) (fun _ => rfl) hf (fun v16 ls hl hf => ?_)
        refine lv_goto (tgt := 34) hx hb dX0_copy_54 (by decide) ?_
        exact ih z15 v16 H locs ls hP hS (lv_sub hl [1, 2, 0] rfl) hf
  unfold fX0_copy at hf
  refine lv_aload_n hx hb dX0_copy_0 rfl (lv_at hl 0 rfl) ?_
  refine lv_aload_n hx hb dX0_copy_1 rfl (lv_at hl 1 rfl) ?_
  refine va_get (D := D) (ci := 0) (v := .int (σ 6 0)) (C := RX0) (T := TX0) (N := 9) hx hb hts inX0 hown hK hP 6 rfl rfl 0 (by decide) ln1 (fun _ h9 => h9) rfl dX0_copy_2 ?_
  refine k_put (ci := 0) (C := RX0) (T := TX0) (N := 9) (ty := .int) (w := (fun z => wHo2 cI a z)) hx hb hts inX0 tyX0 tyX0_ok nmX0 hown hK hP hD hS 0 rfl rfl 0 (by decide) ln1 (fun _ h9 => h9) rfl (by decide +kernel) rfl rfl (Nat.le_of_ble_eq_true rfl) (cN := 0) hf rfl dX0_copy_5 (fun z1 H locs hP hS hf => ?_)
  refine lv_aload_n hx hb dX0_copy_8 rfl (lv_at hl 0 rfl) ?_
  refine lv_aload_n hx hb dX0_copy_9 rfl (lv_at hl 1 rfl) ?_
  refine va_get (D := D) (ci := 0) (v := .int (z1 6 1)) (C := RX0) (T := TX0) (N := 9) hx hb hts inX0 hown hK hP 6 rfl rfl 1 (by decide) ln3 (fun _ h9 => h9) rfl dX0_copy_10 ?_
  refine k_put (ci := 0) (C := RX0) (T := TX0) (N := 9) (ty := .int) (w := (fun z => wHo2 cI a z)) hx hb hts inX0 tyX0 tyX0_ok nmX0 hown hK hP hD hS 0 rfl rfl 1 (by decide) ln3 (fun _ h9 => h9) rfl (by decide +kernel) rfl rfl (Nat.le_of_ble_eq_true rfl) (cN := 0) hf rfl dX0_copy_13 (fun z2 H locs hP hS hf => ?_)
  refine lv_aload_n hx hb dX0_copy_16 rfl (lv_at hl 0 rfl) ?_
  refine lv_aload_n hx hb dX0_copy_17 rfl (lv_at hl 1 rfl) ?_
  refine va_get (D := D) (ci := 0) (v := .int (z2 6 2)) (C := RX0) (T := TX0) (N := 9) hx hb hts inX0 hown hK hP 6 rfl rfl 2 (by decide) ln4 (fun _ h9 => h9) rfl dX0_copy_18 ?_
  refine k_put (ci := 0) (C := RX0) (T := TX0) (N := 9) (ty := .int) (w := (fun z => wHo2 cI a z)) hx hb hts inX0 tyX0 tyX0_ok nmX0 hown hK hP hD hS 0 rfl rfl 2 (by decide) ln4 (fun _ h9 => h9) rfl (by decide +kernel) rfl rfl (Nat.le_of_ble_eq_true rfl) (cN := 0) hf rfl dX0_copy_21 (fun z3 H locs hP hS hf => ?_)
  refine lv_aload_n hx hb dX0_copy_24 rfl (lv_at hl 0 rfl) ?_
  refine lv_aload_n hx hb dX0_copy_25 rfl (lv_at hl 1 rfl) ?_
  refine va_get (D := D) (ci := 0) (v := .int (z3 6 3)) (C := RX0) (T := TX0) (N := 9) hx hb hts inX0 hown hK hP 6 rfl rfl 3 (by decide) ln5 (fun _ h9 => h9) rfl dX0_copy_26 ?_
  refine k_put (ci := 0) (C := RX0) (T := TX0) (N := 9) (ty := .int) (w := (fun z => wHo2 cI a z)) hx hb hts inX0 tyX0 tyX0_ok nmX0 hown hK hP hD hS 0 rfl rfl 3 (by decide) ln5 (fun _ h9 => h9) rfl (by decide +kernel) rfl rfl (Nat.le_of_ble_eq_true rfl) (cN := 0) hf rfl dX0_copy_29 (fun z4 H locs hP hS hf => ?_)
  refine lv_iconst (v := (0 : Int32)) hx hb dX0_copy_32 (by decide) ?_
  refine lv_istore_n (lv' := [(2, .int (0 : Int32)), (0, .ref (a 0)), (1, .ref (a 6))]) hx hb dX0_copy_33 rfl hl (by decide) rfl (fun ls hl => ?_)
  exact b34  N z4 (0 : Int32) H locs ls hP hS (lv_sub hl [1, 2, 0] rfl) hf
def fX0_has (N : Nat) (σ : St) (p1 : Int32) : Option Int32 :=
    if p1 < 0 then zr (0 : Int32)
    else if (σ 0 3) ≤ p1 then zr (0 : Int32)
    else if (8 : Int32) ≤ p1 then zr (0 : Int32)
    else zr (1 : Int32)
abbrev rmX0_has : Room := { frames := 0, cells := 0, slots := 0, locals := 0 }
theorem qX0_has : yX0_has.cls = RX0 ∧ yX0_has.cls ≠ "java/lang/invoke/MethodHandle" ∧ yX0_has.cls ≠ "java/lang/invoke/VarHandle" ∧ (parseMethodDescriptor yX0_has.desc).map (fun d => d.parameters.length) = some 1 := by decide +kernel
set_option maxHeartbeats 400000 in
set_option maxRecDepth 100000 in
theorem mX0_has (l : Launch) (D : va_G) (cI cJ : ClassId) (a : Nat → Nat) (sz N : Nat) (σ : St) (p1 : Int32) (r : Int32) (hf : fX0_has N σ p1 = some r) : Met l yX0_has wsX0_has rmX0_has (RPre ([.ref (a 0), .int p1] : List Value) sz D (tyIJ cI cJ) (wHo cI a σ)) (RQi sz r) 0 0 (fr0 sz) := by
  refine R_start (cc := cX0_has) (maxL := 2) (ret := (some .boolean)) (by decide) rfl (Nat.le_of_ble_eq_true rfl) (fun p e s m below meth c ls hx hb hr hml hown hts hlk hP hK hS hA hsz hl => ?_)
  have hown : s.vm.findClass RX0 = some m.cls := hown
  have hl : lv_has ls 2 [(0, .ref (a 0)), (1, .int p1)] := hl
  have ln1 := hts (Cond.fieldLink RX0 22 "HoistsAreShared$Hoist" "things" "I") (List.mem_of_getElem? (i := 1) rfl)
  have inX0 : ∀ w ∈ u_ws RX0 TX0 9, w ∈ wsX0_has := fun _ h => List.mem_cons_of_mem _ (List.mem_append_right _ h)
  unfold fX0_has at hf
  refine lv_iload_n hx hb dX0_has_0 rfl (lv_at hl 1 rfl) ?_
  refine k_if_lt (tgt := 22) hx hb dX0_has_1 (by decide) hf (fun hf => ?_) (fun hf => ?_)
  · refine lv_iconst (v := (0 : Int32)) hx hb dX0_has_22 (by decide) ?_
    exact R_zret hx hb hr hlk hS hsz hf dX0_has_23
  · refine lv_iload_n hx hb dX0_has_4 rfl (lv_at hl 1 rfl) ?_
    refine lv_aload_n hx hb dX0_has_5 rfl (lv_at hl 0 rfl) ?_
    refine va_get (D := D) (ci := 0) (v := .int (σ 0 3)) (C := RX0) (T := TX0) (N := 9) hx hb hts inX0 hown hK hP 0 rfl rfl 3 (by decide) ln1 (fun _ h9 => h9) rfl dX0_has_6 ?_
    refine k_icmp_ge (tgt := 22) hx hb dX0_has_9 (by decide) hf (fun hf => ?_) (fun hf => ?_)
    · refine lv_iconst (v := (0 : Int32)) hx hb dX0_has_22 (by decide) ?_
      exact R_zret hx hb hr hlk hS hsz hf dX0_has_23
    · refine lv_iload_n hx hb dX0_has_12 rfl (lv_at hl 1 rfl) ?_
      refine lv_bipush (v := (8 : Int32)) hx hb dX0_has_13 (by decide) ?_
      refine k_icmp_ge (tgt := 22) hx hb dX0_has_15 (by decide) hf (fun hf => ?_) (fun hf => ?_)
      · refine lv_iconst (v := (0 : Int32)) hx hb dX0_has_22 (by decide) ?_
        exact R_zret hx hb hr hlk hS hsz hf dX0_has_23
      · refine lv_iconst (v := (1 : Int32)) hx hb dX0_has_18 (by decide) ?_
        refine lv_goto (tgt := 23) hx hb dX0_has_19 (by decide) ?_
        exact R_zret hx hb hr hlk hS hsz hf dX0_has_23
def fX0_become (N : Nat) (σ : St) (p1 : Int32) (p2 : Int32) (p3 : Int32) : Option St :=
    bo (fX0_has N σ p1) (fun v1 =>
    if v1 = 0 then some σ
    else bo (wrI σ 2 8 p1 p2) (fun z2 =>
    bo (wrI z2 3 8 p1 p3) (fun z3 =>
    some z3)))
abbrev rmX0_become : Room := { frames := 1, cells := 0, slots := 0, locals := 21 }
theorem qX0_become : yX0_become.cls = RX0 ∧ yX0_become.cls ≠ "java/lang/invoke/MethodHandle" ∧ yX0_become.cls ≠ "java/lang/invoke/VarHandle" ∧ (parseMethodDescriptor yX0_become.desc).map (fun d => d.parameters.length) = some 3 := by decide +kernel
set_option maxHeartbeats 400000 in
set_option maxRecDepth 100000 in
theorem mX0_become (l : Launch) (D : va_G) (cI cJ : ClassId) (a : Nat → Nat) (sz N : Nat) (σ : St) (p1 : Int32) (p2 : Int32) (p3 : Int32) (r : St) (hf : fX0_become N σ p1 p2 p3 = some r) : Met l yX0_become wsX0_become rmX0_become (WPre ([.ref (a 0), .int p1, .int p2, .int p3] : List Value) sz D (tyIJ cI cJ) (wHo cI a σ)) (WQv sz D (wHo cI a σ) (wHo cI a r)) 0 0 (va_A (wHo cI a σ) sz) := by
  refine W_start (cc := cX0_become) (maxL := 4) (ret := none) (by decide) rfl (Nat.le_of_ble_eq_true rfl) (fun p e s m below meth c ls A hx hb hr hml hown hts hlk hP hK hS hA hD0 hAe hl => ?_)
  have hD : ∀ z, va_D A ((fun z => wHo cI a z) z) := fun z => hD0.ad rfl
  have hown : s.vm.findClass RX0 = some m.cls := hown
  have hl : lv_has ls 4 [(0, .ref (a 0)), (1, .int p1), (2, .int p2), (3, .int p3)] := hl
  have ln1 := hts (Cond.fieldLink RX0 29 "HoistsAreShared$Hoist" "kinds" "[I") (List.mem_of_getElem? (i := 1) rfl)
  have inX0 : ∀ w ∈ u_ws RX0 TX0 9, w ∈ wsX0_become := fun _ h => List.mem_cons_of_mem _ (List.mem_append_right _ h)
  have ln3 := hts (Cond.fieldLink RX0 32 "HoistsAreShared$Hoist" "figures" "[I") (List.mem_of_getElem? (i := 2) rfl)
  unfold fX0_become at hf
  refine lv_aload_n hx hb dX0_become_0 rfl (lv_at hl 0 rfl) ?_
  refine lv_iload_n hx hb dX0_become_1 rfl (lv_at hl 1 rfl) ?_
  refine c_callV (As := [.int p1]) (rest := []) ⟨hx, hb, hml, hown, hts⟩ hf (fun vq hq => mX0_has l D cI cJ a s.heap.size N σ p1 vq hq) (cwV 1 hts gX0_become_X0_has rfl rfl rfl qX0_has ⟨Nat.le_of_ble_eq_true rfl, Nat.le_of_ble_eq_true rfl⟩) hK hP hS hA hP 0 rfl rfl rfl rfl hl.1 rfl (Nat.le_of_ble_eq_true rfl) dX0_become_2 ⟨Nat.le_refl _, Nat.le_refl _⟩ (fun v1 H locs hP hS hf => ?_)
  refine k_if_eq (tgt := 22) hx hb dX0_become_5 (by decide) hf (fun hf => ?_) (fun hf => ?_)
  · exact W_vret (fun z => wHo cI a z) hx hb hr hlk hP hS hAe hf dX0_become_22
  · refine lv_aload_n hx hb dX0_become_8 rfl (lv_at hl 0 rfl) ?_
    refine va_get (D := D) (ci := 0) (v := .ref (a 2)) (C := RX0) (T := TX0) (N := 9) hx hb hts inX0 hown hK hP 0 rfl rfl 5 (by decide) ln1 (fun _ h9 => h9) rfl dX0_become_9 ?_
    refine lv_iload_n hx hb dX0_become_12 rfl (lv_at hl 1 rfl) ?_
    refine lv_iload_n hx hb dX0_become_13 rfl (lv_at hl 2 rfl) ?_
    refine k_iast (w := (fun z => wHo cI a z)) hx hb hK hP hD hS 2 0 hf rfl rfl (fun _ => rfl) dX0_become_14 (fun z2 H locs hP hS hf => ?_)
    refine lv_aload_n hx hb dX0_become_15 rfl (lv_at hl 0 rfl) ?_
    refine va_get (D := D) (ci := 0) (v := .ref (a 3)) (C := RX0) (T := TX0) (N := 9) hx hb hts inX0 hown hK hP 0 rfl rfl 6 (by decide) ln3 (fun _ h9 => h9) rfl dX0_become_16 ?_
    refine lv_iload_n hx hb dX0_become_19 rfl (lv_at hl 1 rfl) ?_
    refine lv_iload_n hx hb dX0_become_20 rfl (lv_at hl 3 rfl) ?_
    refine k_iast (w := (fun z => wHo cI a z)) hx hb hK hP hD hS 3 0 hf rfl rfl (fun _ => rfl) dX0_become_21 (fun z3 H locs hP hS hf => ?_)
    exact W_vret (fun z => wHo cI a z) hx hb hr hlk hP hS hAe hf dX0_become_22
def fX0_isPlace (N : Nat) (p1 : Int32) : Option Int32 :=
    if p1 < 0 then zr (0 : Int32)
    else if (3 : Int32) ≤ p1 then zr (0 : Int32)
    else zr (1 : Int32)
abbrev rmX0_isPlace : Room := { frames := 0, cells := 0, slots := 0, locals := 0 }
theorem qX0_isPlace : yX0_isPlace.cls ≠ "java/lang/invoke/MethodHandle" ∧ yX0_isPlace.cls ≠ "java/lang/invoke/VarHandle" ∧ (parseMethodDescriptor yX0_isPlace.desc).map (fun d => d.parameters.length) = some 1 := by decide +kernel
set_option maxHeartbeats 400000 in
set_option maxRecDepth 100000 in
theorem mX0_isPlace (l : Launch) (D : va_G) (cI cJ : ClassId) (sz N : Nat) (p1 : Int32) (r : Int32) (hf : fX0_isPlace N p1 = some r) : Met l yX0_isPlace wsX0_isPlace rmX0_isPlace (RPre ([.int p1] : List Value) sz D (tyIJ cI cJ) (wNo)) (RQi sz r) 0 0 (fr0 sz) := by
  refine R_start (cc := cX0_isPlace) (maxL := 1) (ret := (some .boolean)) (by decide) rfl (Nat.le_of_ble_eq_true rfl) (fun p e s m below meth c ls hx hb hr hml hown hts hlk hP hK hS hA hsz hl => ?_)
  have hown : s.vm.findClass RX0 = some m.cls := hown
  have hl : lv_has ls 1 [(0, .int p1)] := hl
  unfold fX0_isPlace at hf
  refine lv_iload_n hx hb dX0_isPlace_0 rfl (lv_at hl 0 rfl) ?_
  refine k_if_lt (tgt := 13) hx hb dX0_isPlace_1 (by decide) hf (fun hf => ?_) (fun hf => ?_)
  · refine lv_iconst (v := (0 : Int32)) hx hb dX0_isPlace_13 (by decide) ?_
    exact R_zret hx hb hr hlk hS hsz hf dX0_isPlace_14
  · refine lv_iload_n hx hb dX0_isPlace_4 rfl (lv_at hl 0 rfl) ?_
    refine lv_iconst (v := (3 : Int32)) hx hb dX0_isPlace_5 (by decide) ?_
    refine k_icmp_ge (tgt := 13) hx hb dX0_isPlace_6 (by decide) hf (fun hf => ?_) (fun hf => ?_)
    · refine lv_iconst (v := (0 : Int32)) hx hb dX0_isPlace_13 (by decide) ?_
      exact R_zret hx hb hr hlk hS hsz hf dX0_isPlace_14
    · refine lv_iconst (v := (1 : Int32)) hx hb dX0_isPlace_9 (by decide) ?_
      refine lv_goto (tgt := 14) hx hb dX0_isPlace_10 (by decide) ?_
      exact R_zret hx hb hr hlk hS hsz hf dX0_isPlace_14
def fX0_put (N : Nat) (σ : St) (p1 : Int32) (p2 : Int32) : Option (Int32 × St) :=
    bo (fX0_has N σ p1) (fun v1 =>
    if v1 = 0 then bo (zr (0 : Int32)) (fun v => some (v, σ))
    else bo (fX0_isPlace N p2) (fun v2 =>
    if v2 = 0 then bo (zr (0 : Int32)) (fun v => some (v, σ))
    else bo (wrI σ 4 8 p1 p2) (fun z3 =>
    bo (wrI z3 5 8 p1 (z3 0 2)) (fun z4 =>
    bo (zr (1 : Int32)) (fun v => some (v, z4))))))
abbrev rmX0_put : Room := { frames := 1, cells := 0, slots := 0, locals := 21 }
theorem qX0_put : yX0_put.cls = RX0 ∧ yX0_put.cls ≠ "java/lang/invoke/MethodHandle" ∧ yX0_put.cls ≠ "java/lang/invoke/VarHandle" ∧ (parseMethodDescriptor yX0_put.desc).map (fun d => d.parameters.length) = some 2 := by decide +kernel
set_option maxHeartbeats 400000 in
set_option maxRecDepth 100000 in
theorem mX0_put (l : Launch) (D : va_G) (cI cJ : ClassId) (a : Nat → Nat) (sz N : Nat) (σ : St) (p1 : Int32) (p2 : Int32) (r : (Int32 × St)) (hf : fX0_put N σ p1 p2 = some r) : Met l yX0_put wsX0_put rmX0_put (WPre ([.ref (a 0), .int p1, .int p2] : List Value) sz D (tyIJ cI cJ) (wHo cI a σ)) (WQi sz D (wHo cI a σ) (wHo cI a (r.2)) r.1) 0 0 (va_A (wHo cI a σ) sz) := by
  refine W_start (cc := cX0_put) (maxL := 3) (ret := (some .boolean)) (by decide) rfl (Nat.le_of_ble_eq_true rfl) (fun p e s m below meth c ls A hx hb hr hml hown hts hlk hP hK hS hA hD0 hAe hl => ?_)
  have hD : ∀ z, va_D A ((fun z => wHo cI a z) z) := fun z => hD0.ad rfl
  have hown : s.vm.findClass RX0 = some m.cls := hown
  have hl : lv_has ls 3 [(0, .ref (a 0)), (1, .int p1), (2, .int p2)] := hl
  have ln1 := hts (Cond.fieldLink RX0 35 "HoistsAreShared$Hoist" "places" "[I") (List.mem_of_getElem? (i := 1) rfl)
  have inX0 : ∀ w ∈ u_ws RX0 TX0 9, w ∈ wsX0_put := fun _ h => List.mem_cons_of_mem _ (List.mem_append_right _ h)
  have ln3 := hts (Cond.fieldLink RX0 38 "HoistsAreShared$Hoist" "sinces" "[I") (List.mem_of_getElem? (i := 2) rfl)
  have ln4 := hts (Cond.fieldLink RX0 19 "HoistsAreShared$Hoist" "day" "I") (List.mem_of_getElem? (i := 3) rfl)
  unfold fX0_put at hf
  refine lv_aload_n hx hb dX0_put_0 rfl (lv_at hl 0 rfl) ?_
  refine lv_iload_n hx hb dX0_put_1 rfl (lv_at hl 1 rfl) ?_
  refine c_callV (As := [.int p1]) (rest := []) ⟨hx, hb, hml, hown, hts⟩ hf (fun vq hq => mX0_has l D cI cJ a s.heap.size N σ p1 vq hq) (cwV 1 hts gX0_put_X0_has rfl rfl rfl qX0_has ⟨Nat.le_of_ble_eq_true rfl, Nat.le_of_ble_eq_true rfl⟩) hK hP hS hA hP 0 rfl rfl rfl rfl hl.1 rfl (Nat.le_of_ble_eq_true rfl) dX0_put_2 ⟨Nat.le_refl _, Nat.le_refl _⟩ (fun v1 H locs hP hS hf => ?_)
  refine k_if_eq (tgt := 15) hx hb dX0_put_5 (by decide) hf (fun hf => ?_) (fun hf => ?_)
  · refine lv_iconst (v := (0 : Int32)) hx hb dX0_put_15 (by decide) ?_
    exact W_zret (fun z => wHo cI a z) hx hb hr hlk hP hS hAe hf dX0_put_16
  · refine lv_iload_n hx hb dX0_put_8 rfl (lv_at hl 2 rfl) ?_
    refine c_callS (As := [.int p2]) (rest := []) ⟨hx, hb, hml, hown, hts⟩ hf (fun vq hq => mX0_isPlace l D cI cJ H.size N p2 vq hq) (va_cwS 1 hts gX0_put_X0_isPlace rfl rfl rfl qX0_isPlace ⟨Nat.le_of_ble_eq_true rfl, Nat.le_of_ble_eq_true rfl⟩) hK hP hS hA va_P_nil rfl hl.1 rfl (Nat.le_of_ble_eq_true rfl) dX0_put_9 ⟨Nat.le_refl _, Nat.le_refl _⟩ (fun v2 H locs hP hS hf => ?_)
    refine k_if_ne (tgt := 17) hx hb dX0_put_12 (by decide) hf (fun hf => ?_) (fun hf => ?_)
    · refine lv_aload_n hx hb dX0_put_17 rfl (lv_at hl 0 rfl) ?_
      refine va_get (D := D) (ci := 0) (v := .ref (a 4)) (C := RX0) (T := TX0) (N := 9) hx hb hts inX0 hown hK hP 0 rfl rfl 7 (by decide) ln1 (fun _ h9 => h9) rfl dX0_put_18 ?_
      refine lv_iload_n hx hb dX0_put_21 rfl (lv_at hl 1 rfl) ?_
      refine lv_iload_n hx hb dX0_put_22 rfl (lv_at hl 2 rfl) ?_
      refine k_iast (w := (fun z => wHo cI a z)) hx hb hK hP hD hS 4 0 hf rfl rfl (fun _ => rfl) dX0_put_23 (fun z3 H locs hP hS hf => ?_)
      refine lv_aload_n hx hb dX0_put_24 rfl (lv_at hl 0 rfl) ?_
      refine va_get (D := D) (ci := 0) (v := .ref (a 5)) (C := RX0) (T := TX0) (N := 9) hx hb hts inX0 hown hK hP 0 rfl rfl 8 (by decide) ln3 (fun _ h9 => h9) rfl dX0_put_25 ?_
      refine lv_iload_n hx hb dX0_put_28 rfl (lv_at hl 1 rfl) ?_
      refine lv_aload_n hx hb dX0_put_29 rfl (lv_at hl 0 rfl) ?_
      refine va_get (D := D) (ci := 0) (v := .int (z3 0 2)) (C := RX0) (T := TX0) (N := 9) hx hb hts inX0 hown hK hP 0 rfl rfl 2 (by decide) ln4 (fun _ h9 => h9) rfl dX0_put_30 ?_
      refine k_iast (w := (fun z => wHo cI a z)) hx hb hK hP hD hS 5 0 hf rfl rfl (fun _ => rfl) dX0_put_33 (fun z4 H locs hP hS hf => ?_)
      refine lv_iconst (v := (1 : Int32)) hx hb dX0_put_34 (by decide) ?_
      exact W_zret (fun z => wHo cI a z) hx hb hr hlk hP hS hAe hf dX0_put_35
    · refine lv_iconst (v := (0 : Int32)) hx hb dX0_put_15 (by decide) ?_
      exact W_zret (fun z => wHo cI a z) hx hb hr hlk hP hS hAe hf dX0_put_16
def fX0_add (N : Nat) (σ : St) (p1 : Int32) (p2 : Int32) (p3 : Int32) : Option (Int32 × St) :=
    if (8 : Int32) ≤ (σ 0 3) then bo (zr (0 : Int32)) (fun v => some (v, σ))
    else bo (fX0_isPlace N p3) (fun v1 =>
    if v1 = 0 then bo (zr (0 : Int32)) (fun v => some (v, σ))
    else lt_ (((σ 0 3) + (1 : Int32)) : Int32) (fun v2 =>
    lt_ (up2 σ 0 3 v2) (fun z3 =>
    by_ (fX0_become N z3 ((z3 0 3) - (1 : Int32)) p1 p2) (fun uq => uq) (fun z4 =>
    bx (fX0_put N z4 ((z4 0 3) - (1 : Int32)) p3) (fun uq => uq) (fun v6 z5 =>
    bo (zr v6) (fun v => some (v, z5)))))))
abbrev rmX0_add : Room := { frames := 2, cells := 0, slots := 0, locals := 44 }
theorem qX0_add : yX0_add.cls = RX0 ∧ yX0_add.cls ≠ "java/lang/invoke/MethodHandle" ∧ yX0_add.cls ≠ "java/lang/invoke/VarHandle" ∧ (parseMethodDescriptor yX0_add.desc).map (fun d => d.parameters.length) = some 3 := by decide +kernel
set_option maxHeartbeats 400000 in
set_option maxRecDepth 100000 in
theorem mX0_add (l : Launch) (D : va_G) (cI cJ : ClassId) (a : Nat → Nat) (sz N : Nat) (σ : St) (p1 : Int32) (p2 : Int32) (p3 : Int32) (r : (Int32 × St)) (hf : fX0_add N σ p1 p2 p3 = some r) : Met l yX0_add wsX0_add rmX0_add (WPre ([.ref (a 0), .int p1, .int p2, .int p3] : List Value) sz D (tyIJ cI cJ) (wHo cI a σ)) (WQi sz D (wHo cI a σ) (wHo cI a (r.2)) r.1) 0 0 (va_A (wHo cI a σ) sz) := by
  refine W_start (cc := cX0_add) (maxL := 4) (ret := (some .boolean)) (by decide) rfl (Nat.le_of_ble_eq_true rfl) (fun p e s m below meth c ls A hx hb hr hml hown hts hlk hP hK hS hA hD0 hAe hl => ?_)
  have hD : ∀ z, va_D A ((fun z => wHo cI a z) z) := fun z => hD0.ad rfl
  have hown : s.vm.findClass RX0 = some m.cls := hown
  have hl : lv_has ls 4 [(0, .ref (a 0)), (1, .int p1), (2, .int p2), (3, .int p3)] := hl
  have ln1 := hts (Cond.fieldLink RX0 22 "HoistsAreShared$Hoist" "things" "I") (List.mem_of_getElem? (i := 1) rfl)
  have inX0 : ∀ w ∈ u_ws RX0 TX0 9, w ∈ wsX0_add := fun _ h => List.mem_cons_of_mem _ (List.mem_append_right _ h)
  unfold fX0_add at hf
  refine lv_aload_n hx hb dX0_add_0 rfl (lv_at hl 0 rfl) ?_
  refine va_get (D := D) (ci := 0) (v := .int (σ 0 3)) (C := RX0) (T := TX0) (N := 9) hx hb hts inX0 hown hK hP 0 rfl rfl 3 (by decide) ln1 (fun _ h9 => h9) rfl dX0_add_1 ?_
  refine lv_bipush (v := (8 : Int32)) hx hb dX0_add_4 (by decide) ?_
  refine k_icmp_ge (tgt := 16) hx hb dX0_add_6 (by decide) hf (fun hf => ?_) (fun hf => ?_)
  · refine lv_iconst (v := (0 : Int32)) hx hb dX0_add_16 (by decide) ?_
    exact W_zret (fun z => wHo cI a z) hx hb hr hlk hP hS hAe hf dX0_add_17
  · refine lv_iload_n hx hb dX0_add_9 rfl (lv_at hl 3 rfl) ?_
    refine c_callS (As := [.int p3]) (rest := []) ⟨hx, hb, hml, hown, hts⟩ hf (fun vq hq => mX0_isPlace l D cI cJ s.heap.size N p3 vq hq) (va_cwS 1 hts gX0_add_X0_isPlace rfl rfl rfl qX0_isPlace ⟨Nat.le_of_ble_eq_true rfl, Nat.le_of_ble_eq_true rfl⟩) hK hP hS hA va_P_nil rfl hl.1 rfl (Nat.le_of_ble_eq_true rfl) dX0_add_10 ⟨Nat.le_refl _, Nat.le_refl _⟩ (fun v1 H locs hP hS hf => ?_)
    refine k_if_ne (tgt := 18) hx hb dX0_add_13 (by decide) hf (fun hf => ?_) (fun hf => ?_)
    · refine lv_aload_n hx hb dX0_add_18 rfl (lv_at hl 0 rfl) ?_
      refine lv_dup hx hb dX0_add_19 rfl ?_
      refine va_get (D := D) (ci := 0) (v := .int (σ 0 3)) (C := RX0) (T := TX0) (N := 9) hx hb hts inX0 hown hK hP 0 rfl rfl 3 (by decide) ln1 (fun _ h9 => h9) rfl dX0_add_20 ?_
      refine lv_iconst (v := (1 : Int32)) hx hb dX0_add_23 (by decide) ?_
      refine lv_iadd hx hb dX0_add_24 ?_
      refine k_let hf (fun v2 hf => ?_)
      refine k_put (ci := 0) (C := RX0) (T := TX0) (N := 9) (ty := .int) (w := (fun z => wHo cI a z)) hx hb hts inX0 tyX0 tyX0_ok nmX0 hown hK hP hD hS 0 rfl rfl 3 (by decide) ln1 (fun _ h9 => h9) rfl (by decide +kernel) rfl rfl (Nat.le_of_ble_eq_true rfl) (cN := 0) hf rfl dX0_add_25 (fun z3 H locs hP hS hf => ?_)
      refine lv_aload_n hx hb dX0_add_28 rfl (lv_at hl 0 rfl) ?_
      refine lv_aload_n hx hb dX0_add_29 rfl (lv_at hl 0 rfl) ?_
      refine va_get (D := D) (ci := 0) (v := .int (z3 0 3)) (C := RX0) (T := TX0) (N := 9) hx hb hts inX0 hown hK hP 0 rfl rfl 3 (by decide) ln1 (fun _ h9 => h9) rfl dX0_add_30 ?_
      refine lv_iconst (v := (1 : Int32)) hx hb dX0_add_33 (by decide) ?_
      refine lv_isub hx hb dX0_add_34 ?_
      refine lv_iload_n hx hb dX0_add_35 rfl (lv_at hl 1 rfl) ?_
      refine lv_iload_n hx hb dX0_add_36 rfl (lv_at hl 2 rfl) ?_
      refine d_callVv (As := [.int ((z3 0 3) - (1 : Int32)), .int p1, .int p2]) (rest := []) (w := (fun z => wHo cI a z)) (wc := (wHo cI a)) (put := (fun uq => uq)) (σ := z3) (τ0 := z3) ⟨hx, hb, hml, hown, hts⟩ hf (fun zq hq => mX0_become l D cI cJ a H.size N z3 ((z3 0 3) - (1 : Int32)) p1 p2 zq hq) (cwV 3 hts gX0_add_X0_become rfl rfl rfl qX0_become ⟨Nat.le_of_ble_eq_true rfl, Nat.le_of_ble_eq_true rfl⟩) hK hP hD hS hA ⟨hP, hD _, fun _ _ _ h => h⟩ 0 rfl rfl rfl rfl hl.1 rfl (Nat.le_of_ble_eq_true rfl) dX0_add_37 ⟨Nat.le_refl _, Nat.le_refl _⟩ (fun z4 H locs hP hS hf => ?_)
      refine lv_aload_n hx hb dX0_add_40 rfl (lv_at hl 0 rfl) ?_
      refine lv_aload_n hx hb dX0_add_41 rfl (lv_at hl 0 rfl) ?_
      refine va_get (D := D) (ci := 0) (v := .int (z4 0 3)) (C := RX0) (T := TX0) (N := 9) hx hb hts inX0 hown hK hP 0 rfl rfl 3 (by decide) ln1 (fun _ h9 => h9) rfl dX0_add_42 ?_
      refine lv_iconst (v := (1 : Int32)) hx hb dX0_add_45 (by decide) ?_
      refine lv_isub hx hb dX0_add_46 ?_
      refine lv_iload_n hx hb dX0_add_47 rfl (lv_at hl 3 rfl) ?_
      refine d_callV (As := [.int ((z4 0 3) - (1 : Int32)), .int p3]) (rest := []) (w := (fun z => wHo cI a z)) (wc := (wHo cI a)) (put := (fun uq => uq)) (σ := z4) (τ0 := z4) ⟨hx, hb, hml, hown, hts⟩ hf (fun vq zq hq => mX0_put l D cI cJ a H.size N z4 ((z4 0 3) - (1 : Int32)) p3 (vq, zq) hq) (cwV 2 hts gX0_add_X0_put rfl rfl rfl qX0_put ⟨Nat.le_of_ble_eq_true rfl, Nat.le_of_ble_eq_true rfl⟩) hK hP hD hS hA ⟨hP, hD _, fun _ _ _ h => h⟩ 0 rfl rfl rfl rfl hl.1 rfl (Nat.le_of_ble_eq_true rfl) dX0_add_48 ⟨Nat.le_refl _, Nat.le_refl _⟩ (fun v6 z5 H locs hP hS hf => ?_)
      exact W_zret (fun z => wHo cI a z) hx hb hr hlk hP hS hAe hf dX0_add_51
    · refine lv_iconst (v := (0 : Int32)) hx hb dX0_add_16 (by decide) ?_
      exact W_zret (fun z => wHo cI a z) hx hb hr hlk hP hS hAe hf dX0_add_17
def fX0_isFloor (N : Nat) (p1 : Int32) : Option Int32 :=
    if p1 < 0 then zr (0 : Int32)
    else if (20 : Int32) < p1 then zr (0 : Int32)
    else zr (1 : Int32)
abbrev rmX0_isFloor : Room := { frames := 0, cells := 0, slots := 0, locals := 0 }
theorem qX0_isFloor : yX0_isFloor.cls ≠ "java/lang/invoke/MethodHandle" ∧ yX0_isFloor.cls ≠ "java/lang/invoke/VarHandle" ∧ (parseMethodDescriptor yX0_isFloor.desc).map (fun d => d.parameters.length) = some 1 := by decide +kernel
set_option maxHeartbeats 400000 in
set_option maxRecDepth 100000 in
theorem mX0_isFloor (l : Launch) (D : va_G) (cI cJ : ClassId) (sz N : Nat) (p1 : Int32) (r : Int32) (hf : fX0_isFloor N p1 = some r) : Met l yX0_isFloor wsX0_isFloor rmX0_isFloor (RPre ([.int p1] : List Value) sz D (tyIJ cI cJ) (wNo)) (RQi sz r) 0 0 (fr0 sz) := by
  refine R_start (cc := cX0_isFloor) (maxL := 1) (ret := (some .boolean)) (by decide) rfl (Nat.le_of_ble_eq_true rfl) (fun p e s m below meth c ls hx hb hr hml hown hts hlk hP hK hS hA hsz hl => ?_)
  have hown : s.vm.findClass RX0 = some m.cls := hown
  have hl : lv_has ls 1 [(0, .int p1)] := hl
  unfold fX0_isFloor at hf
  refine lv_iload_n hx hb dX0_isFloor_0 rfl (lv_at hl 0 rfl) ?_
  refine k_if_lt (tgt := 14) hx hb dX0_isFloor_1 (by decide) hf (fun hf => ?_) (fun hf => ?_)
  · refine lv_iconst (v := (0 : Int32)) hx hb dX0_isFloor_14 (by decide) ?_
    exact R_zret hx hb hr hlk hS hsz hf dX0_isFloor_15
  · refine lv_iload_n hx hb dX0_isFloor_4 rfl (lv_at hl 0 rfl) ?_
    refine lv_bipush (v := (20 : Int32)) hx hb dX0_isFloor_5 (by decide) ?_
    refine k_icmp_gt (tgt := 14) hx hb dX0_isFloor_7 (by decide) hf (fun hf => ?_) (fun hf => ?_)
    · refine lv_iconst (v := (0 : Int32)) hx hb dX0_isFloor_14 (by decide) ?_
      exact R_zret hx hb hr hlk hS hsz hf dX0_isFloor_15
    · refine lv_iconst (v := (1 : Int32)) hx hb dX0_isFloor_10 (by decide) ?_
      refine lv_goto (tgt := 15) hx hb dX0_isFloor_11 (by decide) ?_
      exact R_zret hx hb hr hlk hS hsz hf dX0_isFloor_15
def fX0_lift (N : Nat) (σ : St) (p1 : Int32) : Option (Int32 × St) :=
    bo (fX0_isFloor N p1) (fun v1 =>
    if v1 = 0 then bo (zr (0 : Int32)) (fun v => some (v, σ))
    else lt_ (up2 σ 0 0 p1) (fun z2 =>
    bo (zr (1 : Int32)) (fun v => some (v, z2))))
abbrev rmX0_lift : Room := { frames := 1, cells := 0, slots := 0, locals := 20 }
theorem qX0_lift : yX0_lift.cls = RX0 ∧ yX0_lift.cls ≠ "java/lang/invoke/MethodHandle" ∧ yX0_lift.cls ≠ "java/lang/invoke/VarHandle" ∧ (parseMethodDescriptor yX0_lift.desc).map (fun d => d.parameters.length) = some 1 := by decide +kernel
set_option maxHeartbeats 400000 in
set_option maxRecDepth 100000 in
theorem mX0_lift (l : Launch) (D : va_G) (cI cJ : ClassId) (a : Nat → Nat) (sz N : Nat) (σ : St) (p1 : Int32) (r : (Int32 × St)) (hf : fX0_lift N σ p1 = some r) : Met l yX0_lift wsX0_lift rmX0_lift (WPre ([.ref (a 0), .int p1] : List Value) sz D (tyIJ cI cJ) (wHo cI a σ)) (WQi sz D (wHo cI a σ) (wHo cI a (r.2)) r.1) 0 0 (va_A (wHo cI a σ) sz) := by
  refine W_start (cc := cX0_lift) (maxL := 2) (ret := (some .boolean)) (by decide) rfl (Nat.le_of_ble_eq_true rfl) (fun p e s m below meth c ls A hx hb hr hml hown hts hlk hP hK hS hA hD0 hAe hl => ?_)
  have hD : ∀ z, va_D A ((fun z => wHo cI a z) z) := fun z => hD0.ad rfl
  have hown : s.vm.findClass RX0 = some m.cls := hown
  have hl : lv_has ls 2 [(0, .ref (a 0)), (1, .int p1)] := hl
  have ln1 := hts (Cond.fieldLink RX0 11 "HoistsAreShared$Hoist" "floor" "I") (List.mem_of_getElem? (i := 1) rfl)
  have inX0 : ∀ w ∈ u_ws RX0 TX0 9, w ∈ wsX0_lift := fun _ h => List.mem_cons_of_mem _ (List.mem_append_right _ h)
  unfold fX0_lift at hf
  refine lv_iload_n hx hb dX0_lift_0 rfl (lv_at hl 1 rfl) ?_
  refine c_callS (As := [.int p1]) (rest := []) ⟨hx, hb, hml, hown, hts⟩ hf (fun vq hq => mX0_isFloor l D cI cJ s.heap.size N p1 vq hq) (va_cwS 1 hts gX0_lift_X0_isFloor rfl rfl rfl qX0_isFloor ⟨Nat.le_of_ble_eq_true rfl, Nat.le_of_ble_eq_true rfl⟩) hK hP hS hA va_P_nil rfl hl.1 rfl (Nat.le_of_ble_eq_true rfl) dX0_lift_1 ⟨Nat.le_refl _, Nat.le_refl _⟩ (fun v1 H locs hP hS hf => ?_)
  refine k_if_ne (tgt := 9) hx hb dX0_lift_4 (by decide) hf (fun hf => ?_) (fun hf => ?_)
  · refine lv_aload_n hx hb dX0_lift_9 rfl (lv_at hl 0 rfl) ?_
    refine lv_iload_n hx hb dX0_lift_10 rfl (lv_at hl 1 rfl) ?_
    refine k_put (ci := 0) (C := RX0) (T := TX0) (N := 9) (ty := .int) (w := (fun z => wHo cI a z)) hx hb hts inX0 tyX0 tyX0_ok nmX0 hown hK hP hD hS 0 rfl rfl 0 (by decide) ln1 (fun _ h9 => h9) rfl (by decide +kernel) rfl rfl (Nat.le_of_ble_eq_true rfl) (cN := 0) hf rfl dX0_lift_11 (fun z2 H locs hP hS hf => ?_)
    refine lv_iconst (v := (1 : Int32)) hx hb dX0_lift_14 (by decide) ?_
    exact W_zret (fun z => wHo cI a z) hx hb hr hlk hP hS hAe hf dX0_lift_15
  · refine lv_iconst (v := (0 : Int32)) hx hb dX0_lift_7 (by decide) ?_
    exact W_zret (fun z => wHo cI a z) hx hb hr hlk hP hS hAe hf dX0_lift_8
def fX0_isSide (N : Nat) (p1 : Int32) : Option Int32 :=
    if p1 < 0 then zr (0 : Int32)
    else if (2 : Int32) ≤ p1 then zr (0 : Int32)
    else zr (1 : Int32)
abbrev rmX0_isSide : Room := { frames := 0, cells := 0, slots := 0, locals := 0 }
theorem qX0_isSide : yX0_isSide.cls ≠ "java/lang/invoke/MethodHandle" ∧ yX0_isSide.cls ≠ "java/lang/invoke/VarHandle" ∧ (parseMethodDescriptor yX0_isSide.desc).map (fun d => d.parameters.length) = some 1 := by decide +kernel
set_option maxHeartbeats 400000 in
set_option maxRecDepth 100000 in
theorem mX0_isSide (l : Launch) (D : va_G) (cI cJ : ClassId) (sz N : Nat) (p1 : Int32) (r : Int32) (hf : fX0_isSide N p1 = some r) : Met l yX0_isSide wsX0_isSide rmX0_isSide (RPre ([.int p1] : List Value) sz D (tyIJ cI cJ) (wNo)) (RQi sz r) 0 0 (fr0 sz) := by
  refine R_start (cc := cX0_isSide) (maxL := 1) (ret := (some .boolean)) (by decide) rfl (Nat.le_of_ble_eq_true rfl) (fun p e s m below meth c ls hx hb hr hml hown hts hlk hP hK hS hA hsz hl => ?_)
  have hown : s.vm.findClass RX0 = some m.cls := hown
  have hl : lv_has ls 1 [(0, .int p1)] := hl
  unfold fX0_isSide at hf
  refine lv_iload_n hx hb dX0_isSide_0 rfl (lv_at hl 0 rfl) ?_
  refine k_if_lt (tgt := 13) hx hb dX0_isSide_1 (by decide) hf (fun hf => ?_) (fun hf => ?_)
  · refine lv_iconst (v := (0 : Int32)) hx hb dX0_isSide_13 (by decide) ?_
    exact R_zret hx hb hr hlk hS hsz hf dX0_isSide_14
  · refine lv_iload_n hx hb dX0_isSide_4 rfl (lv_at hl 0 rfl) ?_
    refine lv_iconst (v := (2 : Int32)) hx hb dX0_isSide_5 (by decide) ?_
    refine k_icmp_ge (tgt := 13) hx hb dX0_isSide_6 (by decide) hf (fun hf => ?_) (fun hf => ?_)
    · refine lv_iconst (v := (0 : Int32)) hx hb dX0_isSide_13 (by decide) ?_
      exact R_zret hx hb hr hlk hS hsz hf dX0_isSide_14
    · refine lv_iconst (v := (1 : Int32)) hx hb dX0_isSide_9 (by decide) ?_
      refine lv_goto (tgt := 14) hx hb dX0_isSide_10 (by decide) ?_
      exact R_zret hx hb hr hlk hS hsz hf dX0_isSide_14
def fX0_load (N : Nat) (σ : St) (p1 : Int32) (p2 : Int32) : Option (Int32 × St) :=
    bo (fX0_isSide N p1) (fun v1 =>
    if v1 = 0 then bo (zr (0 : Int32)) (fun v => some (v, σ))
    else if p2 < 0 then bo (zr (0 : Int32)) (fun v => some (v, σ))
    else if p2 ≤ (50 : Int32) then bo (wrI σ 1 2 p1 p2) (fun z2 =>
    bo (zr (1 : Int32)) (fun v => some (v, z2)))
    else bo (zr (0 : Int32)) (fun v => some (v, σ)))
abbrev rmX0_load : Room := { frames := 1, cells := 0, slots := 0, locals := 20 }
theorem qX0_load : yX0_load.cls = RX0 ∧ yX0_load.cls ≠ "java/lang/invoke/MethodHandle" ∧ yX0_load.cls ≠ "java/lang/invoke/VarHandle" ∧ (parseMethodDescriptor yX0_load.desc).map (fun d => d.parameters.length) = some 2 := by decide +kernel
set_option maxHeartbeats 400000 in
set_option maxRecDepth 100000 in
theorem mX0_load (l : Launch) (D : va_G) (cI cJ : ClassId) (a : Nat → Nat) (sz N : Nat) (σ : St) (p1 : Int32) (p2 : Int32) (r : (Int32 × St)) (hf : fX0_load N σ p1 p2 = some r) : Met l yX0_load wsX0_load rmX0_load (WPre ([.ref (a 0), .int p1, .int p2] : List Value) sz D (tyIJ cI cJ) (wHo cI a σ)) (WQi sz D (wHo cI a σ) (wHo cI a (r.2)) r.1) 0 0 (va_A (wHo cI a σ) sz) := by
  refine W_start (cc := cX0_load) (maxL := 3) (ret := (some .boolean)) (by decide) rfl (Nat.le_of_ble_eq_true rfl) (fun p e s m below meth c ls A hx hb hr hml hown hts hlk hP hK hS hA hD0 hAe hl => ?_)
  have hD : ∀ z, va_D A ((fun z => wHo cI a z) z) := fun z => hD0.ad rfl
  have hown : s.vm.findClass RX0 = some m.cls := hown
  have hl : lv_has ls 3 [(0, .ref (a 0)), (1, .int p1), (2, .int p2)] := hl
  have ln1 := hts (Cond.fieldLink RX0 25 "HoistsAreShared$Hoist" "ballasts" "[I") (List.mem_of_getElem? (i := 1) rfl)
  have inX0 : ∀ w ∈ u_ws RX0 TX0 9, w ∈ wsX0_load := fun _ h => List.mem_cons_of_mem _ (List.mem_append_right _ h)
  unfold fX0_load at hf
  refine lv_iload_n hx hb dX0_load_0 rfl (lv_at hl 1 rfl) ?_
  refine c_callS (As := [.int p1]) (rest := []) ⟨hx, hb, hml, hown, hts⟩ hf (fun vq hq => mX0_isSide l D cI cJ s.heap.size N p1 vq hq) (va_cwS 1 hts gX0_load_X0_isSide rfl rfl rfl qX0_isSide ⟨Nat.le_of_ble_eq_true rfl, Nat.le_of_ble_eq_true rfl⟩) hK hP hS hA va_P_nil rfl hl.1 rfl (Nat.le_of_ble_eq_true rfl) dX0_load_1 ⟨Nat.le_refl _, Nat.le_refl _⟩ (fun v1 H locs hP hS hf => ?_)
  refine k_if_eq (tgt := 17) hx hb dX0_load_4 (by decide) hf (fun hf => ?_) (fun hf => ?_)
  · refine lv_iconst (v := (0 : Int32)) hx hb dX0_load_17 (by decide) ?_
    exact W_zret (fun z => wHo cI a z) hx hb hr hlk hP hS hAe hf dX0_load_18
  · refine lv_iload_n hx hb dX0_load_7 rfl (lv_at hl 2 rfl) ?_
    refine k_if_lt (tgt := 17) hx hb dX0_load_8 (by decide) hf (fun hf => ?_) (fun hf => ?_)
    · refine lv_iconst (v := (0 : Int32)) hx hb dX0_load_17 (by decide) ?_
      exact W_zret (fun z => wHo cI a z) hx hb hr hlk hP hS hAe hf dX0_load_18
    · refine lv_iload_n hx hb dX0_load_11 rfl (lv_at hl 2 rfl) ?_
      refine lv_bipush (v := (50 : Int32)) hx hb dX0_load_12 (by decide) ?_
      refine k_icmp_le (tgt := 19) hx hb dX0_load_14 (by decide) hf (fun hf => ?_) (fun hf => ?_)
      · refine lv_aload_n hx hb dX0_load_19 rfl (lv_at hl 0 rfl) ?_
        refine va_get (D := D) (ci := 0) (v := .ref (a 1)) (C := RX0) (T := TX0) (N := 9) hx hb hts inX0 hown hK hP 0 rfl rfl 4 (by decide) ln1 (fun _ h9 => h9) rfl dX0_load_20 ?_
        refine lv_iload_n hx hb dX0_load_23 rfl (lv_at hl 1 rfl) ?_
        refine lv_iload_n hx hb dX0_load_24 rfl (lv_at hl 2 rfl) ?_
        refine k_iast (w := (fun z => wHo cI a z)) hx hb hK hP hD hS 1 0 hf rfl rfl (fun _ => rfl) dX0_load_25 (fun z2 H locs hP hS hf => ?_)
        refine lv_iconst (v := (1 : Int32)) hx hb dX0_load_26 (by decide) ?_
        exact W_zret (fun z => wHo cI a z) hx hb hr hlk hP hS hAe hf dX0_load_27
      · refine lv_iconst (v := (0 : Int32)) hx hb dX0_load_17 (by decide) ?_
        exact W_zret (fun z => wHo cI a z) hx hb hr hlk hP hS hAe hf dX0_load_18
def fX0_hasDays (N : Nat) (σ : St) (p1 : Int32) : Option Int32 :=
    if p1 < (1 : Int32) then zr (0 : Int32)
    else if (60 : Int32) < p1 then zr (0 : Int32)
    else if (999 : Int32) < ((σ 0 2) + p1) then zr (0 : Int32)
    else zr (1 : Int32)
abbrev rmX0_hasDays : Room := { frames := 0, cells := 0, slots := 0, locals := 0 }
theorem qX0_hasDays : yX0_hasDays.cls = RX0 ∧ yX0_hasDays.cls ≠ "java/lang/invoke/MethodHandle" ∧ yX0_hasDays.cls ≠ "java/lang/invoke/VarHandle" ∧ (parseMethodDescriptor yX0_hasDays.desc).map (fun d => d.parameters.length) = some 1 := by decide +kernel
set_option maxHeartbeats 400000 in
set_option maxRecDepth 100000 in
theorem mX0_hasDays (l : Launch) (D : va_G) (cI cJ : ClassId) (a : Nat → Nat) (sz N : Nat) (σ : St) (p1 : Int32) (r : Int32) (hf : fX0_hasDays N σ p1 = some r) : Met l yX0_hasDays wsX0_hasDays rmX0_hasDays (RPre ([.ref (a 0), .int p1] : List Value) sz D (tyIJ cI cJ) (wHo cI a σ)) (RQi sz r) 0 0 (fr0 sz) := by
  refine R_start (cc := cX0_hasDays) (maxL := 2) (ret := (some .boolean)) (by decide) rfl (Nat.le_of_ble_eq_true rfl) (fun p e s m below meth c ls hx hb hr hml hown hts hlk hP hK hS hA hsz hl => ?_)
  have hown : s.vm.findClass RX0 = some m.cls := hown
  have hl : lv_has ls 2 [(0, .ref (a 0)), (1, .int p1)] := hl
  have ln1 := hts (Cond.fieldLink RX0 19 "HoistsAreShared$Hoist" "day" "I") (List.mem_of_getElem? (i := 1) rfl)
  have inX0 : ∀ w ∈ u_ws RX0 TX0 9, w ∈ wsX0_hasDays := fun _ h => List.mem_cons_of_mem _ (List.mem_append_right _ h)
  unfold fX0_hasDays at hf
  refine lv_iload_n hx hb dX0_hasDays_0 rfl (lv_at hl 1 rfl) ?_
  refine lv_iconst (v := (1 : Int32)) hx hb dX0_hasDays_1 (by decide) ?_
  refine k_icmp_lt (tgt := 27) hx hb dX0_hasDays_2 (by decide) hf (fun hf => ?_) (fun hf => ?_)
  · refine lv_iconst (v := (0 : Int32)) hx hb dX0_hasDays_27 (by decide) ?_
    exact R_zret hx hb hr hlk hS hsz hf dX0_hasDays_28
  · refine lv_iload_n hx hb dX0_hasDays_5 rfl (lv_at hl 1 rfl) ?_
    refine lv_bipush (v := (60 : Int32)) hx hb dX0_hasDays_6 (by decide) ?_
    refine k_icmp_gt (tgt := 27) hx hb dX0_hasDays_8 (by decide) hf (fun hf => ?_) (fun hf => ?_)
    · refine lv_iconst (v := (0 : Int32)) hx hb dX0_hasDays_27 (by decide) ?_
      exact R_zret hx hb hr hlk hS hsz hf dX0_hasDays_28
    · refine lv_aload_n hx hb dX0_hasDays_11 rfl (lv_at hl 0 rfl) ?_
      refine va_get (D := D) (ci := 0) (v := .int (σ 0 2)) (C := RX0) (T := TX0) (N := 9) hx hb hts inX0 hown hK hP 0 rfl rfl 2 (by decide) ln1 (fun _ h9 => h9) rfl dX0_hasDays_12 ?_
      refine lv_iload_n hx hb dX0_hasDays_15 rfl (lv_at hl 1 rfl) ?_
      refine lv_iadd hx hb dX0_hasDays_16 ?_
      refine lv_sipush (v := (999 : Int32)) hx hb dX0_hasDays_17 (by decide) ?_
      refine k_icmp_gt (tgt := 27) hx hb dX0_hasDays_20 (by decide) hf (fun hf => ?_) (fun hf => ?_)
      · refine lv_iconst (v := (0 : Int32)) hx hb dX0_hasDays_27 (by decide) ?_
        exact R_zret hx hb hr hlk hS hsz hf dX0_hasDays_28
      · refine lv_iconst (v := (1 : Int32)) hx hb dX0_hasDays_23 (by decide) ?_
        refine lv_goto (tgt := 28) hx hb dX0_hasDays_24 (by decide) ?_
        exact R_zret hx hb hr hlk hS hsz hf dX0_hasDays_28
def fX0_speedBy (N : Nat) (p1 : Int32) : Option Int32 :=
    lt_ (absI p1) (fun v1 =>
    lt_ (minI (v1 / (4 : Int32)) (3 : Int32)) (fun v2 =>
    some v2))
abbrev rmX0_speedBy : Room := { frames := 1, cells := 0, slots := 0, locals := 24 }
theorem qX0_speedBy : yX0_speedBy.cls ≠ "java/lang/invoke/MethodHandle" ∧ yX0_speedBy.cls ≠ "java/lang/invoke/VarHandle" ∧ (parseMethodDescriptor yX0_speedBy.desc).map (fun d => d.parameters.length) = some 1 := by decide +kernel
set_option maxHeartbeats 400000 in
set_option maxRecDepth 100000 in
theorem mX0_speedBy (l : Launch) (D : va_G) (cI cJ : ClassId) (sz N : Nat) (p1 : Int32) (r : Int32) (hf : fX0_speedBy N p1 = some r) : Met l yX0_speedBy wsX0_speedBy rmX0_speedBy (RPre ([.int p1] : List Value) sz D (tyIJ cI cJ) (wNo)) (RQi sz r) 0 0 (fr0 sz) := by
  refine R_start (cc := cX0_speedBy) (maxL := 1) (ret := (some .int)) (by decide) rfl (Nat.le_of_ble_eq_true rfl) (fun p e s m below meth c ls hx hb hr hml hown hts hlk hP hK hS hA hsz hl => ?_)
  have hown : s.vm.findClass RX0 = some m.cls := hown
  have hl : lv_has ls 1 [(0, .int p1)] := hl
  have ln1 := hts (Cond.methodLink RX0 90 Lib.Math.abs.name) (List.mem_of_getElem? (i := 1) rfl)
  have ln2 := hts (Cond.static Lib.Math.abs.name) (List.mem_of_getElem? (i := 2) rfl)
  have ln3 := hts (Cond.initialized "java/lang/Math") (List.mem_of_getElem? (i := 3) rfl)
  have ln4 := hts (Cond.code Lib.Math.abs.name Lib.Math.abs.code 1 (some .int)) (List.mem_of_getElem? (i := 4) rfl)
  have ln5 := hts (Cond.methodLink RX0 73 Lib.Math.min.name) (List.mem_of_getElem? (i := 5) rfl)
  have ln6 := hts (Cond.static Lib.Math.min.name) (List.mem_of_getElem? (i := 6) rfl)
  have ln7 := hts (Cond.code Lib.Math.min.name Lib.Math.min.code 2 (some .int)) (List.mem_of_getElem? (i := 7) rfl)
  unfold fX0_speedBy at hf
  refine lv_iload_n hx hb dX0_speedBy_0 rfl (lv_at hl 0 rfl) ?_
  refine k_mabs hx hb (hml.trans hl.1.symm) hown ln1 ln2 ln3 ln4 (Nat.le_of_ble_eq_true rfl) (Nat.le_of_ble_eq_true rfl) (Nat.zero_le _) (Nat.zero_le _) dX0_speedBy_1 hf (fun v1 hf => ?_)
  refine lv_iconst (v := (4 : Int32)) hx hb dX0_speedBy_4 (by decide) ?_
  refine lv_idiv hx hb dX0_speedBy_5 (by decide) ?_
  refine lv_iconst (v := (3 : Int32)) hx hb dX0_speedBy_6 (by decide) ?_
  refine k_mmin hx hb (hml.trans hl.1.symm) hown ln5 ln6 ln3 ln7 (Nat.le_of_ble_eq_true rfl) (Nat.le_of_ble_eq_true rfl) (Nat.zero_le _) (Nat.zero_le _) dX0_speedBy_7 hf (fun v2 hf => ?_)
  exact R_iret hx hb hr hlk hS hsz hf dX0_speedBy_10
def fX0_moved_L19 (N : Nat)  (y0 : Int32) : Option Int32 :=
    lt_ (minI (20 : Int32) y0) (fun v2 =>
    lt_ (maxI (0 : Int32) v2) (fun v3 =>
    some v3))
def fX0_moved (N : Nat) (p1 : Int32) (p2 : Int32) : Option Int32 :=
    if p2 ≤ 0 then bo (fX0_speedBy N p2) (fun v1 =>
    fX0_moved_L19 N  (p1 + v1))
    else bo (fX0_speedBy N p2) (fun v4 =>
    fX0_moved_L19 N  (p1 - v4))
abbrev rmX0_moved : Room := { frames := 2, cells := 0, slots := 0, locals := 44 }
theorem qX0_moved : yX0_moved.cls ≠ "java/lang/invoke/MethodHandle" ∧ yX0_moved.cls ≠ "java/lang/invoke/VarHandle" ∧ (parseMethodDescriptor yX0_moved.desc).map (fun d => d.parameters.length) = some 2 := by decide +kernel
set_option maxHeartbeats 400000 in
set_option maxRecDepth 100000 in
theorem mX0_moved (l : Launch) (D : va_G) (cI cJ : ClassId) (sz N : Nat) (p1 : Int32) (p2 : Int32) (r : Int32) (hf : fX0_moved N p1 p2 = some r) : Met l yX0_moved wsX0_moved rmX0_moved (RPre ([.int p1, .int p2] : List Value) sz D (tyIJ cI cJ) (wNo)) (RQi sz r) 0 0 (fr0 sz) := by
  refine R_start (cc := cX0_moved) (maxL := 3) (ret := (some .int)) (by decide) rfl (Nat.le_of_ble_eq_true rfl) (fun p e s m below meth c ls hx hb hr hml hown hts hlk hP hK hS hA hsz hl => ?_)
  have hown : s.vm.findClass RX0 = some m.cls := hown
  have hl : lv_has ls 3 [(0, .int p1), (1, .int p2)] := hl
  have ln1 := hts (Cond.methodLink RX0 73 Lib.Math.min.name) (List.mem_of_getElem? (i := 1) rfl)
  have ln2 := hts (Cond.static Lib.Math.min.name) (List.mem_of_getElem? (i := 2) rfl)
  have ln3 := hts (Cond.initialized "java/lang/Math") (List.mem_of_getElem? (i := 3) rfl)
  have ln4 := hts (Cond.code Lib.Math.min.name Lib.Math.min.code 2 (some .int)) (List.mem_of_getElem? (i := 4) rfl)
  have ln5 := hts (Cond.methodLink RX0 78 Lib.Math.max.name) (List.mem_of_getElem? (i := 5) rfl)
  have ln6 := hts (Cond.static Lib.Math.max.name) (List.mem_of_getElem? (i := 6) rfl)
  have ln7 := hts (Cond.code Lib.Math.max.name Lib.Math.max.code 2 (some .int)) (List.mem_of_getElem? (i := 7) rfl)
  have b19 : ∀  (y0 : Int32) (H : Heap) (locs : List Loc) (ls : Array Slot), va_P D vwCl (wNo) H → va_S (fr0 s.heap.size) s.heap H locs → lv_has ls 3 [] → fX0_moved_L19 N y0 = some r → W p l e rmX0_moved s m ([.int p1, .int p2] : List Value).toArray below meth c H locs 0 0 (MQ below (RQi sz r) ([.int p1, .int p2] : List Value).toArray s 0 0 (fr0 sz)) (F0 m 19 ls [.int y0]) := by
    intro  y0 H locs ls hP hS hl hf
    unfold fX0_moved_L19 at hf
    refine lv_istore_n (lv' := [(2, .int y0)]) hx hb dX0_moved_19 rfl hl (by decide) rfl (fun ls hl => ?_)
    refine lv_iconst (v := (0 : Int32)) hx hb dX0_moved_20 (by decide) ?_
    refine lv_bipush (v := (20 : Int32)) hx hb dX0_moved_21 (by decide) ?_
    refine lv_iload_n hx hb dX0_moved_23 rfl (lv_at hl 0 rfl) ?_
    refine k_mmin hx hb (hml.trans hl.1.symm) hown ln1 ln2 ln3 ln4 (Nat.le_of_ble_eq_true rfl) (Nat.le_of_ble_eq_true rfl) (Nat.zero_le _) (Nat.zero_le _) dX0_moved_24 hf (fun v2 hf => ?_)
    refine k_mmax hx hb (hml.trans hl.1.symm) hown ln5 ln6 ln3 ln7 (Nat.le_of_ble_eq_true rfl) (Nat.le_of_ble_eq_true rfl) (Nat.zero_le _) (Nat.zero_le _) dX0_moved_27 hf (fun v3 hf => ?_)
    exact R_iret hx hb hr hlk hS hsz hf dX0_moved_30
  unfold fX0_moved at hf
  refine lv_iload_n hx hb dX0_moved_0 rfl (lv_at hl 1 rfl) ?_
  refine k_if_le (tgt := 13) hx hb dX0_moved_1 (by decide) hf (fun hf => ?_) (fun hf => ?_)
  · refine lv_iload_n hx hb dX0_moved_13 rfl (lv_at hl 0 rfl) ?_
    refine lv_iload_n hx hb dX0_moved_14 rfl (lv_at hl 1 rfl) ?_
    refine c_callS (As := [.int p2]) (rest := [.int p1]) ⟨hx, hb, hml, hown, hts⟩ hf (fun vq hq => mX0_speedBy l D cI cJ s.heap.size N p2 vq hq) (va_cwS 1 hts gX0_moved_X0_speedBy rfl rfl rfl qX0_speedBy ⟨Nat.le_of_ble_eq_true rfl, Nat.le_of_ble_eq_true rfl⟩) hK hP hS hA hP rfl hl.1 rfl (Nat.le_of_ble_eq_true rfl) dX0_moved_15 ⟨Nat.le_refl _, Nat.le_refl _⟩ (fun v1 H locs hP hS hf => ?_)
    refine lv_iadd hx hb dX0_moved_18 ?_
    exact b19  (p1 + v1) H locs ls hP hS (lv_sub hl [] rfl) hf
  · refine lv_iload_n hx hb dX0_moved_4 rfl (lv_at hl 0 rfl) ?_
    refine lv_iload_n hx hb dX0_moved_5 rfl (lv_at hl 1 rfl) ?_
    refine c_callS (As := [.int p2]) (rest := [.int p1]) ⟨hx, hb, hml, hown, hts⟩ hf (fun vq hq => mX0_speedBy l D cI cJ s.heap.size N p2 vq hq) (va_cwS 1 hts gX0_moved_X0_speedBy rfl rfl rfl qX0_speedBy ⟨Nat.le_of_ble_eq_true rfl, Nat.le_of_ble_eq_true rfl⟩) hK hP hS hA hP rfl hl.1 rfl (Nat.le_of_ble_eq_true rfl) dX0_moved_6 ⟨Nat.le_refl _, Nat.le_refl _⟩ (fun v4 H locs hP hS hf => ?_)
    refine lv_isub hx hb dX0_moved_9 ?_
    refine lv_goto (tgt := 19) hx hb dX0_moved_10 (by decide) ?_
    exact b19  (p1 - v4) H locs ls hP hS (lv_sub hl [] rfl) hf
def fX0_weighs (N : Nat) (σ : St) (p1 : Int32) (p2 : Int32) : Option Int32 :=
    bo (fX0_has N σ p1) (fun v1 =>
    if v1 = 0 then some (0 : Int32)
    else lt_ (((σ 0 2) + p2) : Int32) (fun v2 =>
    bo (rdI σ 3 8 p1) (fun v3 =>
    lt_ ((v3 + (1 : Int32)) : Int32) (fun v4 =>
    bo (rdI σ 5 8 p1) (fun v5 =>
    lt_ (minI ((v2 - v5) / (2 : Int32)) (20 : Int32)) (fun v6 =>
    lt_ ((v4 + v6) : Int32) (fun v7 =>
    bo (rdI σ 2 8 p1) (fun v8 =>
    if v8 = (1 : Int32) then some ((2 : Int32) * v4)
    else if v8 = (2 : Int32) then some v7
    else if v8 = (3 : Int32) then if (5 : Int32) ≤ (v2 - v2 / (10 : Int32) * (10 : Int32)) then some ((3 : Int32) * v4)
    else some v4
    else if v8 = (4 : Int32) then some (((2 : Int32) * v4) + (3 : Int32))
    else if v8 = (5 : Int32) then lt_ (maxI ((30 : Int32) - v7) (0 : Int32)) (fun v13 =>
    some v13)
    else some v4))))))))
abbrev rmX0_weighs : Room := { frames := 1, cells := 0, slots := 0, locals := 24 }
theorem qX0_weighs : yX0_weighs.cls = RX0 ∧ yX0_weighs.cls ≠ "java/lang/invoke/MethodHandle" ∧ yX0_weighs.cls ≠ "java/lang/invoke/VarHandle" ∧ (parseMethodDescriptor yX0_weighs.desc).map (fun d => d.parameters.length) = some 2 := by decide +kernel
set_option maxHeartbeats 400000 in
set_option maxRecDepth 100000 in
theorem mX0_weighs (l : Launch) (D : va_G) (cI cJ : ClassId) (a : Nat → Nat) (sz N : Nat) (σ : St) (p1 : Int32) (p2 : Int32) (r : Int32) (hf : fX0_weighs N σ p1 p2 = some r) : Met l yX0_weighs wsX0_weighs rmX0_weighs (RPre ([.ref (a 0), .int p1, .int p2] : List Value) sz D (tyIJ cI cJ) (wHo cI a σ)) (RQi sz r) 0 0 (fr0 sz) := by
  refine R_start (cc := cX0_weighs) (maxL := 6) (ret := (some .int)) (by decide) rfl (Nat.le_of_ble_eq_true rfl) (fun p e s m below meth c ls hx hb hr hml hown hts hlk hP hK hS hA hsz hl => ?_)
  have hown : s.vm.findClass RX0 = some m.cls := hown
  have hl : lv_has ls 6 [(0, .ref (a 0)), (1, .int p1), (2, .int p2)] := hl
  have ln1 := hts (Cond.fieldLink RX0 19 "HoistsAreShared$Hoist" "day" "I") (List.mem_of_getElem? (i := 1) rfl)
  have inX0 : ∀ w ∈ u_ws RX0 TX0 9, w ∈ wsX0_weighs := fun _ h => List.mem_cons_of_mem _ (List.mem_append_right _ h)
  have ln3 := hts (Cond.fieldLink RX0 32 "HoistsAreShared$Hoist" "figures" "[I") (List.mem_of_getElem? (i := 2) rfl)
  have ln4 := hts (Cond.fieldLink RX0 38 "HoistsAreShared$Hoist" "sinces" "[I") (List.mem_of_getElem? (i := 3) rfl)
  have ln5 := hts (Cond.methodLink RX0 73 Lib.Math.min.name) (List.mem_of_getElem? (i := 4) rfl)
  have ln6 := hts (Cond.static Lib.Math.min.name) (List.mem_of_getElem? (i := 5) rfl)
  have ln7 := hts (Cond.initialized "java/lang/Math") (List.mem_of_getElem? (i := 6) rfl)
  have ln8 := hts (Cond.code Lib.Math.min.name Lib.Math.min.code 2 (some .int)) (List.mem_of_getElem? (i := 7) rfl)
  have ln9 := hts (Cond.fieldLink RX0 29 "HoistsAreShared$Hoist" "kinds" "[I") (List.mem_of_getElem? (i := 8) rfl)
  have ln10 := hts (Cond.methodLink RX0 78 Lib.Math.max.name) (List.mem_of_getElem? (i := 9) rfl)
  have ln11 := hts (Cond.static Lib.Math.max.name) (List.mem_of_getElem? (i := 10) rfl)
  have ln12 := hts (Cond.code Lib.Math.max.name Lib.Math.max.code 2 (some .int)) (List.mem_of_getElem? (i := 11) rfl)
  unfold fX0_weighs at hf
  refine lv_aload_n hx hb dX0_weighs_0 rfl (lv_at hl 0 rfl) ?_
  refine lv_iload_n hx hb dX0_weighs_1 rfl (lv_at hl 1 rfl) ?_
  refine c_callV (As := [.int p1]) (rest := []) ⟨hx, hb, hml, hown, hts⟩ hf (fun vq hq => mX0_has l D cI cJ a s.heap.size N σ p1 vq hq) (cwV 1 hts gX0_weighs_X0_has rfl rfl rfl qX0_has ⟨Nat.le_of_ble_eq_true rfl, Nat.le_of_ble_eq_true rfl⟩) hK hP hS hA hP 0 rfl rfl rfl rfl hl.1 rfl (Nat.le_of_ble_eq_true rfl) dX0_weighs_2 ⟨Nat.le_refl _, Nat.le_refl _⟩ (fun v1 H locs hP hS hf => ?_)
  refine k_if_ne (tgt := 10) hx hb dX0_weighs_5 (by decide) hf (fun hf => ?_) (fun hf => ?_)
  · refine lv_aload_n hx hb dX0_weighs_10 rfl (lv_at hl 0 rfl) ?_
    refine va_get (D := D) (ci := 0) (v := .int (σ 0 2)) (C := RX0) (T := TX0) (N := 9) hx hb hts inX0 hown hK hP 0 rfl rfl 2 (by decide) ln1 (fun _ h9 => h9) rfl dX0_weighs_11 ?_
    refine lv_iload_n hx hb dX0_weighs_14 rfl (lv_at hl 2 rfl) ?_
    refine lv_iadd hx hb dX0_weighs_15 ?_
    refine k_let hf (fun v2 hf => ?_)
    refine lv_istore_n (lv' := [(3, .int v2), (0, .ref (a 0)), (1, .int p1), (2, .int p2)]) hx hb dX0_weighs_16 rfl hl (by decide) rfl (fun ls hl => ?_)
    refine lv_aload_n hx hb dX0_weighs_17 rfl (lv_at hl 1 rfl) ?_
    refine va_get (D := D) (ci := 0) (v := .ref (a 3)) (C := RX0) (T := TX0) (N := 9) hx hb hts inX0 hown hK hP 0 rfl rfl 6 (by decide) ln3 (fun _ h9 => h9) rfl dX0_weighs_18 ?_
    refine lv_iload_n hx hb dX0_weighs_21 rfl (lv_at hl 2 rfl) ?_
    refine k_iald hx hb hK hP 3 0 hf rfl rfl dX0_weighs_22 (fun v3 hf => ?_)
    refine lv_iconst (v := (1 : Int32)) hx hb dX0_weighs_23 (by decide) ?_
    refine lv_iadd hx hb dX0_weighs_24 ?_
    refine k_let hf (fun v4 hf => ?_)
    refine lv_istore (lv' := [(4, .int v4), (3, .int v2), (0, .ref (a 0)), (1, .int p1), (2, .int p2)]) hx hb dX0_weighs_25 hl (by decide) rfl (fun ls hl => ?_)
    refine lv_iload hx hb dX0_weighs_27 (lv_at hl 0 rfl) ?_
    refine lv_iload_n hx hb dX0_weighs_29 rfl (lv_at hl 1 rfl) ?_
    refine lv_aload_n hx hb dX0_weighs_30 rfl (lv_at hl 2 rfl) ?_
    refine va_get (D := D) (ci := 0) (v := .ref (a 5)) (C := RX0) (T := TX0) (N := 9) hx hb hts inX0 hown hK hP 0 rfl rfl 8 (by decide) ln4 (fun _ h9 => h9) rfl dX0_weighs_31 ?_
    refine lv_iload_n hx hb dX0_weighs_34 rfl (lv_at hl 3 rfl) ?_
    refine k_iald hx hb hK hP 5 0 hf rfl rfl dX0_weighs_35 (fun v5 hf => ?_)
    refine lv_isub hx hb dX0_weighs_36 ?_
    refine lv_iconst (v := (2 : Int32)) hx hb dX0_weighs_37 (by decide) ?_
    refine lv_idiv hx hb dX0_weighs_38 (by decide) ?_
    refine lv_bipush (v := (20 : Int32)) hx hb dX0_weighs_39 (by decide) ?_
    refine k_mmin hx hb (hml.trans hl.1.symm) hown ln5 ln6 ln7 ln8 (Nat.le_of_ble_eq_true rfl) (Nat.le_of_ble_eq_true rfl) (Nat.zero_le _) (Nat.zero_le _) dX0_weighs_41 hf (fun v6 hf => ?_)
    refine lv_iadd hx hb dX0_weighs_44 ?_
    refine k_let hf (fun v7 hf => ?_)
    refine lv_istore (lv' := [(5, .int v7), (4, .int v4), (3, .int v2), (0, .ref (a 0)), (1, .int p1), (2, .int p2)]) hx hb dX0_weighs_45 hl (by decide) rfl (fun ls hl => ?_)
    refine lv_aload_n hx hb dX0_weighs_47 rfl (lv_at hl 3 rfl) ?_
    refine va_get (D := D) (ci := 0) (v := .ref (a 2)) (C := RX0) (T := TX0) (N := 9) hx hb hts inX0 hown hK hP 0 rfl rfl 5 (by decide) ln9 (fun _ h9 => h9) rfl dX0_weighs_48 ?_
    refine lv_iload_n hx hb dX0_weighs_51 rfl (lv_at hl 4 rfl) ?_
    refine k_iald hx hb hK hP 2 0 hf rfl rfl dX0_weighs_52 (fun v8 hf => ?_)
    refine sw_if hf (fun c9 hf => ?_) (fun c9 hf => ?_)
    · refine lv_tableIn (off := 35) (tgt := 88) hx hb dX0_weighs_53 (by rw [c9]; decide) (by rw [c9]; decide) (by rw [c9]; decide) (by decide) ?_
      refine lv_iconst (v := (2 : Int32)) hx hb dX0_weighs_88 (by decide) ?_
      refine lv_iload hx hb dX0_weighs_89 (lv_at hl 1 rfl) ?_
      refine lv_imul hx hb dX0_weighs_91 ?_
      exact R_iret hx hb hr hlk hS hsz hf dX0_weighs_92
    · have c9 := i32_ne c9 (n := 1) (by decide)
      refine sw_if hf (fun c10 hf => ?_) (fun c10 hf => ?_)
      · refine lv_tableIn (off := 40) (tgt := 93) hx hb dX0_weighs_53 (by rw [c10]; decide) (by rw [c10]; decide) (by rw [c10]; decide) (by decide) ?_
        refine lv_iload hx hb dX0_weighs_93 (lv_at hl 0 rfl) ?_
        exact R_iret hx hb hr hlk hS hsz hf dX0_weighs_95
      · have c10 := i32_ne c10 (n := 2) (by decide)
        refine sw_if hf (fun c11 hf => ?_) (fun c11 hf => ?_)
        · refine lv_tableIn (off := 43) (tgt := 96) hx hb dX0_weighs_53 (by rw [c11]; decide) (by rw [c11]; decide) (by rw [c11]; decide) (by decide) ?_
          refine lv_iload_n hx hb dX0_weighs_96 rfl (lv_at hl 2 rfl) ?_
          refine lv_bipush (v := (10 : Int32)) hx hb dX0_weighs_97 (by decide) ?_
          refine lv_irem hx hb dX0_weighs_99 (by decide) ?_
          refine lv_iconst (v := (5 : Int32)) hx hb dX0_weighs_100 (by decide) ?_
          refine k_icmp_ge (tgt := 109) hx hb dX0_weighs_101 (by decide) hf (fun hf => ?_) (fun hf => ?_)
          · refine lv_iconst (v := (3 : Int32)) hx hb dX0_weighs_109 (by decide) ?_
            refine lv_iload hx hb dX0_weighs_110 (lv_at hl 1 rfl) ?_
            refine lv_imul hx hb dX0_weighs_112 ?_
            exact R_iret hx hb hr hlk hS hsz hf dX0_weighs_113
          · refine lv_iload hx hb dX0_weighs_104 (lv_at hl 1 rfl) ?_
            refine lv_goto (tgt := 113) hx hb dX0_weighs_106 (by decide) ?_
            exact R_iret hx hb hr hlk hS hsz hf dX0_weighs_113
        · have c11 := i32_ne c11 (n := 3) (by decide)
          refine sw_if hf (fun c12 hf => ?_) (fun c12 hf => ?_)
          · refine lv_tableIn (off := 61) (tgt := 114) hx hb dX0_weighs_53 (by rw [c12]; decide) (by rw [c12]; decide) (by rw [c12]; decide) (by decide) ?_
            refine lv_iconst (v := (2 : Int32)) hx hb dX0_weighs_114 (by decide) ?_
            refine lv_iload hx hb dX0_weighs_115 (lv_at hl 1 rfl) ?_
            refine lv_imul hx hb dX0_weighs_117 ?_
            refine lv_iconst (v := (3 : Int32)) hx hb dX0_weighs_118 (by decide) ?_
            refine lv_iadd hx hb dX0_weighs_119 ?_
            exact R_iret hx hb hr hlk hS hsz hf dX0_weighs_120
          · have c12 := i32_ne c12 (n := 4) (by decide)
            refine sw_if hf (fun c14 hf => ?_) (fun c14 hf => ?_)
            · refine lv_tableIn (off := 68) (tgt := 121) hx hb dX0_weighs_53 (by rw [c14]; decide) (by rw [c14]; decide) (by rw [c14]; decide) (by decide) ?_
              refine lv_bipush (v := (30 : Int32)) hx hb dX0_weighs_121 (by decide) ?_
              refine lv_iload hx hb dX0_weighs_123 (lv_at hl 0 rfl) ?_
              refine lv_isub hx hb dX0_weighs_125 ?_
              refine lv_iconst (v := (0 : Int32)) hx hb dX0_weighs_126 (by decide) ?_
              refine k_mmax hx hb (hml.trans hl.1.symm) hown ln10 ln11 ln7 ln12 (Nat.le_of_ble_eq_true rfl) (Nat.le_of_ble_eq_true rfl) (Nat.zero_le _) (Nat.zero_le _) dX0_weighs_127 hf (fun v13 hf => ?_)
              exact R_iret hx hb hr hlk hS hsz hf dX0_weighs_130
            · have c14 := i32_ne c14 (n := 5) (by decide)
              refine lv_tableOut (tgt := 131) hx hb dX0_weighs_53 (by omega) (by decide) ?_
              refine lv_iload hx hb dX0_weighs_131 (lv_at hl 1 rfl) ?_
              exact R_iret hx hb hr hlk hS hsz hf dX0_weighs_133
  · refine lv_iconst (v := (0 : Int32)) hx hb dX0_weighs_8 (by decide) ?_
    exact R_iret hx hb hr hlk hS hsz hf dX0_weighs_9
def fX0_pullAfter_L70 (N : Nat) (σ : St) (k16 : Int32 → Int32 → Int32 → Option Int32) (x1 : Int32) (x2 : Int32) (x3 : Int32) : Option Int32 :=
    lt_ (x3 + (1 : Int32) : Int32) (fun v6 =>
    k16 x1 x2 v6)
def fX0_pullAfter_L16 (N : Nat) (σ : St)  : Nat → Int32 → Int32 → Int32 → Option Int32
  | 0, _, _, _ => none
  | n + 1, x1, x2, x3 =>
    if (σ 0 3) ≤ x3 then some x2
    else if (8 : Int32) ≤ x3 then some x2
    else bo (rdI σ 4 8 x3) (fun v4 =>
    if v4 = 0 then bo (fX0_weighs N σ x3 x1) (fun v9 =>
    lt_ ((x2 + v9) : Int32) (fun v10 =>
    fX0_pullAfter_L70 N σ (fX0_pullAfter_L16 N σ n) x1 v10 x3))
    else bo (rdI σ 4 8 x3) (fun v5 =>
    if v5 = (1 : Int32) then bo (fX0_weighs N σ x3 x1) (fun v7 =>
    lt_ ((x2 - v7) : Int32) (fun v8 =>
    fX0_pullAfter_L70 N σ (fX0_pullAfter_L16 N σ n) x1 v8 x3))
    else fX0_pullAfter_L70 N σ (fX0_pullAfter_L16 N σ n) x1 x2 x3))
def fX0_pullAfter (N : Nat) (σ : St) (p1 : Int32) : Option Int32 :=
    bo (rdI σ 1 2 (0 : Int32)) (fun v1 =>
    bo (rdI σ 1 2 (1 : Int32)) (fun v2 =>
    lt_ ((v1 - v2) : Int32) (fun v3 =>
    fX0_pullAfter_L16 N σ  N p1 v3 (0 : Int32))))
abbrev rmX0_pullAfter : Room := { frames := 2, cells := 0, slots := 0, locals := 49 }
theorem qX0_pullAfter : yX0_pullAfter.cls = RX0 ∧ yX0_pullAfter.cls ≠ "java/lang/invoke/MethodHandle" ∧ yX0_pullAfter.cls ≠ "java/lang/invoke/VarHandle" ∧ (parseMethodDescriptor yX0_pullAfter.desc).map (fun d => d.parameters.length) = some 1 := by decide +kernel
set_option maxHeartbeats 400000 in
set_option maxRecDepth 100000 in
theorem mX0_pullAfter (l : Launch) (D : va_G) (cI cJ : ClassId) (a : Nat → Nat) (sz N : Nat) (σ : St) (p1 : Int32) (r : Int32) (hf : fX0_pullAfter N σ p1 = some r) : Met l yX0_pullAfter wsX0_pullAfter rmX0_pullAfter (RPre ([.ref (a 0), .int p1] : List Value) sz D (tyIJ cI cJ) (wHo cI a σ)) (RQi sz r) 0 0 (fr0 sz) := by
  refine R_start (cc := cX0_pullAfter) (maxL := 4) (ret := (some .int)) (by decide) rfl (Nat.le_of_ble_eq_true rfl) (fun p e s m below meth c ls hx hb hr hml hown hts hlk hP hK hS hA hsz hl => ?_)
  have hown : s.vm.findClass RX0 = some m.cls := hown
  have hl : lv_has ls 4 [(0, .ref (a 0)), (1, .int p1)] := hl
  have ln1 := hts (Cond.fieldLink RX0 25 "HoistsAreShared$Hoist" "ballasts" "[I") (List.mem_of_getElem? (i := 1) rfl)
  have inX0 : ∀ w ∈ u_ws RX0 TX0 9, w ∈ wsX0_pullAfter := fun _ h => List.mem_cons_of_mem _ (List.mem_append_right _ h)
  have ln3 := hts (Cond.fieldLink RX0 22 "HoistsAreShared$Hoist" "things" "I") (List.mem_of_getElem? (i := 2) rfl)
  have ln4 := hts (Cond.fieldLink RX0 35 "HoistsAreShared$Hoist" "places" "[I") (List.mem_of_getElem? (i := 3) rfl)
  have b70 : ∀ (k16 : Int32 → Int32 → Int32 → Option Int32) (hk16 : (∀ (x1 : Int32) (x2 : Int32) (x3 : Int32) (H : Heap) (locs : List Loc) (ls : Array Slot), va_P D vwCl (wHo cI a σ) H → va_S (fr0 s.heap.size) s.heap H locs → lv_has ls 4 [(0, .ref (a 0)), (1, .int x1), (2, .int x2), (3, .int x3)] → k16 x1 x2 x3 = some r → W p l e rmX0_pullAfter s m ([.ref (a 0), .int p1] : List Value).toArray below meth c H locs 0 0 (MQ below (RQi sz r) ([.ref (a 0), .int p1] : List Value).toArray s 0 0 (fr0 sz)) (F0 m 16 ls []))) (x1 : Int32) (x2 : Int32) (x3 : Int32) (H : Heap) (locs : List Loc) (ls : Array Slot), va_P D vwCl (wHo cI a σ) H → va_S (fr0 s.heap.size) s.heap H locs → lv_has ls 4 [(0, .ref (a 0)), (1, .int x1), (2, .int x2), (3, .int x3)] → fX0_pullAfter_L70 N σ k16 x1 x2 x3 = some r → W p l e rmX0_pullAfter s m ([.ref (a 0), .int p1] : List Value).toArray below meth c H locs 0 0 (MQ below (RQi sz r) ([.ref (a 0), .int p1] : List Value).toArray s 0 0 (fr0 sz)) (F0 m 70 ls []) := by
    intro k16 hk16 x1 x2 x3 H locs ls hP hS hl hf
    unfold fX0_pullAfter_L70 at hf
    refine k_iinc (d := (1 : Int32)) (lv' := fun v6 => [(3, .int v6), (0, .ref (a 0)), (1, .int x1), (2, .int x2)]) hx hb dX0_pullAfter_70 hl (k := 3) rfl (by decide) (by decide) (fun _ => rfl) hf (fun v6 ls hl hf => ?_)
    refine lv_goto (tgt := 16) hx hb dX0_pullAfter_73 (by decide) ?_
    exact hk16 x1 x2 v6 H locs ls hP hS (lv_sub hl [1, 2, 3, 0] rfl) hf
  have b16 : ∀  (n : Nat) (x1 : Int32) (x2 : Int32) (x3 : Int32) (H : Heap) (locs : List Loc) (ls : Array Slot), va_P D vwCl (wHo cI a σ) H → va_S (fr0 s.heap.size) s.heap H locs → lv_has ls 4 [(0, .ref (a 0)), (1, .int x1), (2, .int x2), (3, .int x3)] → fX0_pullAfter_L16 N σ n x1 x2 x3 = some r → W p l e rmX0_pullAfter s m ([.ref (a 0), .int p1] : List Value).toArray below meth c H locs 0 0 (MQ below (RQi sz r) ([.ref (a 0), .int p1] : List Value).toArray s 0 0 (fr0 sz)) (F0 m 16 ls []) := by
    intro n
    induction n with
    | zero => intro x1 x2 x3 H locs ls hP hS hl hf; cases hf
    | succ n ih =>
      intro x1 x2 x3 H locs ls hP hS hl hf
      rw [fX0_pullAfter_L16] at hf
      refine lv_iload_n hx hb dX0_pullAfter_16 rfl (lv_at hl 3 rfl) ?_
      refine lv_aload_n hx hb dX0_pullAfter_17 rfl (lv_at hl 0 rfl) ?_
      refine va_get (D := D) (ci := 0) (v := .int (σ 0 3)) (C := RX0) (T := TX0) (N := 9) hx hb hts inX0 hown hK hP 0 rfl rfl 3 (by decide) ln3 (fun _ h9 => h9) rfl dX0_pullAfter_18 ?_
      refine k_icmp_ge (tgt := 76) hx hb dX0_pullAfter_21 (by decide) hf (fun hf => ?_) (fun hf => ?_)
      · refine lv_iload_n hx hb dX0_pullAfter_76 rfl (lv_at hl 2 rfl) ?_
        exact R_iret hx hb hr hlk hS hsz hf dX0_pullAfter_77
      · refine lv_iload_n hx hb dX0_pullAfter_24 rfl (lv_at hl 3 rfl) ?_
        refine lv_bipush (v := (8 : Int32)) hx hb dX0_pullAfter_25 (by decide) ?_
        refine k_icmp_ge (tgt := 76) hx hb dX0_pullAfter_27 (by decide) hf (fun hf => ?_) (fun hf => ?_)
        · refine lv_iload_n hx hb dX0_pullAfter_76 rfl (lv_at hl 2 rfl) ?_
          exact R_iret hx hb hr hlk hS hsz hf dX0_pullAfter_77
        · refine lv_aload_n hx hb dX0_pullAfter_30 rfl (lv_at hl 0 rfl) ?_
          refine va_get (D := D) (ci := 0) (v := .ref (a 4)) (C := RX0) (T := TX0) (N := 9) hx hb hts inX0 hown hK hP 0 rfl rfl 7 (by decide) ln4 (fun _ h9 => h9) rfl dX0_pullAfter_31 ?_
          refine lv_iload_n hx hb dX0_pullAfter_34 rfl (lv_at hl 3 rfl) ?_
          refine k_iald hx hb hK hP 4 0 hf rfl rfl dX0_pullAfter_35 (fun v4 hf => ?_)
          refine k_if_ne (tgt := 51) hx hb dX0_pullAfter_36 (by decide) hf (fun hf => ?_) (fun hf => ?_)
          · refine lv_aload_n hx hb dX0_pullAfter_51 rfl (lv_at hl 0 rfl) ?_
            refine va_get (D := D) (ci := 0) (v := .ref (a 4)) (C := RX0) (T := TX0) (N := 9) hx hb hts inX0 hown hK hP 0 rfl rfl 7 (by decide) ln4 (fun _ h9 => h9) rfl dX0_pullAfter_52 ?_
            refine lv_iload_n hx hb dX0_pullAfter_55 rfl (lv_at hl 3 rfl) ?_
            refine k_iald hx hb hK hP 4 0 hf rfl rfl dX0_pullAfter_56 (fun v5 hf => ?_)
            refine lv_iconst (v := (1 : Int32)) hx hb dX0_pullAfter_57 (by decide) ?_
            refine k_icmp_ne (tgt := 70) hx hb dX0_pullAfter_58 (by decide) hf (fun hf => ?_) (fun hf => ?_)
            · exact b70 (fX0_pullAfter_L16 N σ n) ih x1 x2 x3 H locs ls hP hS (lv_sub hl [0, 1, 2, 3] rfl) hf
            · refine lv_iload_n hx hb dX0_pullAfter_61 rfl (lv_at hl 2 rfl) ?_
              refine lv_aload_n hx hb dX0_pullAfter_62 rfl (lv_at hl 0 rfl) ?_
              refine lv_iload_n hx hb dX0_pullAfter_63 rfl (lv_at hl 3 rfl) ?_
              refine lv_iload_n hx hb dX0_pullAfter_64 rfl (lv_at hl 1 rfl) ?_
              refine c_callV (As := [.int x3, .int x1]) (rest := [.int x2]) ⟨hx, hb, hml, hown, hts⟩ hf (fun vq hq => mX0_weighs l D cI cJ a H.size N σ x3 x1 vq hq) (cwV 2 hts gX0_pullAfter_X0_weighs rfl rfl rfl qX0_weighs ⟨Nat.le_of_ble_eq_true rfl, Nat.le_of_ble_eq_true rfl⟩) hK hP hS hA hP 0 rfl rfl rfl rfl hl.1 rfl (Nat.le_of_ble_eq_true rfl) dX0_pullAfter_65 ⟨Nat.le_refl _, Nat.le_refl _⟩ (fun v7 H locs hP hS hf => ?_)
              refine lv_isub hx hb dX0_pullAfter_68 ?_
              refine k_let hf (fun v8 hf => ?_)
              refine lv_istore_n (lv' := [(2, .int v8), (0, .ref (a 0)), (1, .int x1), (3, .int x3)]) hx hb dX0_pullAfter_69 rfl hl (by decide) rfl (fun ls hl => ?_)
              exact b70 (fX0_pullAfter_L16 N σ n) ih x1 v8 x3 H locs ls hP hS (lv_sub hl [1, 2, 0, 3] rfl) hf
          · refine lv_iload_n hx hb dX0_pullAfter_39 rfl (lv_at hl 2 rfl) ?_
            refine lv_aload_n hx hb dX0_pullAfter_40 rfl (lv_at hl 0 rfl) ?_
            refine lv_iload_n hx hb dX0_pullAfter_41 rfl (lv_at hl 3 rfl) ?_
            refine lv_iload_n hx hb dX0_pullAfter_42 rfl (lv_at hl 1 rfl) ?_
            refine c_callV (As := [.int x3, .int x1]) (rest := [.int x2]) ⟨hx, hb, hml, hown, hts⟩ hf (fun vq hq => mX0_weighs l D cI cJ a H.size N σ x3 x1 vq hq) (cwV 2 hts gX0_pullAfter_X0_weighs rfl rfl rfl qX0_weighs ⟨Nat.le_of_ble_eq_true rfl, Nat.le_of_ble_eq_true rfl⟩) hK hP hS hA hP 0 rfl rfl rfl rfl hl.1 rfl (Nat.le_of_ble_eq_true rfl) dX0_pullAfter_43 ⟨Nat.le_refl _, Nat.le_refl _⟩ (fun v9 H locs hP hS hf => ?_)
            refine lv_iadd hx hb dX0_pullAfter_46 ?_
            refine k_let hf (fun v10 hf => ?_)
            refine lv_istore_n (lv' := [(2, .int v10), (0, .ref (a 0)), (1, .int x1), (3, .int x3)]) hx hb dX0_pullAfter_47 rfl hl (by decide) rfl (fun ls hl => ?_)
            refine lv_goto (tgt := 70) hx hb dX0_pullAfter_48 (by decide) ?_
            exact b70 (fX0_pullAfter_L16 N σ n) ih x1 v10 x3 H locs ls hP hS (lv_sub hl [1, 2, 0, 3] rfl) hf
  unfold fX0_pullAfter at hf
  refine lv_aload_n hx hb dX0_pullAfter_0 rfl (lv_at hl 0 rfl) ?_
  refine va_get (D := D) (ci := 0) (v := .ref (a 1)) (C := RX0) (T := TX0) (N := 9) hx hb hts inX0 hown hK hP 0 rfl rfl 4 (by decide) ln1 (fun _ h9 => h9) rfl dX0_pullAfter_1 ?_
  refine lv_iconst (v := (0 : Int32)) hx hb dX0_pullAfter_4 (by decide) ?_
  refine k_iald hx hb hK hP 1 0 hf rfl rfl dX0_pullAfter_5 (fun v1 hf => ?_)
  refine lv_aload_n hx hb dX0_pullAfter_6 rfl (lv_at hl 0 rfl) ?_
  refine va_get (D := D) (ci := 0) (v := .ref (a 1)) (C := RX0) (T := TX0) (N := 9) hx hb hts inX0 hown hK hP 0 rfl rfl 4 (by decide) ln1 (fun _ h9 => h9) rfl dX0_pullAfter_7 ?_
  refine lv_iconst (v := (1 : Int32)) hx hb dX0_pullAfter_10 (by decide) ?_
  refine k_iald hx hb hK hP 1 0 hf rfl rfl dX0_pullAfter_11 (fun v2 hf => ?_)
  refine lv_isub hx hb dX0_pullAfter_12 ?_
  refine k_let hf (fun v3 hf => ?_)
  refine lv_istore_n (lv' := [(2, .int v3), (0, .ref (a 0)), (1, .int p1)]) hx hb dX0_pullAfter_13 rfl hl (by decide) rfl (fun ls hl => ?_)
  refine lv_iconst (v := (0 : Int32)) hx hb dX0_pullAfter_14 (by decide) ?_
  refine lv_istore_n (lv' := [(3, .int (0 : Int32)), (2, .int v3), (0, .ref (a 0)), (1, .int p1)]) hx hb dX0_pullAfter_15 rfl hl (by decide) rfl (fun ls hl => ?_)
  exact b16  N p1 v3 (0 : Int32) s.heap [] ls hP hS (lv_sub hl [2, 3, 1, 0] rfl) hf
def fX0_pass_L12 (N : Nat)  : Nat → St → Int32 → Int32 → Option (Int32 × St)
  | 0, _, _, _ => none
  | n + 1, z, x1, x2 =>
    if x1 ≤ x2 then bo (zr (1 : Int32)) (fun v => some (v, z))
    else lt_ (((z 0 2) + (1 : Int32)) : Int32) (fun v2 =>
    lt_ (up2 z 0 2 v2) (fun z3 =>
    bo (fX0_pullAfter N z3 (0 : Int32)) (fun v4 =>
    bo (fX0_moved N (z3 0 0) v4) (fun v5 =>
    lt_ (up2 z3 0 0 v5) (fun z6 =>
    lt_ (x2 + (1 : Int32) : Int32) (fun v7 =>
    (fX0_pass_L12 N n) z6 x1 v7))))))
def fX0_pass (N : Nat) (σ : St) (p1 : Int32) : Option (Int32 × St) :=
    bo (fX0_hasDays N σ p1) (fun v1 =>
    if v1 = 0 then bo (zr (0 : Int32)) (fun v => some (v, σ))
    else fX0_pass_L12 N  N σ p1 (0 : Int32))
abbrev rmX0_pass : Room := { frames := 3, cells := 0, slots := 0, locals := 72 }
theorem qX0_pass : yX0_pass.cls = RX0 ∧ yX0_pass.cls ≠ "java/lang/invoke/MethodHandle" ∧ yX0_pass.cls ≠ "java/lang/invoke/VarHandle" ∧ (parseMethodDescriptor yX0_pass.desc).map (fun d => d.parameters.length) = some 1 := by decide +kernel
set_option maxHeartbeats 400000 in
set_option maxRecDepth 100000 in
theorem mX0_pass (l : Launch) (D : va_G) (cI cJ : ClassId) (a : Nat → Nat) (sz N : Nat) (σ : St) (p1 : Int32) (r : (Int32 × St)) (hf : fX0_pass N σ p1 = some r) : Met l yX0_pass wsX0_pass rmX0_pass (WPre ([.ref (a 0), .int p1] : List Value) sz D (tyIJ cI cJ) (wHo cI a σ)) (WQi sz D (wHo cI a σ) (wHo cI a (r.2)) r.1) 0 0 (va_A (wHo cI a σ) sz) := by
  refine W_start (cc := cX0_pass) (maxL := 3) (ret := (some .boolean)) (by decide) rfl (Nat.le_of_ble_eq_true rfl) (fun p e s m below meth c ls A hx hb hr hml hown hts hlk hP hK hS hA hD0 hAe hl => ?_)
  have hD : ∀ z, va_D A ((fun z => wHo cI a z) z) := fun z => hD0.ad rfl
  have hown : s.vm.findClass RX0 = some m.cls := hown
  have hl : lv_has ls 3 [(0, .ref (a 0)), (1, .int p1)] := hl
  have ln1 := hts (Cond.fieldLink RX0 19 "HoistsAreShared$Hoist" "day" "I") (List.mem_of_getElem? (i := 1) rfl)
  have inX0 : ∀ w ∈ u_ws RX0 TX0 9, w ∈ wsX0_pass := fun _ h => List.mem_cons_of_mem _ (List.mem_append_right _ h)
  have ln3 := hts (Cond.fieldLink RX0 11 "HoistsAreShared$Hoist" "floor" "I") (List.mem_of_getElem? (i := 2) rfl)
  have b12 : ∀  (n : Nat) (z : St) (x1 : Int32) (x2 : Int32) (H : Heap) (locs : List Loc) (ls : Array Slot), va_P D vwCl (wHo cI a z) H → va_S A s.heap H locs → lv_has ls 3 [(0, .ref (a 0)), (1, .int x1), (2, .int x2)] → fX0_pass_L12 N n z x1 x2 = some r → W p l e rmX0_pass s m ([.ref (a 0), .int p1] : List Value).toArray below meth c H locs 0 0 (MQ below (WQi sz D (wHo cI a σ) (wHo cI a (r.2)) r.1) ([.ref (a 0), .int p1] : List Value).toArray s 0 0 A) (F0 m 12 ls []) := by
    intro n
    induction n with
    | zero => intro z x1 x2 H locs ls hP hS hl hf; cases hf
    | succ n ih =>
      intro z x1 x2 H locs ls hP hS hl hf
      rw [fX0_pass_L12] at hf
      refine lv_iload_n hx hb dX0_pass_12 rfl (lv_at hl 2 rfl) ?_
      refine lv_iload_n hx hb dX0_pass_13 rfl (lv_at hl 1 rfl) ?_
      refine k_icmp_ge (tgt := 49) hx hb dX0_pass_14 (by decide) hf (fun hf => ?_) (fun hf => ?_)
      · refine lv_iconst (v := (1 : Int32)) hx hb dX0_pass_49 (by decide) ?_
        exact W_zret (fun z => wHo cI a z) hx hb hr hlk hP hS hAe hf dX0_pass_50
      · refine lv_aload_n hx hb dX0_pass_17 rfl (lv_at hl 0 rfl) ?_
        refine lv_dup hx hb dX0_pass_18 rfl ?_
        refine va_get (D := D) (ci := 0) (v := .int (z 0 2)) (C := RX0) (T := TX0) (N := 9) hx hb hts inX0 hown hK hP 0 rfl rfl 2 (by decide) ln1 (fun _ h9 => h9) rfl dX0_pass_19 ?_
        refine lv_iconst (v := (1 : Int32)) hx hb dX0_pass_22 (by decide) ?_
        refine lv_iadd hx hb dX0_pass_23 ?_
        refine k_let hf (fun v2 hf => ?_)
        refine k_put (ci := 0) (C := RX0) (T := TX0) (N := 9) (ty := .int) (w := (fun z => wHo cI a z)) hx hb hts inX0 tyX0 tyX0_ok nmX0 hown hK hP hD hS 0 rfl rfl 2 (by decide) ln1 (fun _ h9 => h9) rfl (by decide +kernel) rfl rfl (Nat.le_of_ble_eq_true rfl) (cN := 0) hf rfl dX0_pass_24 (fun z3 H locs hP hS hf => ?_)
        refine lv_aload_n hx hb dX0_pass_27 rfl (lv_at hl 0 rfl) ?_
        refine lv_aload_n hx hb dX0_pass_28 rfl (lv_at hl 0 rfl) ?_
        refine va_get (D := D) (ci := 0) (v := .int (z3 0 0)) (C := RX0) (T := TX0) (N := 9) hx hb hts inX0 hown hK hP 0 rfl rfl 0 (by decide) ln3 (fun _ h9 => h9) rfl dX0_pass_29 ?_
        refine lv_aload_n hx hb dX0_pass_32 rfl (lv_at hl 0 rfl) ?_
        refine lv_iconst (v := (0 : Int32)) hx hb dX0_pass_33 (by decide) ?_
        refine c_callV (As := [.int (0 : Int32)]) (rest := [.int (z3 0 0), .ref (a 0)]) ⟨hx, hb, hml, hown, hts⟩ hf (fun vq hq => mX0_pullAfter l D cI cJ a H.size N z3 (0 : Int32) vq hq) (cwV 1 hts gX0_pass_X0_pullAfter rfl rfl rfl qX0_pullAfter ⟨Nat.le_of_ble_eq_true rfl, Nat.le_of_ble_eq_true rfl⟩) hK hP hS hA hP 0 rfl rfl rfl rfl hl.1 rfl (Nat.le_of_ble_eq_true rfl) dX0_pass_34 ⟨Nat.le_refl _, Nat.le_refl _⟩ (fun v4 H locs hP hS hf => ?_)
        refine c_callS (As := [.int (z3 0 0), .int v4]) (rest := [.ref (a 0)]) ⟨hx, hb, hml, hown, hts⟩ hf (fun vq hq => mX0_moved l D cI cJ H.size N (z3 0 0) v4 vq hq) (va_cwS 2 hts gX0_pass_X0_moved rfl rfl rfl qX0_moved ⟨Nat.le_of_ble_eq_true rfl, Nat.le_of_ble_eq_true rfl⟩) hK hP hS hA va_P_nil rfl hl.1 rfl (Nat.le_of_ble_eq_true rfl) dX0_pass_37 ⟨Nat.le_refl _, Nat.le_refl _⟩ (fun v5 H locs hP hS hf => ?_)
        refine k_put (ci := 0) (C := RX0) (T := TX0) (N := 9) (ty := .int) (w := (fun z => wHo cI a z)) hx hb hts inX0 tyX0 tyX0_ok nmX0 hown hK hP hD hS 0 rfl rfl 0 (by decide) ln3 (fun _ h9 => h9) rfl (by decide +kernel) rfl rfl (Nat.le_of_ble_eq_true rfl) (cN := 0) hf rfl dX0_pass_40 (fun z6 H locs hP hS hf => ?_)
        refine k_iinc (d := (1 : Int32)) (lv' := fun v7 => [(2, .int v7), (0, .ref (a 0)), (1, .int x1)]) hx hb dX0_pass_43 hl (k := 2) rfl (by decide) (by decide) (fun _ => rfl) hf (fun v7 ls hl hf => ?_)
        refine lv_goto (tgt := 12) hx hb dX0_pass_46 (by decide) ?_
        exact ih z6 x1 v7 H locs ls hP hS (lv_sub hl [1, 2, 0] rfl) hf
  unfold fX0_pass at hf
  refine lv_aload_n hx hb dX0_pass_0 rfl (lv_at hl 0 rfl) ?_
  refine lv_iload_n hx hb dX0_pass_1 rfl (lv_at hl 1 rfl) ?_
  refine c_callV (As := [.int p1]) (rest := []) ⟨hx, hb, hml, hown, hts⟩ hf (fun vq hq => mX0_hasDays l D cI cJ a s.heap.size N σ p1 vq hq) (cwV 1 hts gX0_pass_X0_hasDays rfl rfl rfl qX0_hasDays ⟨Nat.le_of_ble_eq_true rfl, Nat.le_of_ble_eq_true rfl⟩) hK hP hS hA hP 0 rfl rfl rfl rfl hl.1 rfl (Nat.le_of_ble_eq_true rfl) dX0_pass_2 ⟨Nat.le_refl _, Nat.le_refl _⟩ (fun v1 H locs hP hS hf => ?_)
  refine k_if_ne (tgt := 10) hx hb dX0_pass_5 (by decide) hf (fun hf => ?_) (fun hf => ?_)
  · refine lv_iconst (v := (0 : Int32)) hx hb dX0_pass_10 (by decide) ?_
    refine lv_istore_n (lv' := [(2, .int (0 : Int32)), (0, .ref (a 0)), (1, .int p1)]) hx hb dX0_pass_11 rfl hl (by decide) rfl (fun ls hl => ?_)
    exact b12  N σ p1 (0 : Int32) H locs ls hP hS (lv_sub hl [1, 2, 0] rfl) hf
  · refine lv_iconst (v := (0 : Int32)) hx hb dX0_pass_8 (by decide) ?_
    exact W_zret (fun z => wHo cI a z) hx hb hr hlk hP hS hAe hf dX0_pass_9
def fX0_switchDoor (N : Nat) (σ : St) (p1 : Int32) : Option (Int32 × St) :=
    bo (fX0_isFloor N p1) (fun v1 =>
    if v1 = 0 then bo (zr (0 : Int32)) (fun v => some (v, σ))
    else lt_ (((σ 0 1) ^^^ ((1 : Int32) <<< (p1 &&& 31))) : Int32) (fun v2 =>
    lt_ (up2 σ 0 1 v2) (fun z3 =>
    bo (zr (1 : Int32)) (fun v => some (v, z3)))))
abbrev rmX0_switchDoor : Room := { frames := 1, cells := 0, slots := 0, locals := 20 }
theorem qX0_switchDoor : yX0_switchDoor.cls = RX0 ∧ yX0_switchDoor.cls ≠ "java/lang/invoke/MethodHandle" ∧ yX0_switchDoor.cls ≠ "java/lang/invoke/VarHandle" ∧ (parseMethodDescriptor yX0_switchDoor.desc).map (fun d => d.parameters.length) = some 1 := by decide +kernel
set_option maxHeartbeats 400000 in
set_option maxRecDepth 100000 in
theorem mX0_switchDoor (l : Launch) (D : va_G) (cI cJ : ClassId) (a : Nat → Nat) (sz N : Nat) (σ : St) (p1 : Int32) (r : (Int32 × St)) (hf : fX0_switchDoor N σ p1 = some r) : Met l yX0_switchDoor wsX0_switchDoor rmX0_switchDoor (WPre ([.ref (a 0), .int p1] : List Value) sz D (tyIJ cI cJ) (wHo cI a σ)) (WQi sz D (wHo cI a σ) (wHo cI a (r.2)) r.1) 0 0 (va_A (wHo cI a σ) sz) := by
  refine W_start (cc := cX0_switchDoor) (maxL := 2) (ret := (some .boolean)) (by decide) rfl (Nat.le_of_ble_eq_true rfl) (fun p e s m below meth c ls A hx hb hr hml hown hts hlk hP hK hS hA hD0 hAe hl => ?_)
  have hD : ∀ z, va_D A ((fun z => wHo cI a z) z) := fun z => hD0.ad rfl
  have hown : s.vm.findClass RX0 = some m.cls := hown
  have hl : lv_has ls 2 [(0, .ref (a 0)), (1, .int p1)] := hl
  have ln1 := hts (Cond.fieldLink RX0 16 "HoistsAreShared$Hoist" "doorBits" "I") (List.mem_of_getElem? (i := 1) rfl)
  have inX0 : ∀ w ∈ u_ws RX0 TX0 9, w ∈ wsX0_switchDoor := fun _ h => List.mem_cons_of_mem _ (List.mem_append_right _ h)
  unfold fX0_switchDoor at hf
  refine lv_iload_n hx hb dX0_switchDoor_0 rfl (lv_at hl 1 rfl) ?_
  refine c_callS (As := [.int p1]) (rest := []) ⟨hx, hb, hml, hown, hts⟩ hf (fun vq hq => mX0_isFloor l D cI cJ s.heap.size N p1 vq hq) (va_cwS 1 hts gX0_switchDoor_X0_isFloor rfl rfl rfl qX0_isFloor ⟨Nat.le_of_ble_eq_true rfl, Nat.le_of_ble_eq_true rfl⟩) hK hP hS hA va_P_nil rfl hl.1 rfl (Nat.le_of_ble_eq_true rfl) dX0_switchDoor_1 ⟨Nat.le_refl _, Nat.le_refl _⟩ (fun v1 H locs hP hS hf => ?_)
  refine k_if_ne (tgt := 9) hx hb dX0_switchDoor_4 (by decide) hf (fun hf => ?_) (fun hf => ?_)
  · refine lv_aload_n hx hb dX0_switchDoor_9 rfl (lv_at hl 0 rfl) ?_
    refine lv_dup hx hb dX0_switchDoor_10 rfl ?_
    refine va_get (D := D) (ci := 0) (v := .int (σ 0 1)) (C := RX0) (T := TX0) (N := 9) hx hb hts inX0 hown hK hP 0 rfl rfl 1 (by decide) ln1 (fun _ h9 => h9) rfl dX0_switchDoor_11 ?_
    refine lv_iconst (v := (1 : Int32)) hx hb dX0_switchDoor_14 (by decide) ?_
    refine lv_iload_n hx hb dX0_switchDoor_15 rfl (lv_at hl 1 rfl) ?_
    refine lv_ishl hx hb dX0_switchDoor_16 ?_
    refine lv_ixor hx hb dX0_switchDoor_17 ?_
    refine k_let hf (fun v2 hf => ?_)
    refine k_put (ci := 0) (C := RX0) (T := TX0) (N := 9) (ty := .int) (w := (fun z => wHo cI a z)) hx hb hts inX0 tyX0 tyX0_ok nmX0 hown hK hP hD hS 0 rfl rfl 1 (by decide) ln1 (fun _ h9 => h9) rfl (by decide +kernel) rfl rfl (Nat.le_of_ble_eq_true rfl) (cN := 0) hf rfl dX0_switchDoor_18 (fun z3 H locs hP hS hf => ?_)
    refine lv_iconst (v := (1 : Int32)) hx hb dX0_switchDoor_21 (by decide) ?_
    exact W_zret (fun z => wHo cI a z) hx hb hr hlk hP hS hAe hf dX0_switchDoor_22
  · refine lv_iconst (v := (0 : Int32)) hx hb dX0_switchDoor_7 (by decide) ?_
    exact W_zret (fun z => wHo cI a z) hx hb hr hlk hP hS hAe hf dX0_switchDoor_8
def fX0_figureOf (N : Nat) (σ : St) (p1 : Int32) : Option Int32 :=
    bo (fX0_has N σ p1) (fun v1 =>
    if v1 = 0 then some (0 : Int32)
    else bo (rdI σ 3 8 p1) (fun v2 =>
    some v2))
abbrev rmX0_figureOf : Room := { frames := 1, cells := 0, slots := 0, locals := 21 }
theorem qX0_figureOf : yX0_figureOf.cls = RX0 ∧ yX0_figureOf.cls ≠ "java/lang/invoke/MethodHandle" ∧ yX0_figureOf.cls ≠ "java/lang/invoke/VarHandle" ∧ (parseMethodDescriptor yX0_figureOf.desc).map (fun d => d.parameters.length) = some 1 := by decide +kernel
set_option maxHeartbeats 400000 in
set_option maxRecDepth 100000 in
theorem mX0_figureOf (l : Launch) (D : va_G) (cI cJ : ClassId) (a : Nat → Nat) (sz N : Nat) (σ : St) (p1 : Int32) (r : Int32) (hf : fX0_figureOf N σ p1 = some r) : Met l yX0_figureOf wsX0_figureOf rmX0_figureOf (RPre ([.ref (a 0), .int p1] : List Value) sz D (tyIJ cI cJ) (wHo cI a σ)) (RQi sz r) 0 0 (fr0 sz) := by
  refine R_start (cc := cX0_figureOf) (maxL := 2) (ret := (some .int)) (by decide) rfl (Nat.le_of_ble_eq_true rfl) (fun p e s m below meth c ls hx hb hr hml hown hts hlk hP hK hS hA hsz hl => ?_)
  have hown : s.vm.findClass RX0 = some m.cls := hown
  have hl : lv_has ls 2 [(0, .ref (a 0)), (1, .int p1)] := hl
  have ln1 := hts (Cond.fieldLink RX0 32 "HoistsAreShared$Hoist" "figures" "[I") (List.mem_of_getElem? (i := 1) rfl)
  have inX0 : ∀ w ∈ u_ws RX0 TX0 9, w ∈ wsX0_figureOf := fun _ h => List.mem_cons_of_mem _ (List.mem_append_right _ h)
  unfold fX0_figureOf at hf
  refine lv_aload_n hx hb dX0_figureOf_0 rfl (lv_at hl 0 rfl) ?_
  refine lv_iload_n hx hb dX0_figureOf_1 rfl (lv_at hl 1 rfl) ?_
  refine c_callV (As := [.int p1]) (rest := []) ⟨hx, hb, hml, hown, hts⟩ hf (fun vq hq => mX0_has l D cI cJ a s.heap.size N σ p1 vq hq) (cwV 1 hts gX0_figureOf_X0_has rfl rfl rfl qX0_has ⟨Nat.le_of_ble_eq_true rfl, Nat.le_of_ble_eq_true rfl⟩) hK hP hS hA hP 0 rfl rfl rfl rfl hl.1 rfl (Nat.le_of_ble_eq_true rfl) dX0_figureOf_2 ⟨Nat.le_refl _, Nat.le_refl _⟩ (fun v1 H locs hP hS hf => ?_)
  refine k_if_eq (tgt := 17) hx hb dX0_figureOf_5 (by decide) hf (fun hf => ?_) (fun hf => ?_)
  · refine lv_iconst (v := (0 : Int32)) hx hb dX0_figureOf_17 (by decide) ?_
    exact R_iret hx hb hr hlk hS hsz hf dX0_figureOf_18
  · refine lv_aload_n hx hb dX0_figureOf_8 rfl (lv_at hl 0 rfl) ?_
    refine va_get (D := D) (ci := 0) (v := .ref (a 3)) (C := RX0) (T := TX0) (N := 9) hx hb hts inX0 hown hK hP 0 rfl rfl 6 (by decide) ln1 (fun _ h9 => h9) rfl dX0_figureOf_9 ?_
    refine lv_iload_n hx hb dX0_figureOf_12 rfl (lv_at hl 1 rfl) ?_
    refine k_iald hx hb hK hP 3 0 hf rfl rfl dX0_figureOf_13 (fun v2 hf => ?_)
    refine lv_goto (tgt := 18) hx hb dX0_figureOf_14 (by decide) ?_
    exact R_iret hx hb hr hlk hS hsz hf dX0_figureOf_18
def fX0_kindOf (N : Nat) (σ : St) (p1 : Int32) : Option Int32 :=
    bo (fX0_has N σ p1) (fun v1 =>
    if v1 = 0 then some (0 : Int32)
    else bo (rdI σ 2 8 p1) (fun v2 =>
    some v2))
abbrev rmX0_kindOf : Room := { frames := 1, cells := 0, slots := 0, locals := 21 }
theorem qX0_kindOf : yX0_kindOf.cls = RX0 ∧ yX0_kindOf.cls ≠ "java/lang/invoke/MethodHandle" ∧ yX0_kindOf.cls ≠ "java/lang/invoke/VarHandle" ∧ (parseMethodDescriptor yX0_kindOf.desc).map (fun d => d.parameters.length) = some 1 := by decide +kernel
set_option maxHeartbeats 400000 in
set_option maxRecDepth 100000 in
theorem mX0_kindOf (l : Launch) (D : va_G) (cI cJ : ClassId) (a : Nat → Nat) (sz N : Nat) (σ : St) (p1 : Int32) (r : Int32) (hf : fX0_kindOf N σ p1 = some r) : Met l yX0_kindOf wsX0_kindOf rmX0_kindOf (RPre ([.ref (a 0), .int p1] : List Value) sz D (tyIJ cI cJ) (wHo cI a σ)) (RQi sz r) 0 0 (fr0 sz) := by
  refine R_start (cc := cX0_kindOf) (maxL := 2) (ret := (some .int)) (by decide) rfl (Nat.le_of_ble_eq_true rfl) (fun p e s m below meth c ls hx hb hr hml hown hts hlk hP hK hS hA hsz hl => ?_)
  have hown : s.vm.findClass RX0 = some m.cls := hown
  have hl : lv_has ls 2 [(0, .ref (a 0)), (1, .int p1)] := hl
  have ln1 := hts (Cond.fieldLink RX0 29 "HoistsAreShared$Hoist" "kinds" "[I") (List.mem_of_getElem? (i := 1) rfl)
  have inX0 : ∀ w ∈ u_ws RX0 TX0 9, w ∈ wsX0_kindOf := fun _ h => List.mem_cons_of_mem _ (List.mem_append_right _ h)
  unfold fX0_kindOf at hf
  refine lv_aload_n hx hb dX0_kindOf_0 rfl (lv_at hl 0 rfl) ?_
  refine lv_iload_n hx hb dX0_kindOf_1 rfl (lv_at hl 1 rfl) ?_
  refine c_callV (As := [.int p1]) (rest := []) ⟨hx, hb, hml, hown, hts⟩ hf (fun vq hq => mX0_has l D cI cJ a s.heap.size N σ p1 vq hq) (cwV 1 hts gX0_kindOf_X0_has rfl rfl rfl qX0_has ⟨Nat.le_of_ble_eq_true rfl, Nat.le_of_ble_eq_true rfl⟩) hK hP hS hA hP 0 rfl rfl rfl rfl hl.1 rfl (Nat.le_of_ble_eq_true rfl) dX0_kindOf_2 ⟨Nat.le_refl _, Nat.le_refl _⟩ (fun v1 H locs hP hS hf => ?_)
  refine k_if_eq (tgt := 17) hx hb dX0_kindOf_5 (by decide) hf (fun hf => ?_) (fun hf => ?_)
  · refine lv_iconst (v := (0 : Int32)) hx hb dX0_kindOf_17 (by decide) ?_
    exact R_iret hx hb hr hlk hS hsz hf dX0_kindOf_18
  · refine lv_aload_n hx hb dX0_kindOf_8 rfl (lv_at hl 0 rfl) ?_
    refine va_get (D := D) (ci := 0) (v := .ref (a 2)) (C := RX0) (T := TX0) (N := 9) hx hb hts inX0 hown hK hP 0 rfl rfl 5 (by decide) ln1 (fun _ h9 => h9) rfl dX0_kindOf_9 ?_
    refine lv_iload_n hx hb dX0_kindOf_12 rfl (lv_at hl 1 rfl) ?_
    refine k_iald hx hb hK hP 2 0 hf rfl rfl dX0_kindOf_13 (fun v2 hf => ?_)
    refine lv_goto (tgt := 18) hx hb dX0_kindOf_14 (by decide) ?_
    exact R_iret hx hb hr hlk hS hsz hf dX0_kindOf_18
def fX0_placeOf (N : Nat) (σ : St) (p1 : Int32) : Option Int32 :=
    bo (fX0_has N σ p1) (fun v1 =>
    if v1 = 0 then some (2 : Int32)
    else bo (rdI σ 4 8 p1) (fun v2 =>
    some v2))
abbrev rmX0_placeOf : Room := { frames := 1, cells := 0, slots := 0, locals := 21 }
theorem qX0_placeOf : yX0_placeOf.cls = RX0 ∧ yX0_placeOf.cls ≠ "java/lang/invoke/MethodHandle" ∧ yX0_placeOf.cls ≠ "java/lang/invoke/VarHandle" ∧ (parseMethodDescriptor yX0_placeOf.desc).map (fun d => d.parameters.length) = some 1 := by decide +kernel
set_option maxHeartbeats 400000 in
set_option maxRecDepth 100000 in
theorem mX0_placeOf (l : Launch) (D : va_G) (cI cJ : ClassId) (a : Nat → Nat) (sz N : Nat) (σ : St) (p1 : Int32) (r : Int32) (hf : fX0_placeOf N σ p1 = some r) : Met l yX0_placeOf wsX0_placeOf rmX0_placeOf (RPre ([.ref (a 0), .int p1] : List Value) sz D (tyIJ cI cJ) (wHo cI a σ)) (RQi sz r) 0 0 (fr0 sz) := by
  refine R_start (cc := cX0_placeOf) (maxL := 2) (ret := (some .int)) (by decide) rfl (Nat.le_of_ble_eq_true rfl) (fun p e s m below meth c ls hx hb hr hml hown hts hlk hP hK hS hA hsz hl => ?_)
  have hown : s.vm.findClass RX0 = some m.cls := hown
  have hl : lv_has ls 2 [(0, .ref (a 0)), (1, .int p1)] := hl
  have ln1 := hts (Cond.fieldLink RX0 35 "HoistsAreShared$Hoist" "places" "[I") (List.mem_of_getElem? (i := 1) rfl)
  have inX0 : ∀ w ∈ u_ws RX0 TX0 9, w ∈ wsX0_placeOf := fun _ h => List.mem_cons_of_mem _ (List.mem_append_right _ h)
  unfold fX0_placeOf at hf
  refine lv_aload_n hx hb dX0_placeOf_0 rfl (lv_at hl 0 rfl) ?_
  refine lv_iload_n hx hb dX0_placeOf_1 rfl (lv_at hl 1 rfl) ?_
  refine c_callV (As := [.int p1]) (rest := []) ⟨hx, hb, hml, hown, hts⟩ hf (fun vq hq => mX0_has l D cI cJ a s.heap.size N σ p1 vq hq) (cwV 1 hts gX0_placeOf_X0_has rfl rfl rfl qX0_has ⟨Nat.le_of_ble_eq_true rfl, Nat.le_of_ble_eq_true rfl⟩) hK hP hS hA hP 0 rfl rfl rfl rfl hl.1 rfl (Nat.le_of_ble_eq_true rfl) dX0_placeOf_2 ⟨Nat.le_refl _, Nat.le_refl _⟩ (fun v1 H locs hP hS hf => ?_)
  refine k_if_eq (tgt := 17) hx hb dX0_placeOf_5 (by decide) hf (fun hf => ?_) (fun hf => ?_)
  · refine lv_iconst (v := (2 : Int32)) hx hb dX0_placeOf_17 (by decide) ?_
    exact R_iret hx hb hr hlk hS hsz hf dX0_placeOf_18
  · refine lv_aload_n hx hb dX0_placeOf_8 rfl (lv_at hl 0 rfl) ?_
    refine va_get (D := D) (ci := 0) (v := .ref (a 4)) (C := RX0) (T := TX0) (N := 9) hx hb hts inX0 hown hK hP 0 rfl rfl 7 (by decide) ln1 (fun _ h9 => h9) rfl dX0_placeOf_9 ?_
    refine lv_iload_n hx hb dX0_placeOf_12 rfl (lv_at hl 1 rfl) ?_
    refine k_iald hx hb hK hP 4 0 hf rfl rfl dX0_placeOf_13 (fun v2 hf => ?_)
    refine lv_goto (tgt := 18) hx hb dX0_placeOf_14 (by decide) ?_
    exact R_iret hx hb hr hlk hS hsz hf dX0_placeOf_18
