def fX1_isFull (N : Nat) (σ : St)  : Option Int32 :=
    if (σ 0 0) < (96 : Int32) then zr (0 : Int32)
    else zr (1 : Int32)
abbrev rmX1_isFull : Room := { frames := 0, cells := 0, slots := 0, locals := 0 }
theorem qX1_isFull : yX1_isFull.cls = RX1 ∧ yX1_isFull.cls ≠ "java/lang/invoke/MethodHandle" ∧ yX1_isFull.cls ≠ "java/lang/invoke/VarHandle" ∧ (parseMethodDescriptor yX1_isFull.desc).map (fun d => d.parameters.length) = some 0 := by decide +kernel
set_option maxHeartbeats 400000 in
set_option maxRecDepth 100000 in
theorem mX1_isFull (l : Launch) (D : va_G) (cI cJ : ClassId) (a : Nat → Nat) (sz N : Nat) (σ : St)  (r : Int32) (hf : fX1_isFull N σ = some r) : Met l yX1_isFull wsX1_isFull rmX1_isFull (RPre ([.ref (a 0)] : List Value) sz D (tyIJ cI cJ) (wTe cI a σ)) (RQi sz r) 0 0 (fr0 sz) := by
  refine R_start (cc := cX1_isFull) (maxL := 1) (ret := (some .boolean)) (by decide) rfl (Nat.le_of_ble_eq_true rfl) (fun p e s m below meth c ls hx hb hr hml hown hts hlk hP hK hS hA hsz hl => ?_)
  have hown : s.vm.findClass RX1 = some m.cls := hown
  have hl : lv_has ls 1 [(0, .ref (a 0))] := hl
  have ln1 := hts (Cond.fieldLink RX1 7 "HoistsAreShared$Telling" "told" "I") (List.mem_of_getElem? (i := 1) rfl)
  have inX1 : ∀ w ∈ u_ws RX1 TX1 2, w ∈ wsX1_isFull := fun _ h => List.mem_cons_of_mem _ (List.mem_append_right _ h)
  have ln3 := hts (Cond.fieldLink RX1 13 "HoistsAreShared$Telling" "letters" "[I") (List.mem_of_getElem? (i := 2) rfl)
  unfold fX1_isFull at hf
  refine lv_aload_n hx hb dX1_isFull_0 rfl (lv_at hl 0 rfl) ?_
  refine va_get (D := D) (ci := 1) (v := .int (σ 0 0)) (C := RX1) (T := TX1) (N := 2) hx hb hts inX1 hown hK hP 0 rfl rfl 0 (by decide) ln1 (fun _ h9 => h9) rfl dX1_isFull_1 ?_
  refine lv_aload_n hx hb dX1_isFull_4 rfl (lv_at hl 0 rfl) ?_
  refine va_get (D := D) (ci := 1) (v := .ref (a 1)) (C := RX1) (T := TX1) (N := 2) hx hb hts inX1 hown hK hP 0 rfl rfl 1 (by decide) ln3 (fun _ h9 => h9) rfl dX1_isFull_5 ?_
  refine va_alen (v := (96 : Int32)) hx hb hK hP 1 0 rfl rfl rfl dX1_isFull_8 ?_
  refine k_icmp_lt (tgt := 16) hx hb dX1_isFull_9 (by decide) hf (fun hf => ?_) (fun hf => ?_)
  · refine lv_iconst (v := (0 : Int32)) hx hb dX1_isFull_16 (by decide) ?_
    exact R_zret hx hb hr hlk hS hsz hf dX1_isFull_17
  · refine lv_iconst (v := (1 : Int32)) hx hb dX1_isFull_12 (by decide) ?_
    refine lv_goto (tgt := 17) hx hb dX1_isFull_13 (by decide) ?_
    exact R_zret hx hb hr hlk hS hsz hf dX1_isFull_17
def fX1_add (N : Nat) (σ : St) (p1 : Int32) : Option St :=
    bo (fX1_isFull N σ) (fun v1 =>
    if v1 = 0 then bo (wrI σ 1 96 (σ 0 0) p1) (fun z2 =>
    lt_ (((z2 0 0) + (1 : Int32)) : Int32) (fun v3 =>
    lt_ (up2 z2 0 0 v3) (fun z4 =>
    some z4)))
    else some σ)
abbrev rmX1_add : Room := { frames := 1, cells := 0, slots := 0, locals := 20 }
theorem qX1_add : yX1_add.cls = RX1 ∧ yX1_add.cls ≠ "java/lang/invoke/MethodHandle" ∧ yX1_add.cls ≠ "java/lang/invoke/VarHandle" ∧ (parseMethodDescriptor yX1_add.desc).map (fun d => d.parameters.length) = some 1 := by decide +kernel
set_option maxHeartbeats 400000 in
set_option maxRecDepth 100000 in
theorem mX1_add (l : Launch) (D : va_G) (cI cJ : ClassId) (a : Nat → Nat) (sz N : Nat) (σ : St) (p1 : Int32) (r : St) (hf : fX1_add N σ p1 = some r) : Met l yX1_add wsX1_add rmX1_add (WPre ([.ref (a 0), .int p1] : List Value) sz D (tyIJ cI cJ) (wTe cI a σ)) (WQv sz D (wTe cI a σ) (wTe cI a r)) 0 0 (va_A (wTe cI a σ) sz) := by
  refine W_start (cc := cX1_add) (maxL := 2) (ret := none) (by decide) rfl (Nat.le_of_ble_eq_true rfl) (fun p e s m below meth c ls A hx hb hr hml hown hts hlk hP hK hS hA hD0 hAe hl => ?_)
  have hD : ∀ z, va_D A ((fun z => wTe cI a z) z) := fun z => hD0.ad rfl
  have hown : s.vm.findClass RX1 = some m.cls := hown
  have hl : lv_has ls 2 [(0, .ref (a 0)), (1, .int p1)] := hl
  have ln1 := hts (Cond.fieldLink RX1 13 "HoistsAreShared$Telling" "letters" "[I") (List.mem_of_getElem? (i := 1) rfl)
  have inX1 : ∀ w ∈ u_ws RX1 TX1 2, w ∈ wsX1_add := fun _ h => List.mem_cons_of_mem _ (List.mem_append_right _ h)
  have ln3 := hts (Cond.fieldLink RX1 7 "HoistsAreShared$Telling" "told" "I") (List.mem_of_getElem? (i := 2) rfl)
  unfold fX1_add at hf
  refine lv_aload_n hx hb dX1_add_0 rfl (lv_at hl 0 rfl) ?_
  refine c_callV (As := []) (rest := []) ⟨hx, hb, hml, hown, hts⟩ hf (fun vq hq => mX1_isFull l D cI cJ a s.heap.size N σ vq hq) (cwV 0 hts gX1_add_X1_isFull rfl rfl rfl qX1_isFull ⟨Nat.le_of_ble_eq_true rfl, Nat.le_of_ble_eq_true rfl⟩) hK hP hS hA hP 1 rfl rfl rfl rfl hl.1 rfl (Nat.le_of_ble_eq_true rfl) dX1_add_1 ⟨Nat.le_refl _, Nat.le_refl _⟩ (fun v1 H locs hP hS hf => ?_)
  refine k_if_ne (tgt := 27) hx hb dX1_add_4 (by decide) hf (fun hf => ?_) (fun hf => ?_)
  · exact W_vret (fun z => wTe cI a z) hx hb hr hlk hP hS hAe hf dX1_add_27
  · refine lv_aload_n hx hb dX1_add_7 rfl (lv_at hl 0 rfl) ?_
    refine va_get (D := D) (ci := 1) (v := .ref (a 1)) (C := RX1) (T := TX1) (N := 2) hx hb hts inX1 hown hK hP 0 rfl rfl 1 (by decide) ln1 (fun _ h9 => h9) rfl dX1_add_8 ?_
    refine lv_aload_n hx hb dX1_add_11 rfl (lv_at hl 0 rfl) ?_
    refine va_get (D := D) (ci := 1) (v := .int (σ 0 0)) (C := RX1) (T := TX1) (N := 2) hx hb hts inX1 hown hK hP 0 rfl rfl 0 (by decide) ln3 (fun _ h9 => h9) rfl dX1_add_12 ?_
    refine lv_iload_n hx hb dX1_add_15 rfl (lv_at hl 1 rfl) ?_
    refine k_iast (w := (fun z => wTe cI a z)) hx hb hK hP hD hS 1 0 hf rfl rfl (fun _ => rfl) dX1_add_16 (fun z2 H locs hP hS hf => ?_)
    refine lv_aload_n hx hb dX1_add_17 rfl (lv_at hl 0 rfl) ?_
    refine lv_dup hx hb dX1_add_18 rfl ?_
    refine va_get (D := D) (ci := 1) (v := .int (z2 0 0)) (C := RX1) (T := TX1) (N := 2) hx hb hts inX1 hown hK hP 0 rfl rfl 0 (by decide) ln3 (fun _ h9 => h9) rfl dX1_add_19 ?_
    refine lv_iconst (v := (1 : Int32)) hx hb dX1_add_22 (by decide) ?_
    refine lv_iadd hx hb dX1_add_23 ?_
    refine k_let hf (fun v3 hf => ?_)
    refine k_put (ci := 1) (C := RX1) (T := TX1) (N := 2) (ty := .int) (w := (fun z => wTe cI a z)) hx hb hts inX1 tyX1 tyX1_ok nmX1 hown hK hP hD hS 0 rfl rfl 0 (by decide) ln3 (fun _ h9 => h9) rfl (by decide +kernel) rfl rfl (Nat.le_of_ble_eq_true rfl) (cN := 0) hf rfl dX1_add_24 (fun z4 H locs hP hS hf => ?_)
    exact W_vret (fun z => wTe cI a z) hx hb hr hlk hP hS hAe hf dX1_add_27
def fX1_forget (N : Nat) (σ : St)  : Option St :=
    lt_ (up2 σ 0 0 (0 : Int32)) (fun z1 =>
    some z1)
abbrev rmX1_forget : Room := { frames := 0, cells := 0, slots := 0, locals := 0 }
theorem qX1_forget : yX1_forget.cls = RX1 ∧ yX1_forget.cls ≠ "java/lang/invoke/MethodHandle" ∧ yX1_forget.cls ≠ "java/lang/invoke/VarHandle" ∧ (parseMethodDescriptor yX1_forget.desc).map (fun d => d.parameters.length) = some 0 := by decide +kernel
set_option maxHeartbeats 400000 in
set_option maxRecDepth 100000 in
theorem mX1_forget (l : Launch) (D : va_G) (cI cJ : ClassId) (a : Nat → Nat) (sz N : Nat) (σ : St)  (r : St) (hf : fX1_forget N σ = some r) : Met l yX1_forget wsX1_forget rmX1_forget (WPre ([.ref (a 0)] : List Value) sz D (tyIJ cI cJ) (wTe cI a σ)) (WQv sz D (wTe cI a σ) (wTe cI a r)) 0 0 (va_A (wTe cI a σ) sz) := by
  refine W_start (cc := cX1_forget) (maxL := 1) (ret := none) (by decide) rfl (Nat.le_of_ble_eq_true rfl) (fun p e s m below meth c ls A hx hb hr hml hown hts hlk hP hK hS hA hD0 hAe hl => ?_)
  have hD : ∀ z, va_D A ((fun z => wTe cI a z) z) := fun z => hD0.ad rfl
  have hown : s.vm.findClass RX1 = some m.cls := hown
  have hl : lv_has ls 1 [(0, .ref (a 0))] := hl
  have ln1 := hts (Cond.fieldLink RX1 7 "HoistsAreShared$Telling" "told" "I") (List.mem_of_getElem? (i := 1) rfl)
  have inX1 : ∀ w ∈ u_ws RX1 TX1 2, w ∈ wsX1_forget := fun _ h => List.mem_cons_of_mem _ (List.mem_append_right _ h)
  unfold fX1_forget at hf
  refine lv_aload_n hx hb dX1_forget_0 rfl (lv_at hl 0 rfl) ?_
  refine lv_iconst (v := (0 : Int32)) hx hb dX1_forget_1 (by decide) ?_
  refine k_put (ci := 1) (C := RX1) (T := TX1) (N := 2) (ty := .int) (w := (fun z => wTe cI a z)) hx hb hts inX1 tyX1 tyX1_ok nmX1 hown hK hP hD hS 0 rfl rfl 0 (by decide) ln1 (fun _ h9 => h9) rfl (by decide +kernel) rfl rfl (Nat.le_of_ble_eq_true rfl) (cN := 0) hf rfl dX1_forget_2 (fun z1 H locs hP hS hf => ?_)
  exact W_vret (fun z => wTe cI a z) hx hb hr hlk hP hS hAe hf dX1_forget_5
def fX1_lengthOf (N : Nat) (p1 : Int32) : Option Int32 :=
    if p1 = (116 : Int32) then some (4 : Int32)
    else if p1 = (98 : Int32) then some (4 : Int32)
    else some (3 : Int32)
abbrev rmX1_lengthOf : Room := { frames := 0, cells := 0, slots := 0, locals := 0 }
theorem qX1_lengthOf : yX1_lengthOf.cls ≠ "java/lang/invoke/MethodHandle" ∧ yX1_lengthOf.cls ≠ "java/lang/invoke/VarHandle" ∧ (parseMethodDescriptor yX1_lengthOf.desc).map (fun d => d.parameters.length) = some 1 := by decide +kernel
set_option maxHeartbeats 400000 in
set_option maxRecDepth 100000 in
theorem mX1_lengthOf (l : Launch) (D : va_G) (cI cJ : ClassId) (sz N : Nat) (p1 : Int32) (r : Int32) (hf : fX1_lengthOf N p1 = some r) : Met l yX1_lengthOf wsX1_lengthOf rmX1_lengthOf (RPre ([.int p1] : List Value) sz D (tyIJ cI cJ) (wNo)) (RQi sz r) 0 0 (fr0 sz) := by
  refine R_start (cc := cX1_lengthOf) (maxL := 1) (ret := (some .int)) (by decide) rfl (Nat.le_of_ble_eq_true rfl) (fun p e s m below meth c ls hx hb hr hml hown hts hlk hP hK hS hA hsz hl => ?_)
  have hown : s.vm.findClass RX1 = some m.cls := hown
  have hl : lv_has ls 1 [(0, .int p1)] := hl
  unfold fX1_lengthOf at hf
  refine lv_iload_n hx hb dX1_lengthOf_0 rfl (lv_at hl 0 rfl) ?_
  refine lv_bipush (v := (116 : Int32)) hx hb dX1_lengthOf_1 (by decide) ?_
  refine k_icmp_eq (tgt := 12) hx hb dX1_lengthOf_3 (by decide) hf (fun hf => ?_) (fun hf => ?_)
  · refine lv_iconst (v := (4 : Int32)) hx hb dX1_lengthOf_12 (by decide) ?_
    refine lv_goto (tgt := 17) hx hb dX1_lengthOf_13 (by decide) ?_
    exact R_iret hx hb hr hlk hS hsz hf dX1_lengthOf_17
  · refine lv_iload_n hx hb dX1_lengthOf_6 rfl (lv_at hl 0 rfl) ?_
    refine lv_bipush (v := (98 : Int32)) hx hb dX1_lengthOf_7 (by decide) ?_
    refine k_icmp_ne (tgt := 16) hx hb dX1_lengthOf_9 (by decide) hf (fun hf => ?_) (fun hf => ?_)
    · refine lv_iconst (v := (3 : Int32)) hx hb dX1_lengthOf_16 (by decide) ?_
      exact R_iret hx hb hr hlk hS hsz hf dX1_lengthOf_17
    · refine lv_iconst (v := (4 : Int32)) hx hb dX1_lengthOf_12 (by decide) ?_
      refine lv_goto (tgt := 17) hx hb dX1_lengthOf_13 (by decide) ?_
      exact R_iret hx hb hr hlk hS hsz hf dX1_lengthOf_17
def fX1_letterAt (N : Nat) (σ : St) (p1 : Int32) : Option Int32 :=
    if p1 < 0 then some (0 : Int32)
    else if (σ 0 0) ≤ p1 then some (0 : Int32)
    else if (96 : Int32) ≤ p1 then some (0 : Int32)
    else bo (rdI σ 1 96 p1) (fun v1 =>
    some v1)
abbrev rmX1_letterAt : Room := { frames := 0, cells := 0, slots := 0, locals := 0 }
theorem qX1_letterAt : yX1_letterAt.cls = RX1 ∧ yX1_letterAt.cls ≠ "java/lang/invoke/MethodHandle" ∧ yX1_letterAt.cls ≠ "java/lang/invoke/VarHandle" ∧ (parseMethodDescriptor yX1_letterAt.desc).map (fun d => d.parameters.length) = some 1 := by decide +kernel
set_option maxHeartbeats 400000 in
set_option maxRecDepth 100000 in
theorem mX1_letterAt (l : Launch) (D : va_G) (cI cJ : ClassId) (a : Nat → Nat) (sz N : Nat) (σ : St) (p1 : Int32) (r : Int32) (hf : fX1_letterAt N σ p1 = some r) : Met l yX1_letterAt wsX1_letterAt rmX1_letterAt (RPre ([.ref (a 0), .int p1] : List Value) sz D (tyIJ cI cJ) (wTe cI a σ)) (RQi sz r) 0 0 (fr0 sz) := by
  refine R_start (cc := cX1_letterAt) (maxL := 2) (ret := (some .int)) (by decide) rfl (Nat.le_of_ble_eq_true rfl) (fun p e s m below meth c ls hx hb hr hml hown hts hlk hP hK hS hA hsz hl => ?_)
  have hown : s.vm.findClass RX1 = some m.cls := hown
  have hl : lv_has ls 2 [(0, .ref (a 0)), (1, .int p1)] := hl
  have ln1 := hts (Cond.fieldLink RX1 7 "HoistsAreShared$Telling" "told" "I") (List.mem_of_getElem? (i := 1) rfl)
  have inX1 : ∀ w ∈ u_ws RX1 TX1 2, w ∈ wsX1_letterAt := fun _ h => List.mem_cons_of_mem _ (List.mem_append_right _ h)
  have ln3 := hts (Cond.fieldLink RX1 13 "HoistsAreShared$Telling" "letters" "[I") (List.mem_of_getElem? (i := 2) rfl)
  unfold fX1_letterAt at hf
  refine lv_iload_n hx hb dX1_letterAt_0 rfl (lv_at hl 1 rfl) ?_
  refine k_if_lt (tgt := 30) hx hb dX1_letterAt_1 (by decide) hf (fun hf => ?_) (fun hf => ?_)
  · refine lv_iconst (v := (0 : Int32)) hx hb dX1_letterAt_30 (by decide) ?_
    exact R_iret hx hb hr hlk hS hsz hf dX1_letterAt_31
  · refine lv_iload_n hx hb dX1_letterAt_4 rfl (lv_at hl 1 rfl) ?_
    refine lv_aload_n hx hb dX1_letterAt_5 rfl (lv_at hl 0 rfl) ?_
    refine va_get (D := D) (ci := 1) (v := .int (σ 0 0)) (C := RX1) (T := TX1) (N := 2) hx hb hts inX1 hown hK hP 0 rfl rfl 0 (by decide) ln1 (fun _ h9 => h9) rfl dX1_letterAt_6 ?_
    refine k_icmp_ge (tgt := 30) hx hb dX1_letterAt_9 (by decide) hf (fun hf => ?_) (fun hf => ?_)
    · refine lv_iconst (v := (0 : Int32)) hx hb dX1_letterAt_30 (by decide) ?_
      exact R_iret hx hb hr hlk hS hsz hf dX1_letterAt_31
    · refine lv_iload_n hx hb dX1_letterAt_12 rfl (lv_at hl 1 rfl) ?_
      refine lv_aload_n hx hb dX1_letterAt_13 rfl (lv_at hl 0 rfl) ?_
      refine va_get (D := D) (ci := 1) (v := .ref (a 1)) (C := RX1) (T := TX1) (N := 2) hx hb hts inX1 hown hK hP 0 rfl rfl 1 (by decide) ln3 (fun _ h9 => h9) rfl dX1_letterAt_14 ?_
      refine va_alen (v := (96 : Int32)) hx hb hK hP 1 0 rfl rfl rfl dX1_letterAt_17 ?_
      refine k_icmp_ge (tgt := 30) hx hb dX1_letterAt_18 (by decide) hf (fun hf => ?_) (fun hf => ?_)
      · refine lv_iconst (v := (0 : Int32)) hx hb dX1_letterAt_30 (by decide) ?_
        exact R_iret hx hb hr hlk hS hsz hf dX1_letterAt_31
      · refine lv_aload_n hx hb dX1_letterAt_21 rfl (lv_at hl 0 rfl) ?_
        refine va_get (D := D) (ci := 1) (v := .ref (a 1)) (C := RX1) (T := TX1) (N := 2) hx hb hts inX1 hown hK hP 0 rfl rfl 1 (by decide) ln3 (fun _ h9 => h9) rfl dX1_letterAt_22 ?_
        refine lv_iload_n hx hb dX1_letterAt_25 rfl (lv_at hl 1 rfl) ?_
        refine k_iald hx hb hK hP 1 0 hf rfl rfl dX1_letterAt_26 (fun v1 hf => ?_)
        refine lv_goto (tgt := 31) hx hb dX1_letterAt_27 (by decide) ?_
        exact R_iret hx hb hr hlk hS hsz hf dX1_letterAt_31
def fX1_digit (N : Nat) (σ : St) (p1 : Int32) : Option Int32 :=
    bo (fX1_letterAt N σ p1) (fun v1 =>
    some (v1 - (48 : Int32)))
abbrev rmX1_digit : Room := { frames := 1, cells := 0, slots := 0, locals := 21 }
theorem qX1_digit : yX1_digit.cls = RX1 ∧ yX1_digit.cls ≠ "java/lang/invoke/MethodHandle" ∧ yX1_digit.cls ≠ "java/lang/invoke/VarHandle" ∧ (parseMethodDescriptor yX1_digit.desc).map (fun d => d.parameters.length) = some 1 := by decide +kernel
set_option maxHeartbeats 400000 in
set_option maxRecDepth 100000 in
theorem mX1_digit (l : Launch) (D : va_G) (cI cJ : ClassId) (a : Nat → Nat) (sz N : Nat) (σ : St) (p1 : Int32) (r : Int32) (hf : fX1_digit N σ p1 = some r) : Met l yX1_digit wsX1_digit rmX1_digit (RPre ([.ref (a 0), .int p1] : List Value) sz D (tyIJ cI cJ) (wTe cI a σ)) (RQi sz r) 0 0 (fr0 sz) := by
  refine R_start (cc := cX1_digit) (maxL := 2) (ret := (some .int)) (by decide) rfl (Nat.le_of_ble_eq_true rfl) (fun p e s m below meth c ls hx hb hr hml hown hts hlk hP hK hS hA hsz hl => ?_)
  have hown : s.vm.findClass RX1 = some m.cls := hown
  have hl : lv_has ls 2 [(0, .ref (a 0)), (1, .int p1)] := hl
  unfold fX1_digit at hf
  refine lv_aload_n hx hb dX1_digit_0 rfl (lv_at hl 0 rfl) ?_
  refine lv_iload_n hx hb dX1_digit_1 rfl (lv_at hl 1 rfl) ?_
  refine c_callV (As := [.int p1]) (rest := []) ⟨hx, hb, hml, hown, hts⟩ hf (fun vq hq => mX1_letterAt l D cI cJ a s.heap.size N σ p1 vq hq) (cwV 1 hts gX1_digit_X1_letterAt rfl rfl rfl qX1_letterAt ⟨Nat.le_of_ble_eq_true rfl, Nat.le_of_ble_eq_true rfl⟩) hK hP hS hA hP 1 rfl rfl rfl rfl hl.1 rfl (Nat.le_of_ble_eq_true rfl) dX1_digit_2 ⟨Nat.le_refl _, Nat.le_refl _⟩ (fun v1 H locs hP hS hf => ?_)
  refine lv_bipush (v := (48 : Int32)) hx hb dX1_digit_5 (by decide) ?_
  refine lv_isub hx hb dX1_digit_7 ?_
  exact R_iret hx hb hr hlk hS hsz hf dX1_digit_8
def fX1_number (N : Nat) (σ : St) (p1 : Int32) : Option Int32 :=
    bo (fX1_digit N σ p1) (fun v1 =>
    bo (fX1_digit N σ (p1 + (1 : Int32))) (fun v2 =>
    some (((10 : Int32) * v1) + v2)))
abbrev rmX1_number : Room := { frames := 2, cells := 0, slots := 0, locals := 42 }
theorem qX1_number : yX1_number.cls = RX1 ∧ yX1_number.cls ≠ "java/lang/invoke/MethodHandle" ∧ yX1_number.cls ≠ "java/lang/invoke/VarHandle" ∧ (parseMethodDescriptor yX1_number.desc).map (fun d => d.parameters.length) = some 1 := by decide +kernel
set_option maxHeartbeats 400000 in
set_option maxRecDepth 100000 in
theorem mX1_number (l : Launch) (D : va_G) (cI cJ : ClassId) (a : Nat → Nat) (sz N : Nat) (σ : St) (p1 : Int32) (r : Int32) (hf : fX1_number N σ p1 = some r) : Met l yX1_number wsX1_number rmX1_number (RPre ([.ref (a 0), .int p1] : List Value) sz D (tyIJ cI cJ) (wTe cI a σ)) (RQi sz r) 0 0 (fr0 sz) := by
  refine R_start (cc := cX1_number) (maxL := 2) (ret := (some .int)) (by decide) rfl (Nat.le_of_ble_eq_true rfl) (fun p e s m below meth c ls hx hb hr hml hown hts hlk hP hK hS hA hsz hl => ?_)
  have hown : s.vm.findClass RX1 = some m.cls := hown
  have hl : lv_has ls 2 [(0, .ref (a 0)), (1, .int p1)] := hl
  unfold fX1_number at hf
  refine lv_bipush (v := (10 : Int32)) hx hb dX1_number_0 (by decide) ?_
  refine lv_aload_n hx hb dX1_number_2 rfl (lv_at hl 0 rfl) ?_
  refine lv_iload_n hx hb dX1_number_3 rfl (lv_at hl 1 rfl) ?_
  refine c_callV (As := [.int p1]) (rest := [.int (10 : Int32)]) ⟨hx, hb, hml, hown, hts⟩ hf (fun vq hq => mX1_digit l D cI cJ a s.heap.size N σ p1 vq hq) (cwV 1 hts gX1_number_X1_digit rfl rfl rfl qX1_digit ⟨Nat.le_of_ble_eq_true rfl, Nat.le_of_ble_eq_true rfl⟩) hK hP hS hA hP 1 rfl rfl rfl rfl hl.1 rfl (Nat.le_of_ble_eq_true rfl) dX1_number_4 ⟨Nat.le_refl _, Nat.le_refl _⟩ (fun v1 H locs hP hS hf => ?_)
  refine lv_imul hx hb dX1_number_7 ?_
  refine lv_aload_n hx hb dX1_number_8 rfl (lv_at hl 0 rfl) ?_
  refine lv_iload_n hx hb dX1_number_9 rfl (lv_at hl 1 rfl) ?_
  refine lv_iconst (v := (1 : Int32)) hx hb dX1_number_10 (by decide) ?_
  refine lv_iadd hx hb dX1_number_11 ?_
  refine c_callV (As := [.int (p1 + (1 : Int32))]) (rest := [.int ((10 : Int32) * v1)]) ⟨hx, hb, hml, hown, hts⟩ hf (fun vq hq => mX1_digit l D cI cJ a H.size N σ (p1 + (1 : Int32)) vq hq) (cwV 1 hts gX1_number_X1_digit rfl rfl rfl qX1_digit ⟨Nat.le_of_ble_eq_true rfl, Nat.le_of_ble_eq_true rfl⟩) hK hP hS hA hP 1 rfl rfl rfl rfl hl.1 rfl (Nat.le_of_ble_eq_true rfl) dX1_number_12 ⟨Nat.le_refl _, Nat.le_refl _⟩ (fun v2 H locs hP hS hf => ?_)
  refine lv_iadd hx hb dX1_number_15 ?_
  exact R_iret hx hb hr hlk hS hsz hf dX1_number_16
