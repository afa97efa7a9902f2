def fX0_has (N : Nat) (σ : St) (p1 : Int32) : Option Int32 :=
    if p1 < 0 then zr (0 : Int32)
    else if (σ 0 3) ≤ p1 then zr (0 : Int32)
    else if (8 : Int32) ≤ p1 then zr (0 : Int32)
    else zr (1 : Int32)
abbrev rmX0_has : Room := { frames := 0, cells := 0, slots := 0, locals := 0 }
theorem qX0_has : yX0_has.cls = RX0 ∧ yX0_has.cls ≠ "java/lang/invoke/MethodHandle" ∧ yX0_has.cls ≠ "java/lang/invoke/VarHandle" ∧ (parseMethodDescriptor yX0_has.desc).map (fun d => d.parameters.length) = some 1 := by decide +kernel
set_option maxHeartbeats 4000000 in
set_option maxRecDepth 100000 in
theorem mX0_has (l : Launch) (D : va_G) (cI cJ : ClassId) (a : Nat → Nat) (sz N : Nat) (σ : St) (p1 : Int32) (r : Int32) (hf : fX0_has N σ p1 = some r) : Met l yX0_has wsX0_has rmX0_has (RPre ([.ref (a 0), .int p1] : List Value) sz D (tyIJ cI cJ) (wHo cI a σ)) (RQi sz r) 0 0 (fr0 sz) := by
  refine R_start (cc := cX0_has) (maxL := 2) (ret := (some .boolean)) (by decide) rfl (Nat.le_of_ble_eq_true rfl) (fun p e s m below meth c ls hx hb hr hml hown hts hlk hP hK hS hA hsz hl => ?_)
  have hown : s.vm.findClass RX0 = some m.cls := hown
  have hl : lv_has ls 2 [(0, .ref (a 0)), (1, .int p1)] := hl
  have k1 := hts (Cond.fieldLink RX0 22 "HoistsAreShared$Hoist" "things" "I") (List.mem_of_getElem? (i := 1) rfl)
  have inX0 : ∀ w ∈ u_ws RX0 TX0 9, w ∈ wsX0_has := fun _ h => List.mem_cons_of_mem _ (List.mem_append_right _ h)
  unfold fX0_has at hf
  refine lv_iload_n hx hb dX0_has_0 rfl (lv_at hl 1 rfl) ?_
  refine k_if_lt (tgt := 22) hx hb dX0_has_1 (by decide) hf (fun hf => ?_) (fun hf => ?_)
  · refine lv_iconst (v := (0 : Int32)) hx hb dX0_has_22 (by decide) ?_
    exact R_zret hx hb hr hlk hS hsz hf dX0_has_23
  · refine lv_iload_n hx hb dX0_has_4 rfl (lv_at hl 1 rfl) ?_
    refine lv_aload_n hx hb dX0_has_5 rfl (lv_at hl 0 rfl) ?_
    refine va_get (D := D) (ci := 0) (v := .int (σ 0 3)) (C := RX0) (T := TX0) (N := 9) hx hb hts inX0 hown hK hP 0 rfl rfl 3 (by decide) k1 (fun _ h9 => h9) rfl dX0_has_6 ?_
    refine k_icmp_ge (tgt := 22) hx hb dX0_has_9 (by decide) hf (fun hf => ?_) (fun hf => ?_)
    · refine lv_iconst (v := (0 : Int32)) hx hb dX0_has_22 (by decide) ?_
      exact R_zret hx hb hr hlk hS hsz hf dX0_has_23
    · refine lv_iload_n hx hb dX0_has_12 rfl (lv_at hl 1 rfl) ?_
      refine lv_bipush (v := (8 : Int32)) hx hb dX0_has_13 (by decide) ?_
      refine k_icmp_ge (tgt := 22) hx hb dX0_has_15 (by decide) hf (fun hf => ?_) (fun hf => ?_)
      · refine lv_iconst (v := (0 : Int32)) hx hb dX0_has_22 (by decide) ?_
        exact R_zret hx hb hr hlk hS hsz hf dX0_has_23
      · refine lv_iconst (v := (1 : Int32)) hx hb dX0_has_18 (by decide) ?_
        refine lv_goto (tgt := 23) hx hb dX0_has_19 (by decide) ?_
        exact R_zret hx hb hr hlk hS hsz hf dX0_has_23
def fX0_isSide (N : Nat) (p1 : Int32) : Option Int32 :=
    if p1 < 0 then zr (0 : Int32)
    else if (2 : Int32) ≤ p1 then zr (0 : Int32)
    else zr (1 : Int32)
abbrev rmX0_isSide : Room := { frames := 0, cells := 0, slots := 0, locals := 0 }
theorem qX0_isSide : yX0_isSide.cls ≠ "java/lang/invoke/MethodHandle" ∧ yX0_isSide.cls ≠ "java/lang/invoke/VarHandle" ∧ (parseMethodDescriptor yX0_isSide.desc).map (fun d => d.parameters.length) = some 1 := by decide +kernel
set_option maxHeartbeats 4000000 in
set_option maxRecDepth 100000 in
theorem mX0_isSide (l : Launch) (D : va_G) (cI cJ : ClassId) (sz N : Nat) (p1 : Int32) (r : Int32) (hf : fX0_isSide N p1 = some r) : Met l yX0_isSide wsX0_isSide rmX0_isSide (RPre ([.int p1] : List Value) sz D (tyIJ cI cJ) (wNo)) (RQi sz r) 0 0 (fr0 sz) := by
  refine R_start (cc := cX0_isSide) (maxL := 1) (ret := (some .boolean)) (by decide) rfl (Nat.le_of_ble_eq_true rfl) (fun p e s m below meth c ls hx hb hr hml hown hts hlk hP hK hS hA hsz hl => ?_)
  have hown : s.vm.findClass RX0 = some m.cls := hown
  have hl : lv_has ls 1 [(0, .int p1)] := hl
  unfold fX0_isSide at hf
  refine lv_iload_n hx hb dX0_isSide_0 rfl (lv_at hl 0 rfl) ?_
  refine k_if_lt (tgt := 13) hx hb dX0_isSide_1 (by decide) hf (fun hf => ?_) (fun hf => ?_)
  · refine lv_iconst (v := (0 : Int32)) hx hb dX0_isSide_13 (by decide) ?_
    exact R_zret hx hb hr hlk hS hsz hf dX0_isSide_14
  · refine lv_iload_n hx hb dX0_isSide_4 rfl (lv_at hl 0 rfl) ?_
    refine lv_iconst (v := (2 : Int32)) hx hb dX0_isSide_5 (by decide) ?_
    refine k_icmp_ge (tgt := 13) hx hb dX0_isSide_6 (by decide) hf (fun hf => ?_) (fun hf => ?_)
    · refine lv_iconst (v := (0 : Int32)) hx hb dX0_isSide_13 (by decide) ?_
      exact R_zret hx hb hr hlk hS hsz hf dX0_isSide_14
    · refine lv_iconst (v := (1 : Int32)) hx hb dX0_isSide_9 (by decide) ?_
      refine lv_goto (tgt := 14) hx hb dX0_isSide_10 (by decide) ?_
      exact R_zret hx hb hr hlk hS hsz hf dX0_isSide_14
def fX0_isFloor (N : Nat) (p1 : Int32) : Option Int32 :=
    if p1 < 0 then zr (0 : Int32)
    else if (20 : Int32) < p1 then zr (0 : Int32)
    else zr (1 : Int32)
abbrev rmX0_isFloor : Room := { frames := 0, cells := 0, slots := 0, locals := 0 }
theorem qX0_isFloor : yX0_isFloor.cls ≠ "java/lang/invoke/MethodHandle" ∧ yX0_isFloor.cls ≠ "java/lang/invoke/VarHandle" ∧ (parseMethodDescriptor yX0_isFloor.desc).map (fun d => d.parameters.length) = some 1 := by decide +kernel
set_option maxHeartbeats 4000000 in
set_option maxRecDepth 100000 in
theorem mX0_isFloor (l : Launch) (D : va_G) (cI cJ : ClassId) (sz N : Nat) (p1 : Int32) (r : Int32) (hf : fX0_isFloor N p1 = some r) : Met l yX0_isFloor wsX0_isFloor rmX0_isFloor (RPre ([.int p1] : List Value) sz D (tyIJ cI cJ) (wNo)) (RQi sz r) 0 0 (fr0 sz) := by
  refine R_start (cc := cX0_isFloor) (maxL := 1) (ret := (some .boolean)) (by decide) rfl (Nat.le_of_ble_eq_true rfl) (fun p e s m below meth c ls hx hb hr hml hown hts hlk hP hK hS hA hsz hl => ?_)
  have hown : s.vm.findClass RX0 = some m.cls := hown
  have hl : lv_has ls 1 [(0, .int p1)] := hl
  unfold fX0_isFloor at hf
  refine lv_iload_n hx hb dX0_isFloor_0 rfl (lv_at hl 0 rfl) ?_
  refine k_if_lt (tgt := 14) hx hb dX0_isFloor_1 (by decide) hf (fun hf => ?_) (fun hf => ?_)
  · refine lv_iconst (v := (0 : Int32)) hx hb dX0_isFloor_14 (by decide) ?_
    exact R_zret hx hb hr hlk hS hsz hf dX0_isFloor_15
  · refine lv_iload_n hx hb dX0_isFloor_4 rfl (lv_at hl 0 rfl) ?_
    refine lv_bipush (v := (20 : Int32)) hx hb dX0_isFloor_5 (by decide) ?_
    refine k_icmp_gt (tgt := 14) hx hb dX0_isFloor_7 (by decide) hf (fun hf => ?_) (fun hf => ?_)
    · refine lv_iconst (v := (0 : Int32)) hx hb dX0_isFloor_14 (by decide) ?_
      exact R_zret hx hb hr hlk hS hsz hf dX0_isFloor_15
    · refine lv_iconst (v := (1 : Int32)) hx hb dX0_isFloor_10 (by decide) ?_
      refine lv_goto (tgt := 15) hx hb dX0_isFloor_11 (by decide) ?_
      exact R_zret hx hb hr hlk hS hsz hf dX0_isFloor_15
def fX0_isPlace (N : Nat) (p1 : Int32) : Option Int32 :=
    if p1 < 0 then zr (0 : Int32)
    else if (3 : Int32) ≤ p1 then zr (0 : Int32)
    else zr (1 : Int32)
abbrev rmX0_isPlace : Room := { frames := 0, cells := 0, slots := 0, locals := 0 }
theorem qX0_isPlace : yX0_isPlace.cls ≠ "java/lang/invoke/MethodHandle" ∧ yX0_isPlace.cls ≠ "java/lang/invoke/VarHandle" ∧ (parseMethodDescriptor yX0_isPlace.desc).map (fun d => d.parameters.length) = some 1 := by decide +kernel
set_option maxHeartbeats 4000000 in
set_option maxRecDepth 100000 in
theorem mX0_isPlace (l : Launch) (D : va_G) (cI cJ : ClassId) (sz N : Nat) (p1 : Int32) (r : Int32) (hf : fX0_isPlace N p1 = some r) : Met l yX0_isPlace wsX0_isPlace rmX0_isPlace (RPre ([.int p1] : List Value) sz D (tyIJ cI cJ) (wNo)) (RQi sz r) 0 0 (fr0 sz) := by
  refine R_start (cc := cX0_isPlace) (maxL := 1) (ret := (some .boolean)) (by decide) rfl (Nat.le_of_ble_eq_true rfl) (fun p e s m below meth c ls hx hb hr hml hown hts hlk hP hK hS hA hsz hl => ?_)
  have hown : s.vm.findClass RX0 = some m.cls := hown
  have hl : lv_has ls 1 [(0, .int p1)] := hl
  unfold fX0_isPlace at hf
  refine lv_iload_n hx hb dX0_isPlace_0 rfl (lv_at hl 0 rfl) ?_
  refine k_if_lt (tgt := 13) hx hb dX0_isPlace_1 (by decide) hf (fun hf => ?_) (fun hf => ?_)
  · refine lv_iconst (v := (0 : Int32)) hx hb dX0_isPlace_13 (by decide) ?_
    exact R_zret hx hb hr hlk hS hsz hf dX0_isPlace_14
  · refine lv_iload_n hx hb dX0_isPlace_4 rfl (lv_at hl 0 rfl) ?_
    refine lv_iconst (v := (3 : Int32)) hx hb dX0_isPlace_5 (by decide) ?_
    refine k_icmp_ge (tgt := 13) hx hb dX0_isPlace_6 (by decide) hf (fun hf => ?_) (fun hf => ?_)
    · refine lv_iconst (v := (0 : Int32)) hx hb dX0_isPlace_13 (by decide) ?_
      exact R_zret hx hb hr hlk hS hsz hf dX0_isPlace_14
    · refine lv_iconst (v := (1 : Int32)) hx hb dX0_isPlace_9 (by decide) ?_
      refine lv_goto (tgt := 14) hx hb dX0_isPlace_10 (by decide) ?_
      exact R_zret hx hb hr hlk hS hsz hf dX0_isPlace_14
def fX0_isKind (N : Nat) (p1 : Int32) : Option Int32 :=
    if p1 < 0 then zr (0 : Int32)
    else if (6 : Int32) ≤ p1 then zr (0 : Int32)
    else zr (1 : Int32)
abbrev rmX0_isKind : Room := { frames := 0, cells := 0, slots := 0, locals := 0 }
theorem qX0_isKind : yX0_isKind.cls ≠ "java/lang/invoke/MethodHandle" ∧ yX0_isKind.cls ≠ "java/lang/invoke/VarHandle" ∧ (parseMethodDescriptor yX0_isKind.desc).map (fun d => d.parameters.length) = some 1 := by decide +kernel
set_option maxHeartbeats 4000000 in
set_option maxRecDepth 100000 in
theorem mX0_isKind (l : Launch) (D : va_G) (cI cJ : ClassId) (sz N : Nat) (p1 : Int32) (r : Int32) (hf : fX0_isKind N p1 = some r) : Met l yX0_isKind wsX0_isKind rmX0_isKind (RPre ([.int p1] : List Value) sz D (tyIJ cI cJ) (wNo)) (RQi sz r) 0 0 (fr0 sz) := by
  refine R_start (cc := cX0_isKind) (maxL := 1) (ret := (some .boolean)) (by decide) rfl (Nat.le_of_ble_eq_true rfl) (fun p e s m below meth c ls hx hb hr hml hown hts hlk hP hK hS hA hsz hl => ?_)
  have hown : s.vm.findClass RX0 = some m.cls := hown
  have hl : lv_has ls 1 [(0, .int p1)] := hl
  unfold fX0_isKind at hf
  refine lv_iload_n hx hb dX0_isKind_0 rfl (lv_at hl 0 rfl) ?_
  refine k_if_lt (tgt := 14) hx hb dX0_isKind_1 (by decide) hf (fun hf => ?_) (fun hf => ?_)
  · refine lv_iconst (v := (0 : Int32)) hx hb dX0_isKind_14 (by decide) ?_
    exact R_zret hx hb hr hlk hS hsz hf dX0_isKind_15
  · refine lv_iload_n hx hb dX0_isKind_4 rfl (lv_at hl 0 rfl) ?_
    refine lv_bipush (v := (6 : Int32)) hx hb dX0_isKind_5 (by decide) ?_
    refine k_icmp_ge (tgt := 14) hx hb dX0_isKind_7 (by decide) hf (fun hf => ?_) (fun hf => ?_)
    · refine lv_iconst (v := (0 : Int32)) hx hb dX0_isKind_14 (by decide) ?_
      exact R_zret hx hb hr hlk hS hsz hf dX0_isKind_15
    · refine lv_iconst (v := (1 : Int32)) hx hb dX0_isKind_10 (by decide) ?_
      refine lv_goto (tgt := 15) hx hb dX0_isKind_11 (by decide) ?_
      exact R_zret hx hb hr hlk hS hsz hf dX0_isKind_15
def fX0_kindOf (N : Nat) (σ : St) (p1 : Int32) : Option Int32 :=
    bo (fX0_has N σ p1) (fun v1 =>
    if v1 = 0 then some (0 : Int32)
    else bo (rdI σ 2 8 p1) (fun v2 =>
    some v2))
abbrev rmX0_kindOf : Room := { frames := 1, cells := 0, slots := 0, locals := 21 }
theorem qX0_kindOf : yX0_kindOf.cls = RX0 ∧ yX0_kindOf.cls ≠ "java/lang/invoke/MethodHandle" ∧ yX0_kindOf.cls ≠ "java/lang/invoke/VarHandle" ∧ (parseMethodDescriptor yX0_kindOf.desc).map (fun d => d.parameters.length) = some 1 := by decide +kernel
set_option maxHeartbeats 4000000 in
set_option maxRecDepth 100000 in
theorem mX0_kindOf (l : Launch) (D : va_G) (cI cJ : ClassId) (a : Nat → Nat) (sz N : Nat) (σ : St) (p1 : Int32) (r : Int32) (hf : fX0_kindOf N σ p1 = some r) : Met l yX0_kindOf wsX0_kindOf rmX0_kindOf (RPre ([.ref (a 0), .int p1] : List Value) sz D (tyIJ cI cJ) (wHo cI a σ)) (RQi sz r) 0 0 (fr0 sz) := by
  refine R_start (cc := cX0_kindOf) (maxL := 2) (ret := (some .int)) (by decide) rfl (Nat.le_of_ble_eq_true rfl) (fun p e s m below meth c ls hx hb hr hml hown hts hlk hP hK hS hA hsz hl => ?_)
  have hown : s.vm.findClass RX0 = some m.cls := hown
  have hl : lv_has ls 2 [(0, .ref (a 0)), (1, .int p1)] := hl
  have k1 := hts (Cond.fieldLink RX0 29 "HoistsAreShared$Hoist" "kinds" "[I") (List.mem_of_getElem? (i := 1) rfl)
  have inX0 : ∀ w ∈ u_ws RX0 TX0 9, w ∈ wsX0_kindOf := fun _ h => List.mem_cons_of_mem _ (List.mem_append_right _ h)
  unfold fX0_kindOf at hf
  refine lv_aload_n hx hb dX0_kindOf_0 rfl (lv_at hl 0 rfl) ?_
  refine lv_iload_n hx hb dX0_kindOf_1 rfl (lv_at hl 1 rfl) ?_
  refine r_callV (As := [.int p1]) (rest := []) ⟨hx, hb, hml, hown, hts⟩ hf (fun v h => mX0_has l D cI cJ a s.heap.size N σ p1 v h) (cwV 1 hts gX0_kindOf_X0_has rfl rfl rfl qX0_has ⟨Nat.le_of_ble_eq_true rfl, Nat.le_of_ble_eq_true rfl⟩) hK hP hS hA [0, 1, 2, 3, 4, 5] rfl 0 rfl rfl rfl rfl hl.1 rfl (Nat.le_of_ble_eq_true rfl) dX0_kindOf_2 ⟨Nat.le_refl _, Nat.le_refl _⟩ (fun v1 H locs hP hS hf => ?_)
  refine k_if_eq (tgt := 17) hx hb dX0_kindOf_5 (by decide) hf (fun hf => ?_) (fun hf => ?_)
  · refine lv_iconst (v := (0 : Int32)) hx hb dX0_kindOf_17 (by decide) ?_
    exact R_iret hx hb hr hlk hS hsz hf dX0_kindOf_18
  · refine lv_aload_n hx hb dX0_kindOf_8 rfl (lv_at hl 0 rfl) ?_
    refine va_get (D := D) (ci := 0) (v := .ref (a 2)) (C := RX0) (T := TX0) (N := 9) hx hb hts inX0 hown hK hP 0 rfl rfl 5 (by decide) k1 (fun _ h9 => h9) rfl dX0_kindOf_9 ?_
    refine lv_iload_n hx hb dX0_kindOf_12 rfl (lv_at hl 1 rfl) ?_
    refine k_iald hx hb hK hP 2 0 hf rfl rfl dX0_kindOf_13 (fun v2 hf => ?_)
    refine lv_goto (tgt := 18) hx hb dX0_kindOf_14 (by decide) ?_
    exact R_iret hx hb hr hlk hS hsz hf dX0_kindOf_18
def fX0_placeOf (N : Nat) (σ : St) (p1 : Int32) : Option Int32 :=
    bo (fX0_has N σ p1) (fun v1 =>
    if v1 = 0 then some (2 : Int32)
    else bo (rdI σ 4 8 p1) (fun v2 =>
    some v2))
abbrev rmX0_placeOf : Room := { frames := 1, cells := 0, slots := 0, locals := 21 }
theorem qX0_placeOf : yX0_placeOf.cls = RX0 ∧ yX0_placeOf.cls ≠ "java/lang/invoke/MethodHandle" ∧ yX0_placeOf.cls ≠ "java/lang/invoke/VarHandle" ∧ (parseMethodDescriptor yX0_placeOf.desc).map (fun d => d.parameters.length) = some 1 := by decide +kernel
set_option maxHeartbeats 4000000 in
set_option maxRecDepth 100000 in
theorem mX0_placeOf (l : Launch) (D : va_G) (cI cJ : ClassId) (a : Nat → Nat) (sz N : Nat) (σ : St) (p1 : Int32) (r : Int32) (hf : fX0_placeOf N σ p1 = some r) : Met l yX0_placeOf wsX0_placeOf rmX0_placeOf (RPre ([.ref (a 0), .int p1] : List Value) sz D (tyIJ cI cJ) (wHo cI a σ)) (RQi sz r) 0 0 (fr0 sz) := by
  refine R_start (cc := cX0_placeOf) (maxL := 2) (ret := (some .int)) (by decide) rfl (Nat.le_of_ble_eq_true rfl) (fun p e s m below meth c ls hx hb hr hml hown hts hlk hP hK hS hA hsz hl => ?_)
  have hown : s.vm.findClass RX0 = some m.cls := hown
  have hl : lv_has ls 2 [(0, .ref (a 0)), (1, .int p1)] := hl
  have k1 := hts (Cond.fieldLink RX0 35 "HoistsAreShared$Hoist" "places" "[I") (List.mem_of_getElem? (i := 1) rfl)
  have inX0 : ∀ w ∈ u_ws RX0 TX0 9, w ∈ wsX0_placeOf := fun _ h => List.mem_cons_of_mem _ (List.mem_append_right _ h)
  unfold fX0_placeOf at hf
  refine lv_aload_n hx hb dX0_placeOf_0 rfl (lv_at hl 0 rfl) ?_
  refine lv_iload_n hx hb dX0_placeOf_1 rfl (lv_at hl 1 rfl) ?_
  refine r_callV (As := [.int p1]) (rest := []) ⟨hx, hb, hml, hown, hts⟩ hf (fun v h => mX0_has l D cI cJ a s.heap.size N σ p1 v h) (cwV 1 hts gX0_placeOf_X0_has rfl rfl rfl qX0_has ⟨Nat.le_of_ble_eq_true rfl, Nat.le_of_ble_eq_true rfl⟩) hK hP hS hA [0, 1, 2, 3, 4, 5] rfl 0 rfl rfl rfl rfl hl.1 rfl (Nat.le_of_ble_eq_true rfl) dX0_placeOf_2 ⟨Nat.le_refl _, Nat.le_refl _⟩ (fun v1 H locs hP hS hf => ?_)
  refine k_if_eq (tgt := 17) hx hb dX0_placeOf_5 (by decide) hf (fun hf => ?_) (fun hf => ?_)
  · refine lv_iconst (v := (2 : Int32)) hx hb dX0_placeOf_17 (by decide) ?_
    exact R_iret hx hb hr hlk hS hsz hf dX0_placeOf_18
  · refine lv_aload_n hx hb dX0_placeOf_8 rfl (lv_at hl 0 rfl) ?_
    refine va_get (D := D) (ci := 0) (v := .ref (a 4)) (C := RX0) (T := TX0) (N := 9) hx hb hts inX0 hown hK hP 0 rfl rfl 7 (by decide) k1 (fun _ h9 => h9) rfl dX0_placeOf_9 ?_
    refine lv_iload_n hx hb dX0_placeOf_12 rfl (lv_at hl 1 rfl) ?_
    refine k_iald hx hb hK hP 4 0 hf rfl rfl dX0_placeOf_13 (fun v2 hf => ?_)
    refine lv_goto (tgt := 18) hx hb dX0_placeOf_14 (by decide) ?_
    exact R_iret hx hb hr hlk hS hsz hf dX0_placeOf_18
def fX0_put (N : Nat) (σ : St) (p1 : Int32) (p2 : Int32) : Option (Int32 × St) :=
    bo (fX0_has N σ p1) (fun v1 =>
    if v1 = 0 then bo (zr (0 : Int32)) (fun v => some (v, σ))
    else bo (fX0_isPlace N p2) (fun v2 =>
    if v2 = 0 then bo (zr (0 : Int32)) (fun v => some (v, σ))
    else bo (wrI σ 4 8 p1 p2) (fun z3 =>
    bo (wrI z3 5 8 p1 (z3 0 2)) (fun z4 =>
    bo (zr (1 : Int32)) (fun v => some (v, z4))))))
abbrev rmX0_put : Room := { frames := 1, cells := 0, slots := 0, locals := 21 }
theorem qX0_put : yX0_put.cls = RX0 ∧ yX0_put.cls ≠ "java/lang/invoke/MethodHandle" ∧ yX0_put.cls ≠ "java/lang/invoke/VarHandle" ∧ (parseMethodDescriptor yX0_put.desc).map (fun d => d.parameters.length) = some 2 := by decide +kernel
set_option maxHeartbeats 4000000 in
set_option maxRecDepth 100000 in
theorem mX0_put (l : Launch) (D : va_G) (cI cJ : ClassId) (a : Nat → Nat) (sz N : Nat) (σ : St) (p1 : Int32) (p2 : Int32) (r : (Int32 × St)) (hf : fX0_put N σ p1 p2 = some r) : Met l yX0_put wsX0_put rmX0_put (WPre ([.ref (a 0), .int p1, .int p2] : List Value) sz D (tyIJ cI cJ) (wHo cI a σ)) (WQi sz D (wHo cI a σ) (wHo cI a (r.2)) r.1) 0 0 (va_A (wHo cI a σ) sz) := by
  refine W_start (cc := cX0_put) (maxL := 3) (ret := (some .boolean)) (by decide) rfl (Nat.le_of_ble_eq_true rfl) (fun p e s m below meth c ls A hx hb hr hml hown hts hlk hP hK hS hA hD0 hAe hl => ?_)
  have hD : ∀ z, va_D A ((fun z => wHo cI a z) z) := fun z => hD0.ad rfl
  have hown : s.vm.findClass RX0 = some m.cls := hown
  have hl : lv_has ls 3 [(0, .ref (a 0)), (1, .int p1), (2, .int p2)] := hl
  have k1 := hts (Cond.fieldLink RX0 35 "HoistsAreShared$Hoist" "places" "[I") (List.mem_of_getElem? (i := 1) rfl)
  have inX0 : ∀ w ∈ u_ws RX0 TX0 9, w ∈ wsX0_put := fun _ h => List.mem_cons_of_mem _ (List.mem_append_right _ h)
  have k3 := hts (Cond.fieldLink RX0 38 "HoistsAreShared$Hoist" "sinces" "[I") (List.mem_of_getElem? (i := 2) rfl)
  have k4 := hts (Cond.fieldLink RX0 19 "HoistsAreShared$Hoist" "day" "I") (List.mem_of_getElem? (i := 3) rfl)
  unfold fX0_put at hf
  refine lv_aload_n hx hb dX0_put_0 rfl (lv_at hl 0 rfl) ?_
  refine lv_iload_n hx hb dX0_put_1 rfl (lv_at hl 1 rfl) ?_
  refine r_callV (As := [.int p1]) (rest := []) ⟨hx, hb, hml, hown, hts⟩ hf (fun v h => mX0_has l D cI cJ a s.heap.size N σ p1 v h) (cwV 1 hts gX0_put_X0_has rfl rfl rfl qX0_has ⟨Nat.le_of_ble_eq_true rfl, Nat.le_of_ble_eq_true rfl⟩) hK hP hS hA [0, 1, 2, 3, 4, 5] rfl 0 rfl rfl rfl rfl hl.1 rfl (Nat.le_of_ble_eq_true rfl) dX0_put_2 ⟨Nat.le_refl _, Nat.le_refl _⟩ (fun v1 H locs hP hS hf => ?_)
  refine k_if_eq (tgt := 15) hx hb dX0_put_5 (by decide) hf (fun hf => ?_) (fun hf => ?_)
  · refine lv_iconst (v := (0 : Int32)) hx hb dX0_put_15 (by decide) ?_
    exact W_zret (fun z => wHo cI a z) hx hb hr hlk hP hS hAe hf dX0_put_16
  · refine lv_iload_n hx hb dX0_put_8 rfl (lv_at hl 2 rfl) ?_
    refine r_callS (As := [.int p2]) (rest := []) ⟨hx, hb, hml, hown, hts⟩ hf (fun v h => mX0_isPlace l D cI cJ H.size N p2 v h) (va_cwS 1 hts gX0_put_X0_isPlace rfl rfl rfl qX0_isPlace ⟨Nat.le_of_ble_eq_true rfl, Nat.le_of_ble_eq_true rfl⟩) hK hP hS hA [] rfl rfl hl.1 rfl (Nat.le_of_ble_eq_true rfl) dX0_put_9 ⟨Nat.le_refl _, Nat.le_refl _⟩ (fun v2 H locs hP hS hf => ?_)
    refine k_if_ne (tgt := 17) hx hb dX0_put_12 (by decide) hf (fun hf => ?_) (fun hf => ?_)
    · refine lv_aload_n hx hb dX0_put_17 rfl (lv_at hl 0 rfl) ?_
      refine va_get (D := D) (ci := 0) (v := .ref (a 4)) (C := RX0) (T := TX0) (N := 9) hx hb hts inX0 hown hK hP 0 rfl rfl 7 (by decide) k1 (fun _ h9 => h9) rfl dX0_put_18 ?_
      refine lv_iload_n hx hb dX0_put_21 rfl (lv_at hl 1 rfl) ?_
      refine lv_iload_n hx hb dX0_put_22 rfl (lv_at hl 2 rfl) ?_
      refine k_iast (w := (fun z => wHo cI a z)) hx hb hK hP hD hS 4 0 hf rfl rfl (fun _ => rfl) dX0_put_23 (fun z3 H locs hP hS hf => ?_)
      refine lv_aload_n hx hb dX0_put_24 rfl (lv_at hl 0 rfl) ?_
      refine va_get (D := D) (ci := 0) (v := .ref (a 5)) (C := RX0) (T := TX0) (N := 9) hx hb hts inX0 hown hK hP 0 rfl rfl 8 (by decide) k3 (fun _ h9 => h9) rfl dX0_put_25 ?_
      refine lv_iload_n hx hb dX0_put_28 rfl (lv_at hl 1 rfl) ?_
      refine lv_aload_n hx hb dX0_put_29 rfl (lv_at hl 0 rfl) ?_
      refine va_get (D := D) (ci := 0) (v := .int (z3 0 2)) (C := RX0) (T := TX0) (N := 9) hx hb hts inX0 hown hK hP 0 rfl rfl 2 (by decide) k4 (fun _ h9 => h9) rfl dX0_put_30 ?_
      refine k_iast (w := (fun z => wHo cI a z)) hx hb hK hP hD hS 5 0 hf rfl rfl (fun _ => rfl) dX0_put_33 (fun z4 H locs hP hS hf => ?_)
      refine lv_iconst (v := (1 : Int32)) hx hb dX0_put_34 (by decide) ?_
      exact W_zret (fun z => wHo cI a z) hx hb hr hlk hP hS hAe hf dX0_put_35
    · refine lv_iconst (v := (0 : Int32)) hx hb dX0_put_15 (by decide) ?_
      exact W_zret (fun z => wHo cI a z) hx hb hr hlk hP hS hAe hf dX0_put_16
def fX0_weighs (N : Nat) (σ : St) (p1 : Int32) (p2 : Int32) : Option Int32 :=
    bo (fX0_has N σ p1) (fun v1 =>
    if v1 = 0 then some (0 : Int32)
    else lt_ (((σ 0 2) + p2) : Int32) (fun v2 =>
    bo (rdI σ 3 8 p1) (fun v3 =>
    lt_ ((v3 + (1 : Int32)) : Int32) (fun v4 =>
    bo (rdI σ 5 8 p1) (fun v5 =>
    lt_ (minI ((v2 - v5) / (2 : Int32)) (20 : Int32)) (fun v6 =>
    lt_ ((v4 + v6) : Int32) (fun v7 =>
    bo (rdI σ 2 8 p1) (fun v8 =>
    if v8 = (1 : Int32) then some ((2 : Int32) * v4)
    else if v8 = (2 : Int32) then some v7
    else if v8 = (3 : Int32) then if (5 : Int32) ≤ (v2 - v2 / (10 : Int32) * (10 : Int32)) then some ((3 : Int32) * v4)
    else some v4
    else if v8 = (4 : Int32) then some (((2 : Int32) * v4) + (3 : Int32))
    else if v8 = (5 : Int32) then lt_ (maxI ((30 : Int32) - v7) (0 : Int32)) (fun v13 =>
    some v13)
    else some v4))))))))
abbrev rmX0_weighs : Room := { frames := 1, cells := 0, slots := 0, locals := 24 }
theorem qX0_weighs : yX0_weighs.cls = RX0 ∧ yX0_weighs.cls ≠ "java/lang/invoke/MethodHandle" ∧ yX0_weighs.cls ≠ "java/lang/invoke/VarHandle" ∧ (parseMethodDescriptor yX0_weighs.desc).map (fun d => d.parameters.length) = some 2 := by decide +kernel
set_option maxHeartbeats 4000000 in
set_option maxRecDepth 100000 in
theorem mX0_weighs (l : Launch) (D : va_G) (cI cJ : ClassId) (a : Nat → Nat) (sz N : Nat) (σ : St) (p1 : Int32) (p2 : Int32) (r : Int32) (hf : fX0_weighs N σ p1 p2 = some r) : Met l yX0_weighs wsX0_weighs rmX0_weighs (RPre ([.ref (a 0), .int p1, .int p2] : List Value) sz D (tyIJ cI cJ) (wHo cI a σ)) (RQi sz r) 0 0 (fr0 sz) := by
  refine R_start (cc := cX0_weighs) (maxL := 6) (ret := (some .int)) (by decide) rfl (Nat.le_of_ble_eq_true rfl) (fun p e s m below meth c ls hx hb hr hml hown hts hlk hP hK hS hA hsz hl => ?_)
  have hown : s.vm.findClass RX0 = some m.cls := hown
  have hl : lv_has ls 6 [(0, .ref (a 0)), (1, .int p1), (2, .int p2)] := hl
  have k1 := hts (Cond.fieldLink RX0 19 "HoistsAreShared$Hoist" "day" "I") (List.mem_of_getElem? (i := 1) rfl)
  have inX0 : ∀ w ∈ u_ws RX0 TX0 9, w ∈ wsX0_weighs := fun _ h => List.mem_cons_of_mem _ (List.mem_append_right _ h)
  have k3 := hts (Cond.fieldLink RX0 32 "HoistsAreShared$Hoist" "figures" "[I") (List.mem_of_getElem? (i := 2) rfl)
  have k4 := hts (Cond.fieldLink RX0 38 "HoistsAreShared$Hoist" "sinces" "[I") (List.mem_of_getElem? (i := 3) rfl)
  have k5 := hts (Cond.methodLink RX0 73 Lib.Math.min.name) (List.mem_of_getElem? (i := 4) rfl)
  have k6 := hts (Cond.static Lib.Math.min.name) (List.mem_of_getElem? (i := 5) rfl)
  have k7 := hts (Cond.initialized "java/lang/Math") (List.mem_of_getElem? (i := 6) rfl)
  have k8 := hts (Cond.code Lib.Math.min.name Lib.Math.min.code 2 (some .int)) (List.mem_of_getElem? (i := 7) rfl)
  have k9 := hts (Cond.fieldLink RX0 29 "HoistsAreShared$Hoist" "kinds" "[I") (List.mem_of_getElem? (i := 8) rfl)
  have k10 := hts (Cond.methodLink RX0 78 Lib.Math.max.name) (List.mem_of_getElem? (i := 9) rfl)
  have k11 := hts (Cond.static Lib.Math.max.name) (List.mem_of_getElem? (i := 10) rfl)
  have k12 := hts (Cond.code Lib.Math.max.name Lib.Math.max.code 2 (some .int)) (List.mem_of_getElem? (i := 11) rfl)
  unfold fX0_weighs at hf
  refine lv_aload_n hx hb dX0_weighs_0 rfl (lv_at hl 0 rfl) ?_
  refine lv_iload_n hx hb dX0_weighs_1 rfl (lv_at hl 1 rfl) ?_
  refine r_callV (As := [.int p1]) (rest := []) ⟨hx, hb, hml, hown, hts⟩ hf (fun v h => mX0_has l D cI cJ a s.heap.size N σ p1 v h) (cwV 1 hts gX0_weighs_X0_has rfl rfl rfl qX0_has ⟨Nat.le_of_ble_eq_true rfl, Nat.le_of_ble_eq_true rfl⟩) hK hP hS hA [0, 1, 2, 3, 4, 5] rfl 0 rfl rfl rfl rfl hl.1 rfl (Nat.le_of_ble_eq_true rfl) dX0_weighs_2 ⟨Nat.le_refl _, Nat.le_refl _⟩ (fun v1 H locs hP hS hf => ?_)
  refine k_if_ne (tgt := 10) hx hb dX0_weighs_5 (by decide) hf (fun hf => ?_) (fun hf => ?_)
  · refine lv_aload_n hx hb dX0_weighs_10 rfl (lv_at hl 0 rfl) ?_
    refine va_get (D := D) (ci := 0) (v := .int (σ 0 2)) (C := RX0) (T := TX0) (N := 9) hx hb hts inX0 hown hK hP 0 rfl rfl 2 (by decide) k1 (fun _ h9 => h9) rfl dX0_weighs_11 ?_
    refine lv_iload_n hx hb dX0_weighs_14 rfl (lv_at hl 2 rfl) ?_
    refine lv_iadd hx hb dX0_weighs_15 ?_
    refine k_let hf (fun v2 hf => ?_)
    refine lv_istore_n (lv' := [(3, .int v2), (0, .ref (a 0)), (1, .int p1), (2, .int p2)]) hx hb dX0_weighs_16 rfl hl (by decide) rfl (fun ls hl => ?_)
    refine lv_aload_n hx hb dX0_weighs_17 rfl (lv_at hl 1 rfl) ?_
    refine va_get (D := D) (ci := 0) (v := .ref (a 3)) (C := RX0) (T := TX0) (N := 9) hx hb hts inX0 hown hK hP 0 rfl rfl 6 (by decide) k3 (fun _ h9 => h9) rfl dX0_weighs_18 ?_
    refine lv_iload_n hx hb dX0_weighs_21 rfl (lv_at hl 2 rfl) ?_
    refine k_iald hx hb hK hP 3 0 hf rfl rfl dX0_weighs_22 (fun v3 hf => ?_)
    refine lv_iconst (v := (1 : Int32)) hx hb dX0_weighs_23 (by decide) ?_
    refine lv_iadd hx hb dX0_weighs_24 ?_
    refine k_let hf (fun v4 hf => ?_)
    refine lv_istore (lv' := [(4, .int v4), (3, .int v2), (0, .ref (a 0)), (1, .int p1), (2, .int p2)]) hx hb dX0_weighs_25 hl (by decide) rfl (fun ls hl => ?_)
    refine lv_iload hx hb dX0_weighs_27 (lv_at hl 0 rfl) ?_
    refine lv_iload_n hx hb dX0_weighs_29 rfl (lv_at hl 1 rfl) ?_
    refine lv_aload_n hx hb dX0_weighs_30 rfl (lv_at hl 2 rfl) ?_
    refine va_get (D := D) (ci := 0) (v := .ref (a 5)) (C := RX0) (T := TX0) (N := 9) hx hb hts inX0 hown hK hP 0 rfl rfl 8 (by decide) k4 (fun _ h9 => h9) rfl dX0_weighs_31 ?_
    refine lv_iload_n hx hb dX0_weighs_34 rfl (lv_at hl 3 rfl) ?_
    refine k_iald hx hb hK hP 5 0 hf rfl rfl dX0_weighs_35 (fun v5 hf => ?_)
    refine lv_isub hx hb dX0_weighs_36 ?_
    refine lv_iconst (v := (2 : Int32)) hx hb dX0_weighs_37 (by decide) ?_
    refine lv_idiv hx hb dX0_weighs_38 (by decide) ?_
    refine lv_bipush (v := (20 : Int32)) hx hb dX0_weighs_39 (by decide) ?_
    refine k_mmin hx hb (hml.trans hl.1.symm) hown k5 k6 k7 k8 (Nat.le_of_ble_eq_true rfl) (Nat.le_of_ble_eq_true rfl) (Nat.zero_le _) (Nat.zero_le _) dX0_weighs_41 hf (fun v6 hf => ?_)
    refine lv_iadd hx hb dX0_weighs_44 ?_
    refine k_let hf (fun v7 hf => ?_)
    refine lv_istore (lv' := [(5, .int v7), (4, .int v4), (3, .int v2), (0, .ref (a 0)), (1, .int p1), (2, .int p2)]) hx hb dX0_weighs_45 hl (by decide) rfl (fun ls hl => ?_)
    refine lv_aload_n hx hb dX0_weighs_47 rfl (lv_at hl 3 rfl) ?_
    refine va_get (D := D) (ci := 0) (v := .ref (a 2)) (C := RX0) (T := TX0) (N := 9) hx hb hts inX0 hown hK hP 0 rfl rfl 5 (by decide) k9 (fun _ h9 => h9) rfl dX0_weighs_48 ?_
    refine lv_iload_n hx hb dX0_weighs_51 rfl (lv_at hl 4 rfl) ?_
    refine k_iald hx hb hK hP 2 0 hf rfl rfl dX0_weighs_52 (fun v8 hf => ?_)
    refine sw_if hf (fun c9 hf => ?_) (fun c9 hf => ?_)
    · refine lv_tableIn (off := 35) (tgt := 88) hx hb dX0_weighs_53 (by rw [c9]; decide) (by rw [c9]; decide) (by rw [c9]; decide) (by decide) ?_
      refine lv_iconst (v := (2 : Int32)) hx hb dX0_weighs_88 (by decide) ?_
      refine lv_iload hx hb dX0_weighs_89 (lv_at hl 1 rfl) ?_
      refine lv_imul hx hb dX0_weighs_91 ?_
      exact R_iret hx hb hr hlk hS hsz hf dX0_weighs_92
    · have c9 := i32_ne c9 (n := 1) (by decide)
      refine sw_if hf (fun c10 hf => ?_) (fun c10 hf => ?_)
      · refine lv_tableIn (off := 40) (tgt := 93) hx hb dX0_weighs_53 (by rw [c10]; decide) (by rw [c10]; decide) (by rw [c10]; decide) (by decide) ?_
        refine lv_iload hx hb dX0_weighs_93 (lv_at hl 0 rfl) ?_
        exact R_iret hx hb hr hlk hS hsz hf dX0_weighs_95
      · have c10 := i32_ne c10 (n := 2) (by decide)
        refine sw_if hf (fun c11 hf => ?_) (fun c11 hf => ?_)
        · refine lv_tableIn (off := 43) (tgt := 96) hx hb dX0_weighs_53 (by rw [c11]; decide) (by rw [c11]; decide) (by rw [c11]; decide) (by decide) ?_
          refine lv_iload_n hx hb dX0_weighs_96 rfl (lv_at hl 2 rfl) ?_
          refine lv_bipush (v := (10 : Int32)) hx hb dX0_weighs_97 (by decide) ?_
          refine lv_irem hx hb dX0_weighs_99 (by decide) ?_
          refine lv_iconst (v := (5 : Int32)) hx hb dX0_weighs_100 (by decide) ?_
          refine k_icmp_ge (tgt := 109) hx hb dX0_weighs_101 (by decide) hf (fun hf => ?_) (fun hf => ?_)
          · refine lv_iconst (v := (3 : Int32)) hx hb dX0_weighs_109 (by decide) ?_
            refine lv_iload hx hb dX0_weighs_110 (lv_at hl 1 rfl) ?_
            refine lv_imul hx hb dX0_weighs_112 ?_
            exact R_iret hx hb hr hlk hS hsz hf dX0_weighs_113
          · refine lv_iload hx hb dX0_weighs_104 (lv_at hl 1 rfl) ?_
            refine lv_goto (tgt := 113) hx hb dX0_weighs_106 (by decide) ?_
            exact R_iret hx hb hr hlk hS hsz hf dX0_weighs_113
        · have c11 := i32_ne c11 (n := 3) (by decide)
          refine sw_if hf (fun c12 hf => ?_) (fun c12 hf => ?_)
          · refine lv_tableIn (off := 61) (tgt := 114) hx hb dX0_weighs_53 (by rw [c12]; decide) (by rw [c12]; decide) (by rw [c12]; decide) (by decide) ?_
            refine lv_iconst (v := (2 : Int32)) hx hb dX0_weighs_114 (by decide) ?_
            refine lv_iload hx hb dX0_weighs_115 (lv_at hl 1 rfl) ?_
            refine lv_imul hx hb dX0_weighs_117 ?_
            refine lv_iconst (v := (3 : Int32)) hx hb dX0_weighs_118 (by decide) ?_
            refine lv_iadd hx hb dX0_weighs_119 ?_
            exact R_iret hx hb hr hlk hS hsz hf dX0_weighs_120
          · have c12 := i32_ne c12 (n := 4) (by decide)
            refine sw_if hf (fun c14 hf => ?_) (fun c14 hf => ?_)
            · refine lv_tableIn (off := 68) (tgt := 121) hx hb dX0_weighs_53 (by rw [c14]; decide) (by rw [c14]; decide) (by rw [c14]; decide) (by decide) ?_
              refine lv_bipush (v := (30 : Int32)) hx hb dX0_weighs_121 (by decide) ?_
              refine lv_iload hx hb dX0_weighs_123 (lv_at hl 0 rfl) ?_
              refine lv_isub hx hb dX0_weighs_125 ?_
              refine lv_iconst (v := (0 : Int32)) hx hb dX0_weighs_126 (by decide) ?_
              refine k_mmax hx hb (hml.trans hl.1.symm) hown k10 k11 k7 k12 (Nat.le_of_ble_eq_true rfl) (Nat.le_of_ble_eq_true rfl) (Nat.zero_le _) (Nat.zero_le _) dX0_weighs_127 hf (fun v13 hf => ?_)
              exact R_iret hx hb hr hlk hS hsz hf dX0_weighs_130
            · have c14 := i32_ne c14 (n := 5) (by decide)
              refine lv_tableOut (tgt := 131) hx hb dX0_weighs_53 (by omega) (by decide) ?_
              refine lv_iload hx hb dX0_weighs_131 (lv_at hl 1 rfl) ?_
              exact R_iret hx hb hr hlk hS hsz hf dX0_weighs_133
  · refine lv_iconst (v := (0 : Int32)) hx hb dX0_weighs_8 (by decide) ?_
    exact R_iret hx hb hr hlk hS hsz hf dX0_weighs_9
def fX0_speedBy (N : Nat) (p1 : Int32) : Option Int32 :=
    lt_ (absI p1) (fun v1 =>
    lt_ (minI (v1 / (4 : Int32)) (3 : Int32)) (fun v2 =>
    some v2))
abbrev rmX0_speedBy : Room := { frames := 1, cells := 0, slots := 0, locals := 24 }
theorem qX0_speedBy : yX0_speedBy.cls ≠ "java/lang/invoke/MethodHandle" ∧ yX0_speedBy.cls ≠ "java/lang/invoke/VarHandle" ∧ (parseMethodDescriptor yX0_speedBy.desc).map (fun d => d.parameters.length) = some 1 := by decide +kernel
set_option maxHeartbeats 4000000 in
set_option maxRecDepth 100000 in
theorem mX0_speedBy (l : Launch) (D : va_G) (cI cJ : ClassId) (sz N : Nat) (p1 : Int32) (r : Int32) (hf : fX0_speedBy N p1 = some r) : Met l yX0_speedBy wsX0_speedBy rmX0_speedBy (RPre ([.int p1] : List Value) sz D (tyIJ cI cJ) (wNo)) (RQi sz r) 0 0 (fr0 sz) := by
  refine R_start (cc := cX0_speedBy) (maxL := 1) (ret := (some .int)) (by decide) rfl (Nat.le_of_ble_eq_true rfl) (fun p e s m below meth c ls hx hb hr hml hown hts hlk hP hK hS hA hsz hl => ?_)
  have hown : s.vm.findClass RX0 = some m.cls := hown
  have hl : lv_has ls 1 [(0, .int p1)] := hl
  have k1 := hts (Cond.methodLink RX0 90 Lib.Math.abs.name) (List.mem_of_getElem? (i := 1) rfl)
  have k2 := hts (Cond.static Lib.Math.abs.name) (List.mem_of_getElem? (i := 2) rfl)
  have k3 := hts (Cond.initialized "java/lang/Math") (List.mem_of_getElem? (i := 3) rfl)
  have k4 := hts (Cond.code Lib.Math.abs.name Lib.Math.abs.code 1 (some .int)) (List.mem_of_getElem? (i := 4) rfl)
  have k5 := hts (Cond.methodLink RX0 73 Lib.Math.min.name) (List.mem_of_getElem? (i := 5) rfl)
  have k6 := hts (Cond.static Lib.Math.min.name) (List.mem_of_getElem? (i := 6) rfl)
  have k7 := hts (Cond.code Lib.Math.min.name Lib.Math.min.code 2 (some .int)) (List.mem_of_getElem? (i := 7) rfl)
  unfold fX0_speedBy at hf
  refine lv_iload_n hx hb dX0_speedBy_0 rfl (lv_at hl 0 rfl) ?_
  refine k_mabs hx hb (hml.trans hl.1.symm) hown k1 k2 k3 k4 (Nat.le_of_ble_eq_true rfl) (Nat.le_of_ble_eq_true rfl) (Nat.zero_le _) (Nat.zero_le _) dX0_speedBy_1 hf (fun v1 hf => ?_)
  refine lv_iconst (v := (4 : Int32)) hx hb dX0_speedBy_4 (by decide) ?_
  refine lv_idiv hx hb dX0_speedBy_5 (by decide) ?_
  refine lv_iconst (v := (3 : Int32)) hx hb dX0_speedBy_6 (by decide) ?_
  refine k_mmin hx hb (hml.trans hl.1.symm) hown k5 k6 k3 k7 (Nat.le_of_ble_eq_true rfl) (Nat.le_of_ble_eq_true rfl) (Nat.zero_le _) (Nat.zero_le _) dX0_speedBy_7 hf (fun v2 hf => ?_)
  exact R_iret hx hb hr hlk hS hsz hf dX0_speedBy_10
def fX0_moved_L19 (N : Nat)  (y0 : Int32) : Option Int32 :=
    lt_ (minI (20 : Int32) y0) (fun v2 =>
    lt_ (maxI (0 : Int32) v2) (fun v3 =>
    some v3))
def fX0_moved (N : Nat) (p1 : Int32) (p2 : Int32) : Option Int32 :=
    if p2 ≤ 0 then bo (fX0_speedBy N p2) (fun v1 =>
    fX0_moved_L19 N  (p1 + v1))
    else bo (fX0_speedBy N p2) (fun v4 =>
    fX0_moved_L19 N  (p1 - v4))
abbrev rmX0_moved : Room := { frames := 2, cells := 0, slots := 0, locals := 44 }
theorem qX0_moved : yX0_moved.cls ≠ "java/lang/invoke/MethodHandle" ∧ yX0_moved.cls ≠ "java/lang/invoke/VarHandle" ∧ (parseMethodDescriptor yX0_moved.desc).map (fun d => d.parameters.length) = some 2 := by decide +kernel
set_option maxHeartbeats 4000000 in
set_option maxRecDepth 100000 in
theorem mX0_moved (l : Launch) (D : va_G) (cI cJ : ClassId) (sz N : Nat) (p1 : Int32) (p2 : Int32) (r : Int32) (hf : fX0_moved N p1 p2 = some r) : Met l yX0_moved wsX0_moved rmX0_moved (RPre ([.int p1, .int p2] : List Value) sz D (tyIJ cI cJ) (wNo)) (RQi sz r) 0 0 (fr0 sz) := by
  refine R_start (cc := cX0_moved) (maxL := 3) (ret := (some .int)) (by decide) rfl (Nat.le_of_ble_eq_true rfl) (fun p e s m below meth c ls hx hb hr hml hown hts hlk hP hK hS hA hsz hl => ?_)
  have hown : s.vm.findClass RX0 = some m.cls := hown
  have hl : lv_has ls 3 [(0, .int p1), (1, .int p2)] := hl
  have k1 := hts (Cond.methodLink RX0 73 Lib.Math.min.name) (List.mem_of_getElem? (i := 1) rfl)
  have k2 := hts (Cond.static Lib.Math.min.name) (List.mem_of_getElem? (i := 2) rfl)
  have k3 := hts (Cond.initialized "java/lang/Math") (List.mem_of_getElem? (i := 3) rfl)
  have k4 := hts (Cond.code Lib.Math.min.name Lib.Math.min.code 2 (some .int)) (List.mem_of_getElem? (i := 4) rfl)
  have k5 := hts (Cond.methodLink RX0 78 Lib.Math.max.name) (List.mem_of_getElem? (i := 5) rfl)
  have k6 := hts (Cond.static Lib.Math.max.name) (List.mem_of_getElem? (i := 6) rfl)
  have k7 := hts (Cond.code Lib.Math.max.name Lib.Math.max.code 2 (some .int)) (List.mem_of_getElem? (i := 7) rfl)
  have b19 : ∀  (y0 : Int32) (H : Heap) (locs : List Loc) (ls : Array Slot), va_P D vwCl (wNo) H → va_S (fr0 s.heap.size) s.heap H locs → lv_has ls 3 [] → fX0_moved_L19 N y0 = some r → W p l e rmX0_moved s m ([.int p1, .int p2] : List Value).toArray below meth c H locs 0 0 (MQ below (RQi sz r) ([.int p1, .int p2] : List Value).toArray s 0 0 (fr0 sz)) (F0 m 19 ls [.int y0]) := by
    intro  y0 H locs ls hP hS hl hf
    unfold fX0_moved_L19 at hf
    refine lv_istore_n (lv' := [(2, .int y0)]) hx hb dX0_moved_19 rfl hl (by decide) rfl (fun ls hl => ?_)
    refine lv_iconst (v := (0 : Int32)) hx hb dX0_moved_20 (by decide) ?_
    refine lv_bipush (v := (20 : Int32)) hx hb dX0_moved_21 (by decide) ?_
    refine lv_iload_n hx hb dX0_moved_23 rfl (lv_at hl 0 rfl) ?_
    refine k_mmin hx hb (hml.trans hl.1.symm) hown k1 k2 k3 k4 (Nat.le_of_ble_eq_true rfl) (Nat.le_of_ble_eq_true rfl) (Nat.zero_le _) (Nat.zero_le _) dX0_moved_24 hf (fun v2 hf => ?_)
    refine k_mmax hx hb (hml.trans hl.1.symm) hown k5 k6 k3 k7 (Nat.le_of_ble_eq_true rfl) (Nat.le_of_ble_eq_true rfl) (Nat.zero_le _) (Nat.zero_le _) dX0_moved_27 hf (fun v3 hf => ?_)
    exact R_iret hx hb hr hlk hS hsz hf dX0_moved_30
  unfold fX0_moved at hf
  refine lv_iload_n hx hb dX0_moved_0 rfl (lv_at hl 1 rfl) ?_
  refine k_if_le (tgt := 13) hx hb dX0_moved_1 (by decide) hf (fun hf => ?_) (fun hf => ?_)
  · refine lv_iload_n hx hb dX0_moved_13 rfl (lv_at hl 0 rfl) ?_
    refine lv_iload_n hx hb dX0_moved_14 rfl (lv_at hl 1 rfl) ?_
    refine r_callS (As := [.int p2]) (rest := [.int p1]) ⟨hx, hb, hml, hown, hts⟩ hf (fun v h => mX0_speedBy l D cI cJ s.heap.size N p2 v h) (va_cwS 1 hts gX0_moved_X0_speedBy rfl rfl rfl qX0_speedBy ⟨Nat.le_of_ble_eq_true rfl, Nat.le_of_ble_eq_true rfl⟩) hK hP hS hA [] rfl rfl hl.1 rfl (Nat.le_of_ble_eq_true rfl) dX0_moved_15 ⟨Nat.le_refl _, Nat.le_refl _⟩ (fun v1 H locs hP hS hf => ?_)
    refine lv_iadd hx hb dX0_moved_18 ?_
    exact b19  (p1 + v1) H locs ls hP hS (lv_sub hl [] rfl) hf
  · refine lv_iload_n hx hb dX0_moved_4 rfl (lv_at hl 0 rfl) ?_
    refine lv_iload_n hx hb dX0_moved_5 rfl (lv_at hl 1 rfl) ?_
    refine r_callS (As := [.int p2]) (rest := [.int p1]) ⟨hx, hb, hml, hown, hts⟩ hf (fun v h => mX0_speedBy l D cI cJ s.heap.size N p2 v h) (va_cwS 1 hts gX0_moved_X0_speedBy rfl rfl rfl qX0_speedBy ⟨Nat.le_of_ble_eq_true rfl, Nat.le_of_ble_eq_true rfl⟩) hK hP hS hA [] rfl rfl hl.1 rfl (Nat.le_of_ble_eq_true rfl) dX0_moved_6 ⟨Nat.le_refl _, Nat.le_refl _⟩ (fun v4 H locs hP hS hf => ?_)
    refine lv_isub hx hb dX0_moved_9 ?_
    refine lv_goto (tgt := 19) hx hb dX0_moved_10 (by decide) ?_
    exact b19  (p1 - v4) H locs ls hP hS (lv_sub hl [] rfl) hf
def fX0_pullAfter_L70 (N : Nat) (σ : St) (k16 : Int32 → Int32 → Int32 → Option Int32) (x1 : Int32) (x2 : Int32) (x3 : Int32) : Option Int32 :=
    lt_ (x3 + (1 : Int32) : Int32) (fun v6 =>
    k16 x1 x2 v6)
def fX0_pullAfter_L16 (N : Nat) (σ : St)  : Nat → Int32 → Int32 → Int32 → Option Int32
  | 0, _, _, _ => none
  | n + 1, x1, x2, x3 =>
    if (σ 0 3) ≤ x3 then some x2
    else if (8 : Int32) ≤ x3 then some x2
    else bo (rdI σ 4 8 x3) (fun v4 =>
    if v4 = 0 then bo (fX0_weighs N σ x3 x1) (fun v9 =>
    lt_ ((x2 + v9) : Int32) (fun v10 =>
    fX0_pullAfter_L70 N σ (fX0_pullAfter_L16 N σ n) x1 v10 x3))
    else bo (rdI σ 4 8 x3) (fun v5 =>
    if v5 = (1 : Int32) then bo (fX0_weighs N σ x3 x1) (fun v7 =>
    lt_ ((x2 - v7) : Int32) (fun v8 =>
    fX0_pullAfter_L70 N σ (fX0_pullAfter_L16 N σ n) x1 v8 x3))
    else fX0_pullAfter_L70 N σ (fX0_pullAfter_L16 N σ n) x1 x2 x3))
def fX0_pullAfter (N : Nat) (σ : St) (p1 : Int32) : Option Int32 :=
    bo (rdI σ 1 2 (0 : Int32)) (fun v1 =>
    bo (rdI σ 1 2 (1 : Int32)) (fun v2 =>
    lt_ ((v1 - v2) : Int32) (fun v3 =>
    fX0_pullAfter_L16 N σ  N p1 v3 (0 : Int32))))
abbrev rmX0_pullAfter : Room := { frames := 2, cells := 0, slots := 0, locals := 49 }
theorem qX0_pullAfter : yX0_pullAfter.cls = RX0 ∧ yX0_pullAfter.cls ≠ "java/lang/invoke/MethodHandle" ∧ yX0_pullAfter.cls ≠ "java/lang/invoke/VarHandle" ∧ (parseMethodDescriptor yX0_pullAfter.desc).map (fun d => d.parameters.length) = some 1 := by decide +kernel
set_option maxHeartbeats 4000000 in
set_option maxRecDepth 100000 in
theorem mX0_pullAfter (l : Launch) (D : va_G) (cI cJ : ClassId) (a : Nat → Nat) (sz N : Nat) (σ : St) (p1 : Int32) (r : Int32) (hf : fX0_pullAfter N σ p1 = some r) : Met l yX0_pullAfter wsX0_pullAfter rmX0_pullAfter (RPre ([.ref (a 0), .int p1] : List Value) sz D (tyIJ cI cJ) (wHo cI a σ)) (RQi sz r) 0 0 (fr0 sz) := by
  refine R_start (cc := cX0_pullAfter) (maxL := 4) (ret := (some .int)) (by decide) rfl (Nat.le_of_ble_eq_true rfl) (fun p e s m below meth c ls hx hb hr hml hown hts hlk hP hK hS hA hsz hl => ?_)
  have hown : s.vm.findClass RX0 = some m.cls := hown
  have hl : lv_has ls 4 [(0, .ref (a 0)), (1, .int p1)] := hl
  have k1 := hts (Cond.fieldLink RX0 25 "HoistsAreShared$Hoist" "ballasts" "[I") (List.mem_of_getElem? (i := 1) rfl)
  have inX0 : ∀ w ∈ u_ws RX0 TX0 9, w ∈ wsX0_pullAfter := fun _ h => List.mem_cons_of_mem _ (List.mem_append_right _ h)
  have k3 := hts (Cond.fieldLink RX0 22 "HoistsAreShared$Hoist" "things" "I") (List.mem_of_getElem? (i := 2) rfl)
  have k4 := hts (Cond.fieldLink RX0 35 "HoistsAreShared$Hoist" "places" "[I") (List.mem_of_getElem? (i := 3) rfl)
  have b70 : ∀ (k16 : Int32 → Int32 → Int32 → Option Int32) (hk16 : (∀ (x1 : Int32) (x2 : Int32) (x3 : Int32) (H : Heap) (locs : List Loc) (ls : Array Slot), va_P D vwCl (wHo cI a σ) H → va_S (fr0 s.heap.size) s.heap H locs → lv_has ls 4 [(0, .ref (a 0)), (1, .int x1), (2, .int x2), (3, .int x3)] → k16 x1 x2 x3 = some r → W p l e rmX0_pullAfter s m ([.ref (a 0), .int p1] : List Value).toArray below meth c H locs 0 0 (MQ below (RQi sz r) ([.ref (a 0), .int p1] : List Value).toArray s 0 0 (fr0 sz)) (F0 m 16 ls []))) (x1 : Int32) (x2 : Int32) (x3 : Int32) (H : Heap) (locs : List Loc) (ls : Array Slot), va_P D vwCl (wHo cI a σ) H → va_S (fr0 s.heap.size) s.heap H locs → lv_has ls 4 [(0, .ref (a 0)), (1, .int x1), (2, .int x2), (3, .int x3)] → fX0_pullAfter_L70 N σ k16 x1 x2 x3 = some r → W p l e rmX0_pullAfter s m ([.ref (a 0), .int p1] : List Value).toArray below meth c H locs 0 0 (MQ below (RQi sz r) ([.ref (a 0), .int p1] : List Value).toArray s 0 0 (fr0 sz)) (F0 m 70 ls []) := by
    intro k16 hk16 x1 x2 x3 H locs ls hP hS hl hf
    unfold fX0_pullAfter_L70 at hf
    refine k_iinc (d := (1 : Int32)) (lv' := fun v6 => [(3, .int v6), (0, .ref (a 0)), (1, .int x1), (2, .int x2)]) hx hb dX0_pullAfter_70 hl (k := 3) rfl (by decide) (by decide) (fun _ => rfl) hf (fun v6 ls hl hf => ?_)
    refine lv_goto (tgt := 16) hx hb dX0_pullAfter_73 (by decide) ?_
    exact hk16 x1 x2 v6 H locs ls hP hS (lv_sub hl [1, 2, 3, 0] rfl) hf
  have b16 : ∀  (n : Nat) (x1 : Int32) (x2 : Int32) (x3 : Int32) (H : Heap) (locs : List Loc) (ls : Array Slot), va_P D vwCl (wHo cI a σ) H → va_S (fr0 s.heap.size) s.heap H locs → lv_has ls 4 [(0, .ref (a 0)), (1, .int x1), (2, .int x2), (3, .int x3)] → fX0_pullAfter_L16 N σ n x1 x2 x3 = some r → W p l e rmX0_pullAfter s m ([.ref (a 0), .int p1] : List Value).toArray below meth c H locs 0 0 (MQ below (RQi sz r) ([.ref (a 0), .int p1] : List Value).toArray s 0 0 (fr0 sz)) (F0 m 16 ls []) := by
    intro n
    induction n with
    | zero => intro x1 x2 x3 H locs ls hP hS hl hf; cases hf
    | succ n ih =>
      intro x1 x2 x3 H locs ls hP hS hl hf
      rw [fX0_pullAfter_L16] at hf
      refine lv_iload_n hx hb dX0_pullAfter_16 rfl (lv_at hl 3 rfl) ?_
      refine lv_aload_n hx hb dX0_pullAfter_17 rfl (lv_at hl 0 rfl) ?_
      refine va_get (D := D) (ci := 0) (v := .int (σ 0 3)) (C := RX0) (T := TX0) (N := 9) hx hb hts inX0 hown hK hP 0 rfl rfl 3 (by decide) k3 (fun _ h9 => h9) rfl dX0_pullAfter_18 ?_
      refine k_icmp_ge (tgt := 76) hx hb dX0_pullAfter_21 (by decide) hf (fun hf => ?_) (fun hf => ?_)
      · refine lv_iload_n hx hb dX0_pullAfter_76 rfl (lv_at hl 2 rfl) ?_
        exact R_iret hx hb hr hlk hS hsz hf dX0_pullAfter_77
      · refine lv_iload_n hx hb dX0_pullAfter_24 rfl (lv_at hl 3 rfl) ?_
        refine lv_bipush (v := (8 : Int32)) hx hb dX0_pullAfter_25 (by decide) ?_
        refine k_icmp_ge (tgt := 76) hx hb dX0_pullAfter_27 (by decide) hf (fun hf => ?_) (fun hf => ?_)
        · refine lv_iload_n hx hb dX0_pullAfter_76 rfl (lv_at hl 2 rfl) ?_
          exact R_iret hx hb hr hlk hS hsz hf dX0_pullAfter_77
        · refine lv_aload_n hx hb dX0_pullAfter_30 rfl (lv_at hl 0 rfl) ?_
          refine va_get (D := D) (ci := 0) (v := .ref (a 4)) (C := RX0) (T := TX0) (N := 9) hx hb hts inX0 hown hK hP 0 rfl rfl 7 (by decide) k4 (fun _ h9 => h9) rfl dX0_pullAfter_31 ?_
          refine lv_iload_n hx hb dX0_pullAfter_34 rfl (lv_at hl 3 rfl) ?_
          refine k_iald hx hb hK hP 4 0 hf rfl rfl dX0_pullAfter_35 (fun v4 hf => ?_)
          refine k_if_ne (tgt := 51) hx hb dX0_pullAfter_36 (by decide) hf (fun hf => ?_) (fun hf => ?_)
          · refine lv_aload_n hx hb dX0_pullAfter_51 rfl (lv_at hl 0 rfl) ?_
            refine va_get (D := D) (ci := 0) (v := .ref (a 4)) (C := RX0) (T := TX0) (N := 9) hx hb hts inX0 hown hK hP 0 rfl rfl 7 (by decide) k4 (fun _ h9 => h9) rfl dX0_pullAfter_52 ?_
            refine lv_iload_n hx hb dX0_pullAfter_55 rfl (lv_at hl 3 rfl) ?_
            refine k_iald hx hb hK hP 4 0 hf rfl rfl dX0_pullAfter_56 (fun v5 hf => ?_)
            refine lv_iconst (v := (1 : Int32)) hx hb dX0_pullAfter_57 (by decide) ?_
            refine k_icmp_ne (tgt := 70) hx hb dX0_pullAfter_58 (by decide) hf (fun hf => ?_) (fun hf => ?_)
            · exact b70 (fX0_pullAfter_L16 N σ n) ih x1 x2 x3 H locs ls hP hS (lv_sub hl [0, 1, 2, 3] rfl) hf
            · refine lv_iload_n hx hb dX0_pullAfter_61 rfl (lv_at hl 2 rfl) ?_
              refine lv_aload_n hx hb dX0_pullAfter_62 rfl (lv_at hl 0 rfl) ?_
              refine lv_iload_n hx hb dX0_pullAfter_63 rfl (lv_at hl 3 rfl) ?_
              refine lv_iload_n hx hb dX0_pullAfter_64 rfl (lv_at hl 1 rfl) ?_
              refine r_callV (As := [.int x3, .int x1]) (rest := [.int x2]) ⟨hx, hb, hml, hown, hts⟩ hf (fun v h => mX0_weighs l D cI cJ a H.size N σ x3 x1 v h) (cwV 2 hts gX0_pullAfter_X0_weighs rfl rfl rfl qX0_weighs ⟨Nat.le_of_ble_eq_true rfl, Nat.le_of_ble_eq_true rfl⟩) hK hP hS hA [0, 1, 2, 3, 4, 5] rfl 0 rfl rfl rfl rfl hl.1 rfl (Nat.le_of_ble_eq_true rfl) dX0_pullAfter_65 ⟨Nat.le_refl _, Nat.le_refl _⟩ (fun v7 H locs hP hS hf => ?_)
              refine lv_isub hx hb dX0_pullAfter_68 ?_
              refine k_let hf (fun v8 hf => ?_)
              refine lv_istore_n (lv' := [(2, .int v8), (0, .ref (a 0)), (1, .int x1), (3, .int x3)]) hx hb dX0_pullAfter_69 rfl hl (by decide) rfl (fun ls hl => ?_)
              exact b70 (fX0_pullAfter_L16 N σ n) ih x1 v8 x3 H locs ls hP hS (lv_sub hl [1, 2, 0, 3] rfl) hf
          · refine lv_iload_n hx hb dX0_pullAfter_39 rfl (lv_at hl 2 rfl) ?_
            refine lv_aload_n hx hb dX0_pullAfter_40 rfl (lv_at hl 0 rfl) ?_
            refine lv_iload_n hx hb dX0_pullAfter_41 rfl (lv_at hl 3 rfl) ?_
            refine lv_iload_n hx hb dX0_pullAfter_42 rfl (lv_at hl 1 rfl) ?_
            refine r_callV (As := [.int x3, .int x1]) (rest := [.int x2]) ⟨hx, hb, hml, hown, hts⟩ hf (fun v h => mX0_weighs l D cI cJ a H.size N σ x3 x1 v h) (cwV 2 hts gX0_pullAfter_X0_weighs rfl rfl rfl qX0_weighs ⟨Nat.le_of_ble_eq_true rfl, Nat.le_of_ble_eq_true rfl⟩) hK hP hS hA [0, 1, 2, 3, 4, 5] rfl 0 rfl rfl rfl rfl hl.1 rfl (Nat.le_of_ble_eq_true rfl) dX0_pullAfter_43 ⟨Nat.le_refl _, Nat.le_refl _⟩ (fun v9 H locs hP hS hf => ?_)
            refine lv_iadd hx hb dX0_pullAfter_46 ?_
            refine k_let hf (fun v10 hf => ?_)
            refine lv_istore_n (lv' := [(2, .int v10), (0, .ref (a 0)), (1, .int x1), (3, .int x3)]) hx hb dX0_pullAfter_47 rfl hl (by decide) rfl (fun ls hl => ?_)
            refine lv_goto (tgt := 70) hx hb dX0_pullAfter_48 (by decide) ?_
            exact b70 (fX0_pullAfter_L16 N σ n) ih x1 v10 x3 H locs ls hP hS (lv_sub hl [1, 2, 0, 3] rfl) hf
  unfold fX0_pullAfter at hf
  refine lv_aload_n hx hb dX0_pullAfter_0 rfl (lv_at hl 0 rfl) ?_
  refine va_get (D := D) (ci := 0) (v := .ref (a 1)) (C := RX0) (T := TX0) (N := 9) hx hb hts inX0 hown hK hP 0 rfl rfl 4 (by decide) k1 (fun _ h9 => h9) rfl dX0_pullAfter_1 ?_
  refine lv_iconst (v := (0 : Int32)) hx hb dX0_pullAfter_4 (by decide) ?_
  refine k_iald hx hb hK hP 1 0 hf rfl rfl dX0_pullAfter_5 (fun v1 hf => ?_)
  refine lv_aload_n hx hb dX0_pullAfter_6 rfl (lv_at hl 0 rfl) ?_
  refine va_get (D := D) (ci := 0) (v := .ref (a 1)) (C := RX0) (T := TX0) (N := 9) hx hb hts inX0 hown hK hP 0 rfl rfl 4 (by decide) k1 (fun _ h9 => h9) rfl dX0_pullAfter_7 ?_
  refine lv_iconst (v := (1 : Int32)) hx hb dX0_pullAfter_10 (by decide) ?_
  refine k_iald hx hb hK hP 1 0 hf rfl rfl dX0_pullAfter_11 (fun v2 hf => ?_)
  refine lv_isub hx hb dX0_pullAfter_12 ?_
  refine k_let hf (fun v3 hf => ?_)
  refine lv_istore_n (lv' := [(2, .int v3), (0, .ref (a 0)), (1, .int p1)]) hx hb dX0_pullAfter_13 rfl hl (by decide) rfl (fun ls hl => ?_)
  refine lv_iconst (v := (0 : Int32)) hx hb dX0_pullAfter_14 (by decide) ?_
  refine lv_istore_n (lv' := [(3, .int (0 : Int32)), (2, .int v3), (0, .ref (a 0)), (1, .int p1)]) hx hb dX0_pullAfter_15 rfl hl (by decide) rfl (fun ls hl => ?_)
  exact b16  N p1 v3 (0 : Int32) s.heap [] ls hP hS (lv_sub hl [2, 3, 1, 0] rfl) hf
