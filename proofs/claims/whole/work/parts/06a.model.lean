def fX3_isIn (N : Nat) (p1 : Int32) (p2 : Int32) (p3 : Int32) : Option Int32 :=
    if p1 < p2 then zr (0 : Int32)
    else if p3 < p1 then zr (0 : Int32)
    else zr (1 : Int32)
abbrev rmX3_isIn : Room := { frames := 0, cells := 0, slots := 0, locals := 0 }
theorem qX3_isIn : yX3_isIn.cls ≠ "java/lang/invoke/MethodHandle" ∧ yX3_isIn.cls ≠ "java/lang/invoke/VarHandle" ∧ (parseMethodDescriptor yX3_isIn.desc).map (fun d => d.parameters.length) = some 3 := by decide +kernel
set_option maxHeartbeats 400000 in
set_option maxRecDepth 100000 in
theorem mX3_isIn (l : Launch) (D : va_G) (cI cJ : ClassId) (sz N : Nat) (p1 : Int32) (p2 : Int32) (p3 : Int32) (r : Int32) (hf : fX3_isIn N p1 p2 p3 = some r) : Met l yX3_isIn wsX3_isIn rmX3_isIn (RPre ([.int p1, .int p2, .int p3] : List Value) sz D (tyIJ cI cJ) (wNo)) (RQi sz r) 0 0 (fr0 sz) := by
  refine R_start (cc := cX3_isIn) (maxL := 3) (ret := (some .boolean)) (by decide) rfl (Nat.le_of_ble_eq_true rfl) (fun p e s m below meth c ls hx hb hr hml hown hts hlk hP hK hS hA hsz hl => ?_)
  have hown : s.vm.findClass RX3 = some m.cls := hown
  have hl : lv_has ls 3 [(0, .int p1), (1, .int p2), (2, .int p3)] := hl
  unfold fX3_isIn at hf
  refine lv_iload_n hx hb dX3_isIn_0 rfl (lv_at hl 0 rfl) ?_
  refine lv_iload_n hx hb dX3_isIn_1 rfl (lv_at hl 1 rfl) ?_
  refine k_icmp_lt (tgt := 14) hx hb dX3_isIn_2 (by decide) hf (fun hf => ?_) (fun hf => ?_)
  · refine lv_iconst (v := (0 : Int32)) hx hb dX3_isIn_14 (by decide) ?_
    exact R_zret hx hb hr hlk hS hsz hf dX3_isIn_15
  · refine lv_iload_n hx hb dX3_isIn_5 rfl (lv_at hl 0 rfl) ?_
    refine lv_iload_n hx hb dX3_isIn_6 rfl (lv_at hl 2 rfl) ?_
    refine k_icmp_gt (tgt := 14) hx hb dX3_isIn_7 (by decide) hf (fun hf => ?_) (fun hf => ?_)
    · refine lv_iconst (v := (0 : Int32)) hx hb dX3_isIn_14 (by decide) ?_
      exact R_zret hx hb hr hlk hS hsz hf dX3_isIn_15
    · refine lv_iconst (v := (1 : Int32)) hx hb dX3_isIn_10 (by decide) ?_
      refine lv_goto (tgt := 15) hx hb dX3_isIn_11 (by decide) ?_
      exact R_zret hx hb hr hlk hS hsz hf dX3_isIn_15
def fX3_least (N : Nat) (p1 : Int32) (p2 : Int32) : Option Int32 :=
    if p2 ≤ p1 then some p2
    else some p1
abbrev rmX3_least : Room := { frames := 0, cells := 0, slots := 0, locals := 0 }
theorem qX3_least : yX3_least.cls ≠ "java/lang/invoke/MethodHandle" ∧ yX3_least.cls ≠ "java/lang/invoke/VarHandle" ∧ (parseMethodDescriptor yX3_least.desc).map (fun d => d.parameters.length) = some 2 := by decide +kernel
set_option maxHeartbeats 400000 in
set_option maxRecDepth 100000 in
theorem mX3_least (l : Launch) (D : va_G) (cI cJ : ClassId) (sz N : Nat) (p1 : Int32) (p2 : Int32) (r : Int32) (hf : fX3_least N p1 p2 = some r) : Met l yX3_least wsX3_least rmX3_least (RPre ([.int p1, .int p2] : List Value) sz D (tyIJ cI cJ) (wNo)) (RQi sz r) 0 0 (fr0 sz) := by
  refine R_start (cc := cX3_least) (maxL := 2) (ret := (some .int)) (by decide) rfl (Nat.le_of_ble_eq_true rfl) (fun p e s m below meth c ls hx hb hr hml hown hts hlk hP hK hS hA hsz hl => ?_)
  have hown : s.vm.findClass RX3 = some m.cls := hown
  have hl : lv_has ls 2 [(0, .int p1), (1, .int p2)] := hl
  unfold fX3_least at hf
  refine lv_iload_n hx hb dX3_least_0 rfl (lv_at hl 0 rfl) ?_
  refine lv_iload_n hx hb dX3_least_1 rfl (lv_at hl 1 rfl) ?_
  refine k_icmp_ge (tgt := 9) hx hb dX3_least_2 (by decide) hf (fun hf => ?_) (fun hf => ?_)
  · refine lv_iload_n hx hb dX3_least_9 rfl (lv_at hl 1 rfl) ?_
    exact R_iret hx hb hr hlk hS hsz hf dX3_least_10
  · refine lv_iload_n hx hb dX3_least_5 rfl (lv_at hl 0 rfl) ?_
    refine lv_goto (tgt := 10) hx hb dX3_least_6 (by decide) ?_
    exact R_iret hx hb hr hlk hS hsz hf dX3_least_10
def fX3_sized (N : Nat) (p1 : Int32) : Option Int32 :=
    if 0 ≤ p1 then some p1
    else some (-p1)
abbrev rmX3_sized : Room := { frames := 0, cells := 0, slots := 0, locals := 0 }
theorem qX3_sized : yX3_sized.cls ≠ "java/lang/invoke/MethodHandle" ∧ yX3_sized.cls ≠ "java/lang/invoke/VarHandle" ∧ (parseMethodDescriptor yX3_sized.desc).map (fun d => d.parameters.length) = some 1 := by decide +kernel
set_option maxHeartbeats 400000 in
set_option maxRecDepth 100000 in
theorem mX3_sized (l : Launch) (D : va_G) (cI cJ : ClassId) (sz N : Nat) (p1 : Int32) (r : Int32) (hf : fX3_sized N p1 = some r) : Met l yX3_sized wsX3_sized rmX3_sized (RPre ([.int p1] : List Value) sz D (tyIJ cI cJ) (wNo)) (RQi sz r) 0 0 (fr0 sz) := by
  refine R_start (cc := cX3_sized) (maxL := 1) (ret := (some .int)) (by decide) rfl (Nat.le_of_ble_eq_true rfl) (fun p e s m below meth c ls hx hb hr hml hown hts hlk hP hK hS hA hsz hl => ?_)
  have hown : s.vm.findClass RX3 = some m.cls := hown
  have hl : lv_has ls 1 [(0, .int p1)] := hl
  unfold fX3_sized at hf
  refine lv_iload_n hx hb dX3_sized_0 rfl (lv_at hl 0 rfl) ?_
  refine k_if_ge (tgt := 9) hx hb dX3_sized_1 (by decide) hf (fun hf => ?_) (fun hf => ?_)
  · refine lv_iload_n hx hb dX3_sized_9 rfl (lv_at hl 0 rfl) ?_
    exact R_iret hx hb hr hlk hS hsz hf dX3_sized_10
  · refine lv_iload_n hx hb dX3_sized_4 rfl (lv_at hl 0 rfl) ?_
    refine lv_ineg hx hb dX3_sized_5 ?_
    refine lv_goto (tgt := 10) hx hb dX3_sized_6 (by decide) ?_
    exact R_iret hx hb hr hlk hS hsz hf dX3_sized_10
def fX3_copies_L2 (N : Nat)  : Nat → St → Int32 → Option St
  | 0, _, _ => none
  | n + 1, z, x2 =>
    if (38 : Int32) ≤ x2 then some z
    else bo (rdI z 0 38 x2) (fun v1 =>
    bo (wrI z 1 38 x2 v1) (fun z2 =>
    lt_ (x2 + (1 : Int32) : Int32) (fun v3 =>
    (fX3_copies_L2 N n) z2 v3)))
def fX3_copies (N : Nat) (σ : St)  : Option St :=
    fX3_copies_L2 N  N σ (0 : Int32)
abbrev rmX3_copies : Room := { frames := 0, cells := 0, slots := 0, locals := 0 }
theorem qX3_copies : yX3_copies.cls ≠ "java/lang/invoke/MethodHandle" ∧ yX3_copies.cls ≠ "java/lang/invoke/VarHandle" ∧ (parseMethodDescriptor yX3_copies.desc).map (fun d => d.parameters.length) = some 2 := by decide +kernel
set_option maxHeartbeats 400000 in
set_option maxRecDepth 100000 in
theorem mX3_copies (l : Launch) (D : va_G) (cI cJ : ClassId) (a : Nat → Nat) (sz N : Nat) (σ : St)  (r : St) (hf : fX3_copies N σ = some r) : Met l yX3_copies wsX3_copies rmX3_copies (WPre ([.ref (a 0), .ref (a 1)] : List Value) sz D (tyIJ cI cJ) (wAr2 cI a σ)) (WQv sz D (wAr2 cI a σ) (wAr2 cI a r)) 0 0 (va_A (wAr2 cI a σ) sz) := by
  refine W_start (cc := cX3_copies) (maxL := 3) (ret := none) (by decide) rfl (Nat.le_of_ble_eq_true rfl) (fun p e s m below meth c ls A hx hb hr hml hown hts hlk hP hK hS hA hD0 hAe hl => ?_)
  have hD : ∀ z, va_D A ((fun z => wAr2 cI a z) z) := fun z => hD0.ad rfl
  have hown : s.vm.findClass RX3 = some m.cls := hown
  have hl : lv_has ls 3 [(0, .ref (a 0)), (1, .ref (a 1))] := hl
  have b2 : ∀  (n : Nat) (z : St) (x2 : Int32) (H : Heap) (locs : List Loc) (ls : Array Slot), va_P D vwCl (wAr2 cI a z) H → va_S A s.heap H locs → lv_has ls 3 [(0, .ref (a 0)), (1, .ref (a 1)), (2, .int x2)] → fX3_copies_L2 N n z x2 = some r → W p l e rmX3_copies s m ([.ref (a 0), .ref (a 1)] : List Value).toArray below meth c H locs 0 0 (MQ below (WQv sz D (wAr2 cI a σ) (wAr2 cI a r)) ([.ref (a 0), .ref (a 1)] : List Value).toArray s 0 0 A) (F0 m 2 ls []) := by
    intro n
    induction n with
    | zero => intro z x2 H locs ls hP hS hl hf; cases hf
    | succ n ih =>
      intro z x2 H locs ls hP hS hl hf
      rw [fX3_copies_L2] at hf
      refine lv_iload_n hx hb dX3_copies_2 rfl (lv_at hl 2 rfl) ?_
      refine lv_bipush (v := (38 : Int32)) hx hb dX3_copies_3 (by decide) ?_
      refine k_icmp_ge (tgt := 20) hx hb dX3_copies_5 (by decide) hf (fun hf => ?_) (fun hf => ?_)
      · exact W_vret (fun z => wAr2 cI a z) hx hb hr hlk hP hS hAe hf dX3_copies_20
      · refine lv_aload_n hx hb dX3_copies_8 rfl (lv_at hl 1 rfl) ?_
        refine lv_iload_n hx hb dX3_copies_9 rfl (lv_at hl 2 rfl) ?_
        refine lv_aload_n hx hb dX3_copies_10 rfl (lv_at hl 0 rfl) ?_
        refine lv_iload_n hx hb dX3_copies_11 rfl (lv_at hl 2 rfl) ?_
        refine k_iald hx hb hK hP 0 0 hf rfl rfl dX3_copies_12 (fun v1 hf => ?_)
        refine k_iast (w := (fun z => wAr2 cI a z)) hx hb hK hP hD hS 1 0 hf rfl rfl (fun _ => rfl) dX3_copies_13 (fun z2 H locs hP hS hf => ?_)
        refine k_iinc (d := (1 : Int32)) (lv' := fun v3 => [(2, .int v3), (0, .ref (a 0)), (1, .ref (a 1))]) hx hb dX3_copies_14 hl (k := 2) rfl (by decide) (by decide) (fun _ => rfl) hf (fun v3 ls hl hf => ?_)
        refine lv_goto (tgt := 2) hx hb dX3_copies_17 (by decide) ?_
        exact ih z2 v3 H locs ls hP hS (lv_sub hl [1, 2, 0] rfl) hf
  unfold fX3_copies at hf
  refine lv_iconst (v := (0 : Int32)) hx hb dX3_copies_0 (by decide) ?_
  refine lv_istore_n (lv' := [(2, .int (0 : Int32)), (0, .ref (a 0)), (1, .ref (a 1))]) hx hb dX3_copies_1 rfl hl (by decide) rfl (fun ls hl => ?_)
  exact b2  N σ (0 : Int32) s.heap [] ls hP hS (lv_sub hl [1, 2, 0] rfl) hf
def fX3_no (N : Nat) (σ : St) (p1 : Int32) : Option (Int32 × St) :=
    bo (rdI σ 7 7 (-p1)) (fun v1 =>
    lt_ ((v1 + (1 : Int32)) : Int32) (fun v3 =>
    bo (wrI σ 7 7 (-p1) v3) (fun z2 =>
    some (p1, z2))))
abbrev rmX3_no : Room := { frames := 0, cells := 0, slots := 0, locals := 0 }
theorem qX3_no : yX3_no.cls = RX3 ∧ yX3_no.cls ≠ "java/lang/invoke/MethodHandle" ∧ yX3_no.cls ≠ "java/lang/invoke/VarHandle" ∧ (parseMethodDescriptor yX3_no.desc).map (fun d => d.parameters.length) = some 1 := by decide +kernel
set_option maxHeartbeats 400000 in
set_option maxRecDepth 100000 in
theorem mX3_no (l : Launch) (D : va_G) (cI cJ : ClassId) (a : Nat → Nat) (sz N : Nat) (σ : St) (p1 : Int32) (r : (Int32 × St)) (hf : fX3_no N σ p1 = some r) : Met l yX3_no wsX3_no rmX3_no (WPre ([.ref (a 0), .int p1] : List Value) sz D (tyIJ cI cJ) (wMo cI a σ)) (WQi sz D (wMo cI a σ) (wMo cI a (r.2)) r.1) 0 0 (va_A (wMo cI a σ) sz) := by
  refine W_start (cc := cX3_no) (maxL := 2) (ret := (some .int)) (by decide) rfl (Nat.le_of_ble_eq_true rfl) (fun p e s m below meth c ls A hx hb hr hml hown hts hlk hP hK hS hA hD0 hAe hl => ?_)
  have hD : ∀ z, va_D A ((fun z => wMo cI a z) z) := fun z => hD0.ad rfl
  have hown : s.vm.findClass RX3 = some m.cls := hown
  have hl : lv_has ls 2 [(0, .ref (a 0)), (1, .int p1)] := hl
  have ln1 := hts (Cond.fieldLink RX3 28 "HoistsAreSharedModel" "refused" "[I") (List.mem_of_getElem? (i := 1) rfl)
  have inX3 : ∀ w ∈ u_ws RX3 TX3 13, w ∈ wsX3_no := fun _ h => List.mem_cons_of_mem _ (List.mem_append_right _ h)
  unfold fX3_no at hf
  refine lv_aload_n hx hb dX3_no_0 rfl (lv_at hl 0 rfl) ?_
  refine va_get (D := D) (ci := 3) (v := .ref (a 7)) (C := RX3) (T := TX3) (N := 13) hx hb hts inX3 hown hK hP 0 rfl rfl 7 (by decide) ln1 (fun _ h9 => h9) rfl dX3_no_1 ?_
  refine lv_iload_n hx hb dX3_no_4 rfl (lv_at hl 1 rfl) ?_
  refine lv_ineg hx hb dX3_no_5 ?_
  refine lv_dup2_11 hx hb dX3_no_6 rfl rfl ?_
  refine k_iald hx hb hK hP 7 0 hf rfl rfl dX3_no_7 (fun v1 hf => ?_)
  refine lv_iconst (v := (1 : Int32)) hx hb dX3_no_8 (by decide) ?_
  refine lv_iadd hx hb dX3_no_9 ?_
  refine k_let hf (fun v3 hf => ?_)
  refine k_iast (w := (fun z => wMo cI a z)) hx hb hK hP hD hS 7 0 hf rfl rfl (fun _ => rfl) dX3_no_10 (fun z2 H locs hP hS hf => ?_)
  refine lv_iload_n hx hb dX3_no_11 rfl (lv_at hl 1 rfl) ?_
  exact W_iret (fun z => wMo cI a z) hx hb hr hlk hP hS hAe hf dX3_no_12
def fX3_noFar (N : Nat) (σ : St) (p1 : Int32) : Option (Int32 × St) :=
    bx (fX3_no N σ p1) (fun uq => uq) (fun v2 z1 =>
    some (((1000000000 : Int32) - v2), z1))
abbrev rmX3_noFar : Room := { frames := 1, cells := 0, slots := 0, locals := 21 }
theorem qX3_noFar : yX3_noFar.cls = RX3 ∧ yX3_noFar.cls ≠ "java/lang/invoke/MethodHandle" ∧ yX3_noFar.cls ≠ "java/lang/invoke/VarHandle" ∧ (parseMethodDescriptor yX3_noFar.desc).map (fun d => d.parameters.length) = some 1 := by decide +kernel
set_option maxHeartbeats 400000 in
set_option maxRecDepth 100000 in
theorem mX3_noFar (l : Launch) (D : va_G) (cI cJ : ClassId) (a : Nat → Nat) (sz N : Nat) (σ : St) (p1 : Int32) (r : (Int32 × St)) (hf : fX3_noFar N σ p1 = some r) : Met l yX3_noFar wsX3_noFar rmX3_noFar (WPre ([.ref (a 0), .int p1] : List Value) sz D (tyIJ cI cJ) (wMo cI a σ)) (WQi sz D (wMo cI a σ) (wMo cI a (r.2)) r.1) 0 0 (va_A (wMo cI a σ) sz) := by
  refine W_start (cc := cX3_noFar) (maxL := 2) (ret := (some .int)) (by decide) rfl (Nat.le_of_ble_eq_true rfl) (fun p e s m below meth c ls A hx hb hr hml hown hts hlk hP hK hS hA hD0 hAe hl => ?_)
  have hD : ∀ z, va_D A ((fun z => wMo cI a z) z) := fun z => hD0.ad rfl
  have hown : s.vm.findClass RX3 = some m.cls := hown
  have hl : lv_has ls 2 [(0, .ref (a 0)), (1, .int p1)] := hl
  have ln1 := hts (Cond.constant RX3 35 (1000000000)) (List.mem_of_getElem? (i := 1) rfl)
  unfold fX3_noFar at hf
  refine lv_ldc (v := (1000000000 : Int32)) hx hb hown ln1 dX3_noFar_0 ?_
  refine lv_aload_n hx hb dX3_noFar_2 rfl (lv_at hl 0 rfl) ?_
  refine lv_iload_n hx hb dX3_noFar_3 rfl (lv_at hl 1 rfl) ?_
  refine d_callV (As := [.int p1]) (rest := [.int (1000000000 : Int32)]) (w := (fun z => wMo cI a z)) (wc := (wMo cI a)) (put := (fun uq => uq)) (σ := σ) (τ0 := σ) ⟨hx, hb, hml, hown, hts⟩ hf (fun vq zq hq => mX3_no l D cI cJ a s.heap.size N σ p1 (vq, zq) hq) (cwV 1 hts gX3_noFar_X3_no rfl rfl rfl qX3_no ⟨Nat.le_of_ble_eq_true rfl, Nat.le_of_ble_eq_true rfl⟩) hK hP hD hS hA ⟨hP, hD _, fun _ _ _ h => h⟩ 3 rfl rfl rfl rfl hl.1 rfl (Nat.le_of_ble_eq_true rfl) dX3_noFar_4 ⟨Nat.le_refl _, Nat.le_refl _⟩ (fun v2 z1 H locs hP hS hf => ?_)
  refine lv_isub hx hb dX3_noFar_7 ?_
  exact W_iret (fun z => wMo cI a z) hx hb hr hlk hP hS hAe hf dX3_noFar_8
def fX3_noWide (N : Nat) (σ : St) (p1 : Int32) : Option (Int64 × St) :=
    bx (fX3_no N σ p1) (fun uq => uq) (fun v2 z1 =>
    some (((4000000000000000000 : Int64) - (v2.toInt64)), z1))
abbrev rmX3_noWide : Room := { frames := 1, cells := 0, slots := 0, locals := 21 }
theorem qX3_noWide : yX3_noWide.cls = RX3 ∧ yX3_noWide.cls ≠ "java/lang/invoke/MethodHandle" ∧ yX3_noWide.cls ≠ "java/lang/invoke/VarHandle" ∧ (parseMethodDescriptor yX3_noWide.desc).map (fun d => d.parameters.length) = some 1 := by decide +kernel
set_option maxHeartbeats 400000 in
set_option maxRecDepth 100000 in
theorem mX3_noWide (l : Launch) (D : va_G) (cI cJ : ClassId) (a : Nat → Nat) (sz N : Nat) (σ : St) (p1 : Int32) (r : (Int64 × St)) (hf : fX3_noWide N σ p1 = some r) : Met l yX3_noWide wsX3_noWide rmX3_noWide (WPre ([.ref (a 0), .int p1] : List Value) sz D (tyIJ cI cJ) (wMo cI a σ)) (WQl sz D (wMo cI a σ) (wMo cI a (r.2)) r.1) 0 0 (va_A (wMo cI a σ) sz) := by
  refine W_start (cc := cX3_noWide) (maxL := 2) (ret := (some .long)) (by decide) rfl (Nat.le_of_ble_eq_true rfl) (fun p e s m below meth c ls A hx hb hr hml hown hts hlk hP hK hS hA hD0 hAe hl => ?_)
  have hD : ∀ z, va_D A ((fun z => wMo cI a z) z) := fun z => hD0.ad rfl
  have hown : s.vm.findClass RX3 = some m.cls := hown
  have hl : lv_has ls 2 [(0, .ref (a 0)), (1, .int p1)] := hl
  have ln1 := hts (Cond.constantLong RX3 40 (4000000000000000000)) (List.mem_of_getElem? (i := 1) rfl)
  unfold fX3_noWide at hf
  refine lv_ldc2 (v := (4000000000000000000 : Int64)) hx hb hown ln1 dX3_noWide_0 ?_
  refine lv_aload_n hx hb dX3_noWide_3 rfl (lv_at hl 0 rfl) ?_
  refine lv_iload_n hx hb dX3_noWide_4 rfl (lv_at hl 1 rfl) ?_
  refine d_callV (As := [.int p1]) (rest := [.long (4000000000000000000 : Int64)]) (w := (fun z => wMo cI a z)) (wc := (wMo cI a)) (put := (fun uq => uq)) (σ := σ) (τ0 := σ) ⟨hx, hb, hml, hown, hts⟩ hf (fun vq zq hq => mX3_no l D cI cJ a s.heap.size N σ p1 (vq, zq) hq) (cwV 1 hts gX3_noWide_X3_no rfl rfl rfl qX3_no ⟨Nat.le_of_ble_eq_true rfl, Nat.le_of_ble_eq_true rfl⟩) hK hP hD hS hA ⟨hP, hD _, fun _ _ _ h => h⟩ 3 rfl rfl rfl rfl hl.1 rfl (Nat.le_of_ble_eq_true rfl) dX3_noWide_5 ⟨Nat.le_refl _, Nat.le_refl _⟩ (fun v2 z1 H locs hP hS hf => ?_)
  refine lv_i2l hx hb dX3_noWide_8 rfl ?_
  refine lv_lsub hx hb dX3_noWide_9 ?_
  exact W_lret (fun z => wMo cI a z) hx hb hr hlk hP hS hAe hf dX3_noWide_10
def fX3_of (N : Nat) (p1 : Int32) (p2 : Int32) : Option Int32 :=
    some (((6 : Int32) + ((4 : Int32) * p1)) + p2)
abbrev rmX3_of : Room := { frames := 0, cells := 0, slots := 0, locals := 0 }
theorem qX3_of : yX3_of.cls ≠ "java/lang/invoke/MethodHandle" ∧ yX3_of.cls ≠ "java/lang/invoke/VarHandle" ∧ (parseMethodDescriptor yX3_of.desc).map (fun d => d.parameters.length) = some 2 := by decide +kernel
set_option maxHeartbeats 400000 in
set_option maxRecDepth 100000 in
theorem mX3_of (l : Launch) (D : va_G) (cI cJ : ClassId) (sz N : Nat) (p1 : Int32) (p2 : Int32) (r : Int32) (hf : fX3_of N p1 p2 = some r) : Met l yX3_of wsX3_of rmX3_of (RPre ([.int p1, .int p2] : List Value) sz D (tyIJ cI cJ) (wNo)) (RQi sz r) 0 0 (fr0 sz) := by
  refine R_start (cc := cX3_of) (maxL := 2) (ret := (some .int)) (by decide) rfl (Nat.le_of_ble_eq_true rfl) (fun p e s m below meth c ls hx hb hr hml hown hts hlk hP hK hS hA hsz hl => ?_)
  have hown : s.vm.findClass RX3 = some m.cls := hown
  have hl : lv_has ls 2 [(0, .int p1), (1, .int p2)] := hl
  unfold fX3_of at hf
  refine lv_bipush (v := (6 : Int32)) hx hb dX3_of_0 (by decide) ?_
  refine lv_iconst (v := (4 : Int32)) hx hb dX3_of_2 (by decide) ?_
  refine lv_iload_n hx hb dX3_of_3 rfl (lv_at hl 0 rfl) ?_
  refine lv_imul hx hb dX3_of_4 ?_
  refine lv_iadd hx hb dX3_of_5 ?_
  refine lv_iload_n hx hb dX3_of_6 rfl (lv_at hl 1 rfl) ?_
  refine lv_iadd hx hb dX3_of_7 ?_
  exact R_iret hx hb hr hlk hS hsz hf dX3_of_8
def fX3_isThing (N : Nat) (σ : St) (p1 : Int32) : Option Int32 :=
    bo (rdI σ 1 38 (0 : Int32)) (fun v1 =>
    bo (fX3_isIn N p1 (0 : Int32) (v1 - (1 : Int32))) (fun v2 =>
    zr v2))
abbrev rmX3_isThing : Room := { frames := 1, cells := 0, slots := 0, locals := 22 }
theorem qX3_isThing : yX3_isThing.cls = RX3 ∧ yX3_isThing.cls ≠ "java/lang/invoke/MethodHandle" ∧ yX3_isThing.cls ≠ "java/lang/invoke/VarHandle" ∧ (parseMethodDescriptor yX3_isThing.desc).map (fun d => d.parameters.length) = some 1 := by decide +kernel
set_option maxHeartbeats 400000 in
set_option maxRecDepth 100000 in
theorem mX3_isThing (l : Launch) (D : va_G) (cI cJ : ClassId) (a : Nat → Nat) (sz N : Nat) (σ : St) (p1 : Int32) (r : Int32) (hf : fX3_isThing N σ p1 = some r) : Met l yX3_isThing wsX3_isThing rmX3_isThing (RPre ([.ref (a 0), .int p1] : List Value) sz D (tyIJ cI cJ) (wMo cI a σ)) (RQi sz r) 0 0 (fr0 sz) := by
  refine R_start (cc := cX3_isThing) (maxL := 2) (ret := (some .boolean)) (by decide) rfl (Nat.le_of_ble_eq_true rfl) (fun p e s m below meth c ls hx hb hr hml hown hts hlk hP hK hS hA hsz hl => ?_)
  have hown : s.vm.findClass RX3 = some m.cls := hown
  have hl : lv_has ls 2 [(0, .ref (a 0)), (1, .int p1)] := hl
  have ln1 := hts (Cond.fieldLink RX3 9 "HoistsAreSharedModel" "s" "[I") (List.mem_of_getElem? (i := 1) rfl)
  have inX3 : ∀ w ∈ u_ws RX3 TX3 13, w ∈ wsX3_isThing := fun _ h => List.mem_cons_of_mem _ (List.mem_append_right _ h)
  unfold fX3_isThing at hf
  refine lv_iload_n hx hb dX3_isThing_0 rfl (lv_at hl 1 rfl) ?_
  refine lv_iconst (v := (0 : Int32)) hx hb dX3_isThing_1 (by decide) ?_
  refine lv_aload_n hx hb dX3_isThing_2 rfl (lv_at hl 0 rfl) ?_
  refine va_get (D := D) (ci := 3) (v := .ref (a 1)) (C := RX3) (T := TX3) (N := 13) hx hb hts inX3 hown hK hP 0 rfl rfl 0 (by decide) ln1 (fun _ h9 => h9) rfl dX3_isThing_3 ?_
  refine lv_iconst (v := (0 : Int32)) hx hb dX3_isThing_6 (by decide) ?_
  refine k_iald hx hb hK hP 1 0 hf rfl rfl dX3_isThing_7 (fun v1 hf => ?_)
  refine lv_iconst (v := (1 : Int32)) hx hb dX3_isThing_8 (by decide) ?_
  refine lv_isub hx hb dX3_isThing_9 ?_
  refine c_callS (As := [.int p1, .int (0 : Int32), .int (v1 - (1 : Int32))]) (rest := []) ⟨hx, hb, hml, hown, hts⟩ hf (fun vq hq => mX3_isIn l D cI cJ s.heap.size N p1 (0 : Int32) (v1 - (1 : Int32)) vq hq) (va_cwS 3 hts gX3_isThing_X3_isIn rfl rfl rfl qX3_isIn ⟨Nat.le_of_ble_eq_true rfl, Nat.le_of_ble_eq_true rfl⟩) hK hP hS hA va_P_nil rfl hl.1 rfl (Nat.le_of_ble_eq_true rfl) dX3_isThing_10 ⟨Nat.le_refl _, Nat.le_refl _⟩ (fun v2 H locs hP hS hf => ?_)
  exact R_zret hx hb hr hlk hS hsz hf dX3_isThing_13
def fX3_isSide (N : Nat) (p1 : Int32) : Option Int32 :=
    bo (fX3_isIn N p1 (0 : Int32) (1 : Int32)) (fun v1 =>
    zr v1)
abbrev rmX3_isSide : Room := { frames := 1, cells := 0, slots := 0, locals := 22 }
theorem qX3_isSide : yX3_isSide.cls ≠ "java/lang/invoke/MethodHandle" ∧ yX3_isSide.cls ≠ "java/lang/invoke/VarHandle" ∧ (parseMethodDescriptor yX3_isSide.desc).map (fun d => d.parameters.length) = some 1 := by decide +kernel
set_option maxHeartbeats 400000 in
set_option maxRecDepth 100000 in
theorem mX3_isSide (l : Launch) (D : va_G) (cI cJ : ClassId) (sz N : Nat) (p1 : Int32) (r : Int32) (hf : fX3_isSide N p1 = some r) : Met l yX3_isSide wsX3_isSide rmX3_isSide (RPre ([.int p1] : List Value) sz D (tyIJ cI cJ) (wNo)) (RQi sz r) 0 0 (fr0 sz) := by
  refine R_start (cc := cX3_isSide) (maxL := 1) (ret := (some .boolean)) (by decide) rfl (Nat.le_of_ble_eq_true rfl) (fun p e s m below meth c ls hx hb hr hml hown hts hlk hP hK hS hA hsz hl => ?_)
  have hown : s.vm.findClass RX3 = some m.cls := hown
  have hl : lv_has ls 1 [(0, .int p1)] := hl
  unfold fX3_isSide at hf
  refine lv_iload_n hx hb dX3_isSide_0 rfl (lv_at hl 0 rfl) ?_
  refine lv_iconst (v := (0 : Int32)) hx hb dX3_isSide_1 (by decide) ?_
  refine lv_iconst (v := (1 : Int32)) hx hb dX3_isSide_2 (by decide) ?_
  refine c_callS (As := [.int p1, .int (0 : Int32), .int (1 : Int32)]) (rest := []) ⟨hx, hb, hml, hown, hts⟩ hf (fun vq hq => mX3_isIn l D cI cJ s.heap.size N p1 (0 : Int32) (1 : Int32) vq hq) (va_cwS 3 hts gX3_isSide_X3_isIn rfl rfl rfl qX3_isIn ⟨Nat.le_of_ble_eq_true rfl, Nat.le_of_ble_eq_true rfl⟩) hK hP hS hA hP rfl hl.1 rfl (Nat.le_of_ble_eq_true rfl) dX3_isSide_3 ⟨Nat.le_refl _, Nat.le_refl _⟩ (fun v1 H locs hP hS hf => ?_)
  exact R_zret hx hb hr hlk hS hsz hf dX3_isSide_6
def fX3_isFloor (N : Nat) (p1 : Int32) : Option Int32 :=
    bo (fX3_isIn N p1 (0 : Int32) (20 : Int32)) (fun v1 =>
    zr v1)
abbrev rmX3_isFloor : Room := { frames := 1, cells := 0, slots := 0, locals := 22 }
theorem qX3_isFloor : yX3_isFloor.cls ≠ "java/lang/invoke/MethodHandle" ∧ yX3_isFloor.cls ≠ "java/lang/invoke/VarHandle" ∧ (parseMethodDescriptor yX3_isFloor.desc).map (fun d => d.parameters.length) = some 1 := by decide +kernel
set_option maxHeartbeats 400000 in
set_option maxRecDepth 100000 in
theorem mX3_isFloor (l : Launch) (D : va_G) (cI cJ : ClassId) (sz N : Nat) (p1 : Int32) (r : Int32) (hf : fX3_isFloor N p1 = some r) : Met l yX3_isFloor wsX3_isFloor rmX3_isFloor (RPre ([.int p1] : List Value) sz D (tyIJ cI cJ) (wNo)) (RQi sz r) 0 0 (fr0 sz) := by
  refine R_start (cc := cX3_isFloor) (maxL := 1) (ret := (some .boolean)) (by decide) rfl (Nat.le_of_ble_eq_true rfl) (fun p e s m below meth c ls hx hb hr hml hown hts hlk hP hK hS hA hsz hl => ?_)
  have hown : s.vm.findClass RX3 = some m.cls := hown
  have hl : lv_has ls 1 [(0, .int p1)] := hl
  unfold fX3_isFloor at hf
  refine lv_iload_n hx hb dX3_isFloor_0 rfl (lv_at hl 0 rfl) ?_
  refine lv_iconst (v := (0 : Int32)) hx hb dX3_isFloor_1 (by decide) ?_
  refine lv_bipush (v := (20 : Int32)) hx hb dX3_isFloor_2 (by decide) ?_
  refine c_callS (As := [.int p1, .int (0 : Int32), .int (20 : Int32)]) (rest := []) ⟨hx, hb, hml, hown, hts⟩ hf (fun vq hq => mX3_isIn l D cI cJ s.heap.size N p1 (0 : Int32) (20 : Int32) vq hq) (va_cwS 3 hts gX3_isFloor_X3_isIn rfl rfl rfl qX3_isIn ⟨Nat.le_of_ble_eq_true rfl, Nat.le_of_ble_eq_true rfl⟩) hK hP hS hA hP rfl hl.1 rfl (Nat.le_of_ble_eq_true rfl) dX3_isFloor_4 ⟨Nat.le_refl _, Nat.le_refl _⟩ (fun v1 H locs hP hS hf => ?_)
  exact R_zret hx hb hr hlk hS hsz hf dX3_isFloor_7
def fX3_has (N : Nat) (p1 : Int32) (p2 : Int32) : Option Int32 :=
    if ((p1 >>> (p2 &&& 31)) &&& (1 : Int32)) = (1 : Int32) then zr (1 : Int32)
    else zr (0 : Int32)
abbrev rmX3_has : Room := { frames := 0, cells := 0, slots := 0, locals := 0 }
theorem qX3_has : yX3_has.cls ≠ "java/lang/invoke/MethodHandle" ∧ yX3_has.cls ≠ "java/lang/invoke/VarHandle" ∧ (parseMethodDescriptor yX3_has.desc).map (fun d => d.parameters.length) = some 2 := by decide +kernel
set_option maxHeartbeats 400000 in
set_option maxRecDepth 100000 in
theorem mX3_has (l : Launch) (D : va_G) (cI cJ : ClassId) (sz N : Nat) (p1 : Int32) (p2 : Int32) (r : Int32) (hf : fX3_has N p1 p2 = some r) : Met l yX3_has wsX3_has rmX3_has (RPre ([.int p1, .int p2] : List Value) sz D (tyIJ cI cJ) (wNo)) (RQi sz r) 0 0 (fr0 sz) := by
  refine R_start (cc := cX3_has) (maxL := 2) (ret := (some .boolean)) (by decide) rfl (Nat.le_of_ble_eq_true rfl) (fun p e s m below meth c ls hx hb hr hml hown hts hlk hP hK hS hA hsz hl => ?_)
  have hown : s.vm.findClass RX3 = some m.cls := hown
  have hl : lv_has ls 2 [(0, .int p1), (1, .int p2)] := hl
  unfold fX3_has at hf
  refine lv_iload_n hx hb dX3_has_0 rfl (lv_at hl 0 rfl) ?_
  refine lv_iload_n hx hb dX3_has_1 rfl (lv_at hl 1 rfl) ?_
  refine lv_ishr hx hb dX3_has_2 ?_
  refine lv_iconst (v := (1 : Int32)) hx hb dX3_has_3 (by decide) ?_
  refine lv_iand hx hb dX3_has_4 ?_
  refine lv_iconst (v := (1 : Int32)) hx hb dX3_has_5 (by decide) ?_
  refine k_icmp_ne (tgt := 13) hx hb dX3_has_6 (by decide) hf (fun hf => ?_) (fun hf => ?_)
  · refine lv_iconst (v := (0 : Int32)) hx hb dX3_has_13 (by decide) ?_
    exact R_zret hx hb hr hlk hS hsz hf dX3_has_14
  · refine lv_iconst (v := (1 : Int32)) hx hb dX3_has_9 (by decide) ?_
    refine lv_goto (tgt := 14) hx hb dX3_has_10 (by decide) ?_
    exact R_zret hx hb hr hlk hS hsz hf dX3_has_14
def fX3_bits_L4 (N : Nat)  : Nat → Int32 → Int32 → Int32 → Option Int32
  | 0, _, _, _ => none
  | n + 1, x0, x1, x2 =>
    if (20 : Int32) < x2 then some x1
    else lt_ ((x1 + ((x0 >>> (x2 &&& 31)) &&& (1 : Int32))) : Int32) (fun v1 =>
    lt_ (x2 + (1 : Int32) : Int32) (fun v2 =>
    (fX3_bits_L4 N n) x0 v1 v2))
def fX3_bits (N : Nat) (p1 : Int32) : Option Int32 :=
    fX3_bits_L4 N  N p1 (0 : Int32) (0 : Int32)
abbrev rmX3_bits : Room := { frames := 0, cells := 0, slots := 0, locals := 0 }
theorem qX3_bits : yX3_bits.cls ≠ "java/lang/invoke/MethodHandle" ∧ yX3_bits.cls ≠ "java/lang/invoke/VarHandle" ∧ (parseMethodDescriptor yX3_bits.desc).map (fun d => d.parameters.length) = some 1 := by decide +kernel
set_option maxHeartbeats 400000 in
set_option maxRecDepth 100000 in
theorem mX3_bits (l : Launch) (D : va_G) (cI cJ : ClassId) (sz N : Nat) (p1 : Int32) (r : Int32) (hf : fX3_bits N p1 = some r) : Met l yX3_bits wsX3_bits rmX3_bits (RPre ([.int p1] : List Value) sz D (tyIJ cI cJ) (wNo)) (RQi sz r) 0 0 (fr0 sz) := by
  refine R_start (cc := cX3_bits) (maxL := 3) (ret := (some .int)) (by decide) rfl (Nat.le_of_ble_eq_true rfl) (fun p e s m below meth c ls hx hb hr hml hown hts hlk hP hK hS hA hsz hl => ?_)
  have hown : s.vm.findClass RX3 = some m.cls := hown
  have hl : lv_has ls 3 [(0, .int p1)] := hl
  have b4 : ∀  (n : Nat) (x0 : Int32) (x1 : Int32) (x2 : Int32) (H : Heap) (locs : List Loc) (ls : Array Slot), va_P D vwCl (wNo) H → va_S (fr0 s.heap.size) s.heap H locs → lv_has ls 3 [(0, .int x0), (1, .int x1), (2, .int x2)] → fX3_bits_L4 N n x0 x1 x2 = some r → W p l e rmX3_bits s m ([.int p1] : List Value).toArray below meth c H locs 0 0 (MQ below (RQi sz r) ([.int p1] : List Value).toArray s 0 0 (fr0 sz)) (F0 m 4 ls []) := by
    intro n
    induction n with
    | zero => intro x0 x1 x2 H locs ls hP hS hl hf; cases hf
    | succ n ih =>
      intro x0 x1 x2 H locs ls hP hS hl hf
      rw [fX3_bits_L4] at hf
      refine lv_iload_n hx hb dX3_bits_4 rfl (lv_at hl 2 rfl) ?_
      refine lv_bipush (v := (20 : Int32)) hx hb dX3_bits_5 (by decide) ?_
      refine k_icmp_gt (tgt := 24) hx hb dX3_bits_7 (by decide) hf (fun hf => ?_) (fun hf => ?_)
      · refine lv_iload_n hx hb dX3_bits_24 rfl (lv_at hl 1 rfl) ?_
        exact R_iret hx hb hr hlk hS hsz hf dX3_bits_25
      · refine lv_iload_n hx hb dX3_bits_10 rfl (lv_at hl 1 rfl) ?_
        refine lv_iload_n hx hb dX3_bits_11 rfl (lv_at hl 0 rfl) ?_
        refine lv_iload_n hx hb dX3_bits_12 rfl (lv_at hl 2 rfl) ?_
        refine lv_ishr hx hb dX3_bits_13 ?_
        refine lv_iconst (v := (1 : Int32)) hx hb dX3_bits_14 (by decide) ?_
        refine lv_iand hx hb dX3_bits_15 ?_
        refine lv_iadd hx hb dX3_bits_16 ?_
        refine k_let hf (fun v1 hf => ?_)
        refine lv_istore_n (lv' := [(1, .int v1), (0, .int x0), (2, .int x2)]) hx hb dX3_bits_17 rfl hl (by decide) rfl (fun ls hl => ?_)
        refine k_iinc (d := (1 : Int32)) (lv' := fun v2 => [(2, .int v2), (1, .int v1), (0, .int x0)]) hx hb dX3_bits_18 hl (k := 2) rfl (by decide) (by decide) (fun _ => rfl) hf (fun v2 ls hl hf => ?_)
        refine lv_goto (tgt := 4) hx hb dX3_bits_21 (by decide) ?_
        exact ih x0 v1 v2 H locs ls hP hS (lv_sub hl [2, 1, 0] rfl) hf
  unfold fX3_bits at hf
  refine lv_iconst (v := (0 : Int32)) hx hb dX3_bits_0 (by decide) ?_
  refine lv_istore_n (lv' := [(1, .int (0 : Int32)), (0, .int p1)]) hx hb dX3_bits_1 rfl hl (by decide) rfl (fun ls hl => ?_)
  refine lv_iconst (v := (0 : Int32)) hx hb dX3_bits_2 (by decide) ?_
  refine lv_istore_n (lv' := [(2, .int (0 : Int32)), (1, .int (0 : Int32)), (0, .int p1)]) hx hb dX3_bits_3 rfl hl (by decide) rfl (fun ls hl => ?_)
  exact b4  N p1 (0 : Int32) (0 : Int32) s.heap [] ls hP hS (lv_sub hl [2, 1, 0] rfl) hf
def fX3_weighsBy (N : Nat) (p1 : Int32) (p2 : Int32) (p3 : Int32) (p4 : Int32) : Option Int32 :=
    lt_ ((p2 + (1 : Int32)) : Int32) (fun v1 =>
    bo (fX3_least N (20 : Int32) (p3 / (2 : Int32))) (fun v2 =>
    lt_ ((v1 + v2) : Int32) (fun v3 =>
    if p1 = (1 : Int32) then some ((2 : Int32) * v1)
    else if p1 = (2 : Int32) then some v3
    else if p1 = (3 : Int32) then if (5 : Int32) ≤ (p4 - p4 / (10 : Int32) * (10 : Int32)) then some ((3 : Int32) * v1)
    else some v1
    else if p1 = (4 : Int32) then some (((2 : Int32) * v1) + (3 : Int32))
    else if p1 = (5 : Int32) then if v3 ≤ (30 : Int32) then some ((30 : Int32) - v3)
    else some (0 : Int32)
    else some v1)))
abbrev rmX3_weighsBy : Room := { frames := 1, cells := 0, slots := 0, locals := 21 }
theorem qX3_weighsBy : yX3_weighsBy.cls ≠ "java/lang/invoke/MethodHandle" ∧ yX3_weighsBy.cls ≠ "java/lang/invoke/VarHandle" ∧ (parseMethodDescriptor yX3_weighsBy.desc).map (fun d => d.parameters.length) = some 4 := by decide +kernel
set_option maxHeartbeats 400000 in
set_option maxRecDepth 100000 in
theorem mX3_weighsBy (l : Launch) (D : va_G) (cI cJ : ClassId) (sz N : Nat) (p1 : Int32) (p2 : Int32) (p3 : Int32) (p4 : Int32) (r : Int32) (hf : fX3_weighsBy N p1 p2 p3 p4 = some r) : Met l yX3_weighsBy wsX3_weighsBy rmX3_weighsBy (RPre ([.int p1, .int p2, .int p3, .int p4] : List Value) sz D (tyIJ cI cJ) (wNo)) (RQi sz r) 0 0 (fr0 sz) := by
  refine R_start (cc := cX3_weighsBy) (maxL := 6) (ret := (some .int)) (by decide) rfl (Nat.le_of_ble_eq_true rfl) (fun p e s m below meth c ls hx hb hr hml hown hts hlk hP hK hS hA hsz hl => ?_)
  have hown : s.vm.findClass RX3 = some m.cls := hown
  have hl : lv_has ls 6 [(0, .int p1), (1, .int p2), (2, .int p3), (3, .int p4)] := hl
  unfold fX3_weighsBy at hf
  refine lv_iload_n hx hb dX3_weighsBy_0 rfl (lv_at hl 1 rfl) ?_
  refine lv_iconst (v := (1 : Int32)) hx hb dX3_weighsBy_1 (by decide) ?_
  refine lv_iadd hx hb dX3_weighsBy_2 ?_
  refine k_let hf (fun v1 hf => ?_)
  refine lv_istore (lv' := [(4, .int v1), (0, .int p1), (1, .int p2), (2, .int p3), (3, .int p4)]) hx hb dX3_weighsBy_3 hl (by decide) rfl (fun ls hl => ?_)
  refine lv_iload hx hb dX3_weighsBy_5 (lv_at hl 0 rfl) ?_
  refine lv_bipush (v := (20 : Int32)) hx hb dX3_weighsBy_7 (by decide) ?_
  refine lv_iload_n hx hb dX3_weighsBy_9 rfl (lv_at hl 3 rfl) ?_
  refine lv_iconst (v := (2 : Int32)) hx hb dX3_weighsBy_10 (by decide) ?_
  refine lv_idiv hx hb dX3_weighsBy_11 (by decide) ?_
  refine c_callS (As := [.int (20 : Int32), .int (p3 / (2 : Int32))]) (rest := [.int v1]) ⟨hx, hb, hml, hown, hts⟩ hf (fun vq hq => mX3_least l D cI cJ s.heap.size N (20 : Int32) (p3 / (2 : Int32)) vq hq) (va_cwS 2 hts gX3_weighsBy_X3_least rfl rfl rfl qX3_least ⟨Nat.le_of_ble_eq_true rfl, Nat.le_of_ble_eq_true rfl⟩) hK hP hS hA hP rfl hl.1 rfl (Nat.le_of_ble_eq_true rfl) dX3_weighsBy_12 ⟨Nat.le_refl _, Nat.le_refl _⟩ (fun v2 H locs hP hS hf => ?_)
  refine lv_iadd hx hb dX3_weighsBy_15 ?_
  refine k_let hf (fun v3 hf => ?_)
  refine lv_istore (lv' := [(5, .int v3), (4, .int v1), (0, .int p1), (1, .int p2), (2, .int p3), (3, .int p4)]) hx hb dX3_weighsBy_16 hl (by decide) rfl (fun ls hl => ?_)
  refine lv_iload_n hx hb dX3_weighsBy_18 rfl (lv_at hl 2 rfl) ?_
  refine sw_if hf (fun c4 hf => ?_) (fun c4 hf => ?_)
  · refine lv_tableIn (off := 33) (tgt := 52) hx hb dX3_weighsBy_19 (by rw [c4]; decide) (by rw [c4]; decide) (by rw [c4]; decide) (by decide) ?_
    refine lv_iconst (v := (2 : Int32)) hx hb dX3_weighsBy_52 (by decide) ?_
    refine lv_iload hx hb dX3_weighsBy_53 (lv_at hl 1 rfl) ?_
    refine lv_imul hx hb dX3_weighsBy_55 ?_
    exact R_iret hx hb hr hlk hS hsz hf dX3_weighsBy_56
  · have c4 := i32_ne c4 (n := 1) (by decide)
    refine sw_if hf (fun c5 hf => ?_) (fun c5 hf => ?_)
    · refine lv_tableIn (off := 38) (tgt := 57) hx hb dX3_weighsBy_19 (by rw [c5]; decide) (by rw [c5]; decide) (by rw [c5]; decide) (by decide) ?_
      refine lv_iload hx hb dX3_weighsBy_57 (lv_at hl 0 rfl) ?_
      exact R_iret hx hb hr hlk hS hsz hf dX3_weighsBy_59
    · have c5 := i32_ne c5 (n := 2) (by decide)
      refine sw_if hf (fun c6 hf => ?_) (fun c6 hf => ?_)
      · refine lv_tableIn (off := 41) (tgt := 60) hx hb dX3_weighsBy_19 (by rw [c6]; decide) (by rw [c6]; decide) (by rw [c6]; decide) (by decide) ?_
        refine lv_iload_n hx hb dX3_weighsBy_60 rfl (lv_at hl 5 rfl) ?_
        refine lv_bipush (v := (10 : Int32)) hx hb dX3_weighsBy_61 (by decide) ?_
        refine lv_irem hx hb dX3_weighsBy_63 (by decide) ?_
        refine lv_iconst (v := (5 : Int32)) hx hb dX3_weighsBy_64 (by decide) ?_
        refine k_icmp_ge (tgt := 73) hx hb dX3_weighsBy_65 (by decide) hf (fun hf => ?_) (fun hf => ?_)
        · refine lv_iconst (v := (3 : Int32)) hx hb dX3_weighsBy_73 (by decide) ?_
          refine lv_iload hx hb dX3_weighsBy_74 (lv_at hl 1 rfl) ?_
          refine lv_imul hx hb dX3_weighsBy_76 ?_
          exact R_iret hx hb hr hlk hS hsz hf dX3_weighsBy_77
        · refine lv_iload hx hb dX3_weighsBy_68 (lv_at hl 1 rfl) ?_
          refine lv_goto (tgt := 77) hx hb dX3_weighsBy_70 (by decide) ?_
          exact R_iret hx hb hr hlk hS hsz hf dX3_weighsBy_77
      · have c6 := i32_ne c6 (n := 3) (by decide)
        refine sw_if hf (fun c7 hf => ?_) (fun c7 hf => ?_)
        · refine lv_tableIn (off := 59) (tgt := 78) hx hb dX3_weighsBy_19 (by rw [c7]; decide) (by rw [c7]; decide) (by rw [c7]; decide) (by decide) ?_
          refine lv_iconst (v := (2 : Int32)) hx hb dX3_weighsBy_78 (by decide) ?_
          refine lv_iload hx hb dX3_weighsBy_79 (lv_at hl 1 rfl) ?_
          refine lv_imul hx hb dX3_weighsBy_81 ?_
          refine lv_iconst (v := (3 : Int32)) hx hb dX3_weighsBy_82 (by decide) ?_
          refine lv_iadd hx hb dX3_weighsBy_83 ?_
          exact R_iret hx hb hr hlk hS hsz hf dX3_weighsBy_84
        · have c7 := i32_ne c7 (n := 4) (by decide)
          refine sw_if hf (fun c8 hf => ?_) (fun c8 hf => ?_)
          · refine lv_tableIn (off := 66) (tgt := 85) hx hb dX3_weighsBy_19 (by rw [c8]; decide) (by rw [c8]; decide) (by rw [c8]; decide) (by decide) ?_
            refine lv_iload hx hb dX3_weighsBy_85 (lv_at hl 0 rfl) ?_
            refine lv_bipush (v := (30 : Int32)) hx hb dX3_weighsBy_87 (by decide) ?_
            refine k_icmp_le (tgt := 96) hx hb dX3_weighsBy_89 (by decide) hf (fun hf => ?_) (fun hf => ?_)
            · refine lv_bipush (v := (30 : Int32)) hx hb dX3_weighsBy_96 (by decide) ?_
              refine lv_iload hx hb dX3_weighsBy_98 (lv_at hl 0 rfl) ?_
              refine lv_isub hx hb dX3_weighsBy_100 ?_
              exact R_iret hx hb hr hlk hS hsz hf dX3_weighsBy_101
            · refine lv_iconst (v := (0 : Int32)) hx hb dX3_weighsBy_92 (by decide) ?_
              refine lv_goto (tgt := 101) hx hb dX3_weighsBy_93 (by decide) ?_
              exact R_iret hx hb hr hlk hS hsz hf dX3_weighsBy_101
          · have c8 := i32_ne c8 (n := 5) (by decide)
            refine lv_tableOut (tgt := 102) hx hb dX3_weighsBy_19 (by omega) (by decide) ?_
            refine lv_iload hx hb dX3_weighsBy_102 (lv_at hl 1 rfl) ?_
            exact R_iret hx hb hr hlk hS hsz hf dX3_weighsBy_104
def fX3_weighsOn (N : Nat) (σ : St) (p2 : Int32) (p3 : Int32) : Option Int32 :=
    bo (fX3_of N p2 (0 : Int32)) (fun v1 =>
    bo (rdI σ 0 38 v1) (fun v2 =>
    bo (fX3_of N p2 (1 : Int32)) (fun v3 =>
    bo (rdI σ 0 38 v3) (fun v4 =>
    bo (fX3_of N p2 (3 : Int32)) (fun v5 =>
    bo (rdI σ 0 38 v5) (fun v6 =>
    bo (fX3_weighsBy N v2 v4 (p3 - v6) p3) (fun v7 =>
    some v7)))))))
abbrev rmX3_weighsOn : Room := { frames := 2, cells := 0, slots := 0, locals := 46 }
theorem qX3_weighsOn : yX3_weighsOn.cls ≠ "java/lang/invoke/MethodHandle" ∧ yX3_weighsOn.cls ≠ "java/lang/invoke/VarHandle" ∧ (parseMethodDescriptor yX3_weighsOn.desc).map (fun d => d.parameters.length) = some 3 := by decide +kernel
set_option maxHeartbeats 400000 in
set_option maxRecDepth 100000 in
theorem mX3_weighsOn (l : Launch) (D : va_G) (cI cJ : ClassId) (a : Nat → Nat) (sz N : Nat) (σ : St) (p2 : Int32) (p3 : Int32) (r : Int32) (hf : fX3_weighsOn N σ p2 p3 = some r) : Met l yX3_weighsOn wsX3_weighsOn rmX3_weighsOn (RPre ([.ref (a 0), .int p2, .int p3] : List Value) sz D (tyIJ cI cJ) (wAr cI a σ)) (RQi sz r) 0 0 (fr0 sz) := by
  refine R_start (cc := cX3_weighsOn) (maxL := 3) (ret := (some .int)) (by decide) rfl (Nat.le_of_ble_eq_true rfl) (fun p e s m below meth c ls hx hb hr hml hown hts hlk hP hK hS hA hsz hl => ?_)
  have hown : s.vm.findClass RX3 = some m.cls := hown
  have hl : lv_has ls 3 [(0, .ref (a 0)), (1, .int p2), (2, .int p3)] := hl
  unfold fX3_weighsOn at hf
  refine lv_aload_n hx hb dX3_weighsOn_0 rfl (lv_at hl 0 rfl) ?_
  refine lv_iload_n hx hb dX3_weighsOn_1 rfl (lv_at hl 1 rfl) ?_
  refine lv_iconst (v := (0 : Int32)) hx hb dX3_weighsOn_2 (by decide) ?_
  refine c_callS (As := [.int p2, .int (0 : Int32)]) (rest := [.ref (a 0)]) ⟨hx, hb, hml, hown, hts⟩ hf (fun vq hq => mX3_of l D cI cJ s.heap.size N p2 (0 : Int32) vq hq) (va_cwS 2 hts gX3_weighsOn_X3_of rfl rfl rfl qX3_of ⟨Nat.le_of_ble_eq_true rfl, Nat.le_of_ble_eq_true rfl⟩) hK hP hS hA va_P_nil rfl hl.1 rfl (Nat.le_of_ble_eq_true rfl) dX3_weighsOn_3 ⟨Nat.le_refl _, Nat.le_refl _⟩ (fun v1 H locs hP hS hf => ?_)
  refine k_iald hx hb hK hP 0 0 hf rfl rfl dX3_weighsOn_6 (fun v2 hf => ?_)
  refine lv_aload_n hx hb dX3_weighsOn_7 rfl (lv_at hl 0 rfl) ?_
  refine lv_iload_n hx hb dX3_weighsOn_8 rfl (lv_at hl 1 rfl) ?_
  refine lv_iconst (v := (1 : Int32)) hx hb dX3_weighsOn_9 (by decide) ?_
  refine c_callS (As := [.int p2, .int (1 : Int32)]) (rest := [.ref (a 0), .int v2]) ⟨hx, hb, hml, hown, hts⟩ hf (fun vq hq => mX3_of l D cI cJ H.size N p2 (1 : Int32) vq hq) (va_cwS 2 hts gX3_weighsOn_X3_of rfl rfl rfl qX3_of ⟨Nat.le_of_ble_eq_true rfl, Nat.le_of_ble_eq_true rfl⟩) hK hP hS hA va_P_nil rfl hl.1 rfl (Nat.le_of_ble_eq_true rfl) dX3_weighsOn_10 ⟨Nat.le_refl _, Nat.le_refl _⟩ (fun v3 H locs hP hS hf => ?_)
  refine k_iald hx hb hK hP 0 0 hf rfl rfl dX3_weighsOn_13 (fun v4 hf => ?_)
  refine lv_iload_n hx hb dX3_weighsOn_14 rfl (lv_at hl 2 rfl) ?_
  refine lv_aload_n hx hb dX3_weighsOn_15 rfl (lv_at hl 0 rfl) ?_
  refine lv_iload_n hx hb dX3_weighsOn_16 rfl (lv_at hl 1 rfl) ?_
  refine lv_iconst (v := (3 : Int32)) hx hb dX3_weighsOn_17 (by decide) ?_
  refine c_callS (As := [.int p2, .int (3 : Int32)]) (rest := [.ref (a 0), .int p3, .int v4, .int v2]) ⟨hx, hb, hml, hown, hts⟩ hf (fun vq hq => mX3_of l D cI cJ H.size N p2 (3 : Int32) vq hq) (va_cwS 2 hts gX3_weighsOn_X3_of rfl rfl rfl qX3_of ⟨Nat.le_of_ble_eq_true rfl, Nat.le_of_ble_eq_true rfl⟩) hK hP hS hA va_P_nil rfl hl.1 rfl (Nat.le_of_ble_eq_true rfl) dX3_weighsOn_18 ⟨Nat.le_refl _, Nat.le_refl _⟩ (fun v5 H locs hP hS hf => ?_)
  refine k_iald hx hb hK hP 0 0 hf rfl rfl dX3_weighsOn_21 (fun v6 hf => ?_)
  refine lv_isub hx hb dX3_weighsOn_22 ?_
  refine lv_iload_n hx hb dX3_weighsOn_23 rfl (lv_at hl 2 rfl) ?_
  refine c_callS (As := [.int v2, .int v4, .int (p3 - v6), .int p3]) (rest := []) ⟨hx, hb, hml, hown, hts⟩ hf (fun vq hq => mX3_weighsBy l D cI cJ H.size N v2 v4 (p3 - v6) p3 vq hq) (va_cwS 4 hts gX3_weighsOn_X3_weighsBy rfl rfl rfl qX3_weighsBy ⟨Nat.le_of_ble_eq_true rfl, Nat.le_of_ble_eq_true rfl⟩) hK hP hS hA va_P_nil rfl hl.1 rfl (Nat.le_of_ble_eq_true rfl) dX3_weighsOn_24 ⟨Nat.le_refl _, Nat.le_refl _⟩ (fun v7 H locs hP hS hf => ?_)
  exact R_iret hx hb hr hlk hS hsz hf dX3_weighsOn_27
def fX3_weighs (N : Nat) (σ : St) (p2 : Int32) : Option Int32 :=
    bo (rdI σ 0 38 (1 : Int32)) (fun v1 =>
    bo (fX3_weighsOn N σ p2 v1) (fun v2 =>
    some v2))
abbrev rmX3_weighs : Room := { frames := 3, cells := 0, slots := 0, locals := 68 }
theorem qX3_weighs : yX3_weighs.cls ≠ "java/lang/invoke/MethodHandle" ∧ yX3_weighs.cls ≠ "java/lang/invoke/VarHandle" ∧ (parseMethodDescriptor yX3_weighs.desc).map (fun d => d.parameters.length) = some 2 := by decide +kernel
set_option maxHeartbeats 400000 in
set_option maxRecDepth 100000 in
theorem mX3_weighs (l : Launch) (D : va_G) (cI cJ : ClassId) (a : Nat → Nat) (sz N : Nat) (σ : St) (p2 : Int32) (r : Int32) (hf : fX3_weighs N σ p2 = some r) : Met l yX3_weighs wsX3_weighs rmX3_weighs (RPre ([.ref (a 0), .int p2] : List Value) sz D (tyIJ cI cJ) (wAr cI a σ)) (RQi sz r) 0 0 (fr0 sz) := by
  refine R_start (cc := cX3_weighs) (maxL := 2) (ret := (some .int)) (by decide) rfl (Nat.le_of_ble_eq_true rfl) (fun p e s m below meth c ls hx hb hr hml hown hts hlk hP hK hS hA hsz hl => ?_)
  have hown : s.vm.findClass RX3 = some m.cls := hown
  have hl : lv_has ls 2 [(0, .ref (a 0)), (1, .int p2)] := hl
  unfold fX3_weighs at hf
  refine lv_aload_n hx hb dX3_weighs_0 rfl (lv_at hl 0 rfl) ?_
  refine lv_iload_n hx hb dX3_weighs_1 rfl (lv_at hl 1 rfl) ?_
  refine lv_aload_n hx hb dX3_weighs_2 rfl (lv_at hl 0 rfl) ?_
  refine lv_iconst (v := (1 : Int32)) hx hb dX3_weighs_3 (by decide) ?_
  refine k_iald hx hb hK hP 0 0 hf rfl rfl dX3_weighs_4 (fun v1 hf => ?_)
  refine c_callS (As := [.ref (a 0), .int p2, .int v1]) (rest := []) ⟨hx, hb, hml, hown, hts⟩ hf (fun vq hq => mX3_weighsOn l D cI cJ a s.heap.size N σ p2 v1 vq hq) (va_cwS 3 hts gX3_weighs_X3_weighsOn rfl rfl rfl qX3_weighsOn ⟨Nat.le_of_ble_eq_true rfl, Nat.le_of_ble_eq_true rfl⟩) hK hP hS hA hP rfl hl.1 rfl (Nat.le_of_ble_eq_true rfl) dX3_weighs_5 ⟨Nat.le_refl _, Nat.le_refl _⟩ (fun v2 H locs hP hS hf => ?_)
  exact R_iret hx hb hr hlk hS hsz hf dX3_weighs_8
def fX3_weight_L36 (N : Nat) (σ : St) (k8 : Int32 → Int32 → Int32 → Option Int32) (x1 : Int32) (x3 : Int32) (y0 : Int32) (y1 : Int32) : Option Int32 :=
    lt_ ((y1 + y0) : Int32) (fun v5 =>
    lt_ (x3 + (1 : Int32) : Int32) (fun v6 =>
    k8 x1 v5 v6))
def fX3_weight_L8 (N : Nat) (σ : St)  : Nat → Int32 → Int32 → Int32 → Option Int32
  | 0, _, _, _ => none
  | n + 1, x1, x2, x3 =>
    bo (rdI σ 0 38 (0 : Int32)) (fun v2 =>
    if v2 ≤ x3 then some x2
    else bo (fX3_of N x3 (2 : Int32)) (fun v3 =>
    bo (rdI σ 0 38 v3) (fun v4 =>
    if v4 = x1 then bo (fX3_weighs N σ x3) (fun v7 =>
    fX3_weight_L36 N σ (fX3_weight_L8 N σ n) x1 x3 v7 x2)
    else fX3_weight_L36 N σ (fX3_weight_L8 N σ n) x1 x3 (0 : Int32) x2)))
def fX3_weight (N : Nat) (σ : St) (p2 : Int32) : Option Int32 :=
    bo (rdI σ 0 38 ((4 : Int32) + p2)) (fun v1 =>
    fX3_weight_L8 N σ  N p2 v1 (0 : Int32))
abbrev rmX3_weight : Room := { frames := 4, cells := 0, slots := 0, locals := 89 }
theorem qX3_weight : yX3_weight.cls ≠ "java/lang/invoke/MethodHandle" ∧ yX3_weight.cls ≠ "java/lang/invoke/VarHandle" ∧ (parseMethodDescriptor yX3_weight.desc).map (fun d => d.parameters.length) = some 2 := by decide +kernel
set_option maxHeartbeats 400000 in
set_option maxRecDepth 100000 in
theorem mX3_weight (l : Launch) (D : va_G) (cI cJ : ClassId) (a : Nat → Nat) (sz N : Nat) (σ : St) (p2 : Int32) (r : Int32) (hf : fX3_weight N σ p2 = some r) : Met l yX3_weight wsX3_weight rmX3_weight (RPre ([.ref (a 0), .int p2] : List Value) sz D (tyIJ cI cJ) (wAr cI a σ)) (RQi sz r) 0 0 (fr0 sz) := by
  refine R_start (cc := cX3_weight) (maxL := 4) (ret := (some .int)) (by decide) rfl (Nat.le_of_ble_eq_true rfl) (fun p e s m below meth c ls hx hb hr hml hown hts hlk hP hK hS hA hsz hl => ?_)
  have hown : s.vm.findClass RX3 = some m.cls := hown
  have hl : lv_has ls 4 [(0, .ref (a 0)), (1, .int p2)] := hl
  have b36 : ∀ (k8 : Int32 → Int32 → Int32 → Option Int32) (hk8 : (∀ (x1 : Int32) (x2 : Int32) (x3 : Int32) (H : Heap) (locs : List Loc) (ls : Array Slot), va_P D vwCl (wAr cI a σ) H → va_S (fr0 s.heap.size) s.heap H locs → lv_has ls 4 [(0, .ref (a 0)), (1, .int x1), (2, .int x2), (3, .int x3)] → k8 x1 x2 x3 = some r → W p l e rmX3_weight s m ([.ref (a 0), .int p2] : List Value).toArray below meth c H locs 0 0 (MQ below (RQi sz r) ([.ref (a 0), .int p2] : List Value).toArray s 0 0 (fr0 sz)) (F0 m 8 ls []))) (x1 : Int32) (x3 : Int32) (y0 : Int32) (y1 : Int32) (H : Heap) (locs : List Loc) (ls : Array Slot), va_P D vwCl (wAr cI a σ) H → va_S (fr0 s.heap.size) s.heap H locs → lv_has ls 4 [(0, .ref (a 0)), (1, .int x1), (3, .int x3)] → fX3_weight_L36 N σ k8 x1 x3 y0 y1 = some r → W p l e rmX3_weight s m ([.ref (a 0), .int p2] : List Value).toArray below meth c H locs 0 0 (MQ below (RQi sz r) ([.ref (a 0), .int p2] : List Value).toArray s 0 0 (fr0 sz)) (F0 m 36 ls [.int y0, .int y1]) := by
    intro k8 hk8 x1 x3 y0 y1 H locs ls hP hS hl hf
    unfold fX3_weight_L36 at hf
    refine lv_iadd hx hb dX3_weight_36 ?_
    refine k_let hf (fun v5 hf => ?_)
    refine lv_istore_n (lv' := [(2, .int v5), (0, .ref (a 0)), (1, .int x1), (3, .int x3)]) hx hb dX3_weight_37 rfl hl (by decide) rfl (fun ls hl => ?_)
    refine k_iinc (d := (1 : Int32)) (lv' := fun v6 => [(3, .int v6), (2, .int v5), (0, .ref (a 0)), (1, .int x1)]) hx hb dX3_weight_38 hl (k := 3) rfl (by decide) (by decide) (fun _ => rfl) hf (fun v6 ls hl hf => ?_)
    refine lv_goto (tgt := 8) hx hb dX3_weight_41 (by decide) ?_
    exact hk8 x1 v5 v6 H locs ls hP hS (lv_sub hl [2, 3, 1, 0] rfl) hf
  have b8 : ∀  (n : Nat) (x1 : Int32) (x2 : Int32) (x3 : Int32) (H : Heap) (locs : List Loc) (ls : Array Slot), va_P D vwCl (wAr cI a σ) H → va_S (fr0 s.heap.size) s.heap H locs → lv_has ls 4 [(0, .ref (a 0)), (1, .int x1), (2, .int x2), (3, .int x3)] → fX3_weight_L8 N σ n x1 x2 x3 = some r → W p l e rmX3_weight s m ([.ref (a 0), .int p2] : List Value).toArray below meth c H locs 0 0 (MQ below (RQi sz r) ([.ref (a 0), .int p2] : List Value).toArray s 0 0 (fr0 sz)) (F0 m 8 ls []) := by
    intro n
    induction n with
    | zero => intro x1 x2 x3 H locs ls hP hS hl hf; cases hf
    | succ n ih =>
      intro x1 x2 x3 H locs ls hP hS hl hf
      rw [fX3_weight_L8] at hf
      refine lv_iload_n hx hb dX3_weight_8 rfl (lv_at hl 3 rfl) ?_
      refine lv_aload_n hx hb dX3_weight_9 rfl (lv_at hl 0 rfl) ?_
      refine lv_iconst (v := (0 : Int32)) hx hb dX3_weight_10 (by decide) ?_
      refine k_iald hx hb hK hP 0 0 hf rfl rfl dX3_weight_11 (fun v2 hf => ?_)
      refine k_icmp_ge (tgt := 44) hx hb dX3_weight_12 (by decide) hf (fun hf => ?_) (fun hf => ?_)
      · refine lv_iload_n hx hb dX3_weight_44 rfl (lv_at hl 2 rfl) ?_
        exact R_iret hx hb hr hlk hS hsz hf dX3_weight_45
      · refine lv_iload_n hx hb dX3_weight_15 rfl (lv_at hl 2 rfl) ?_
        refine lv_aload_n hx hb dX3_weight_16 rfl (lv_at hl 0 rfl) ?_
        refine lv_iload_n hx hb dX3_weight_17 rfl (lv_at hl 3 rfl) ?_
        refine lv_iconst (v := (2 : Int32)) hx hb dX3_weight_18 (by decide) ?_
        refine c_callS (As := [.int x3, .int (2 : Int32)]) (rest := [.ref (a 0), .int x2]) ⟨hx, hb, hml, hown, hts⟩ hf (fun vq hq => mX3_of l D cI cJ H.size N x3 (2 : Int32) vq hq) (va_cwS 2 hts gX3_weight_X3_of rfl rfl rfl qX3_of ⟨Nat.le_of_ble_eq_true rfl, Nat.le_of_ble_eq_true rfl⟩) hK hP hS hA va_P_nil rfl hl.1 rfl (Nat.le_of_ble_eq_true rfl) dX3_weight_19 ⟨Nat.le_refl _, Nat.le_refl _⟩ (fun v3 H locs hP hS hf => ?_)
        refine k_iald hx hb hK hP 0 0 hf rfl rfl dX3_weight_22 (fun v4 hf => ?_)
        refine lv_iload_n hx hb dX3_weight_23 rfl (lv_at hl 1 rfl) ?_
        refine k_icmp_ne (tgt := 35) hx hb dX3_weight_24 (by decide) hf (fun hf => ?_) (fun hf => ?_)
        · refine lv_iconst (v := (0 : Int32)) hx hb dX3_weight_35 (by decide) ?_
          exact b36 (fX3_weight_L8 N σ n) ih x1 x3 (0 : Int32) x2 H locs ls hP hS (lv_sub hl [0, 1, 3] rfl) hf
        · refine lv_aload_n hx hb dX3_weight_27 rfl (lv_at hl 0 rfl) ?_
          refine lv_iload_n hx hb dX3_weight_28 rfl (lv_at hl 3 rfl) ?_
          refine c_callS (As := [.ref (a 0), .int x3]) (rest := [.int x2]) ⟨hx, hb, hml, hown, hts⟩ hf (fun vq hq => mX3_weighs l D cI cJ a H.size N σ x3 vq hq) (va_cwS 2 hts gX3_weight_X3_weighs rfl rfl rfl qX3_weighs ⟨Nat.le_of_ble_eq_true rfl, Nat.le_of_ble_eq_true rfl⟩) hK hP hS hA hP rfl hl.1 rfl (Nat.le_of_ble_eq_true rfl) dX3_weight_29 ⟨Nat.le_refl _, Nat.le_refl _⟩ (fun v7 H locs hP hS hf => ?_)
          refine lv_goto (tgt := 36) hx hb dX3_weight_32 (by decide) ?_
          exact b36 (fX3_weight_L8 N σ n) ih x1 x3 v7 x2 H locs ls hP hS (lv_sub hl [0, 1, 3] rfl) hf
  unfold fX3_weight at hf
  refine lv_aload_n hx hb dX3_weight_0 rfl (lv_at hl 0 rfl) ?_
  refine lv_iconst (v := (4 : Int32)) hx hb dX3_weight_1 (by decide) ?_
  refine lv_iload_n hx hb dX3_weight_2 rfl (lv_at hl 1 rfl) ?_
  refine lv_iadd hx hb dX3_weight_3 ?_
  refine k_iald hx hb hK hP 0 0 hf rfl rfl dX3_weight_4 (fun v1 hf => ?_)
  refine lv_istore_n (lv' := [(2, .int v1), (0, .ref (a 0)), (1, .int p2)]) hx hb dX3_weight_5 rfl hl (by decide) rfl (fun ls hl => ?_)
  refine lv_iconst (v := (0 : Int32)) hx hb dX3_weight_6 (by decide) ?_
  refine lv_istore_n (lv' := [(3, .int (0 : Int32)), (2, .int v1), (0, .ref (a 0)), (1, .int p2)]) hx hb dX3_weight_7 rfl hl (by decide) rfl (fun ls hl => ?_)
  exact b8  N p2 v1 (0 : Int32) s.heap [] ls hP hS (lv_sub hl [2, 3, 1, 0] rfl) hf
def fX3_pullIn (N : Nat) (σ : St)  : Option Int32 :=
    bo (fX3_weight N σ (0 : Int32)) (fun v1 =>
    bo (fX3_weight N σ (1 : Int32)) (fun v2 =>
    some (v1 - v2)))
abbrev rmX3_pullIn : Room := { frames := 5, cells := 0, slots := 0, locals := 112 }
theorem qX3_pullIn : yX3_pullIn.cls ≠ "java/lang/invoke/MethodHandle" ∧ yX3_pullIn.cls ≠ "java/lang/invoke/VarHandle" ∧ (parseMethodDescriptor yX3_pullIn.desc).map (fun d => d.parameters.length) = some 1 := by decide +kernel
set_option maxHeartbeats 400000 in
set_option maxRecDepth 100000 in
theorem mX3_pullIn (l : Launch) (D : va_G) (cI cJ : ClassId) (a : Nat → Nat) (sz N : Nat) (σ : St)  (r : Int32) (hf : fX3_pullIn N σ = some r) : Met l yX3_pullIn wsX3_pullIn rmX3_pullIn (RPre ([.ref (a 0)] : List Value) sz D (tyIJ cI cJ) (wAr cI a σ)) (RQi sz r) 0 0 (fr0 sz) := by
  refine R_start (cc := cX3_pullIn) (maxL := 1) (ret := (some .int)) (by decide) rfl (Nat.le_of_ble_eq_true rfl) (fun p e s m below meth c ls hx hb hr hml hown hts hlk hP hK hS hA hsz hl => ?_)
  have hown : s.vm.findClass RX3 = some m.cls := hown
  have hl : lv_has ls 1 [(0, .ref (a 0))] := hl
  unfold fX3_pullIn at hf
  refine lv_aload_n hx hb dX3_pullIn_0 rfl (lv_at hl 0 rfl) ?_
  refine lv_iconst (v := (0 : Int32)) hx hb dX3_pullIn_1 (by decide) ?_
  refine c_callS (As := [.ref (a 0), .int (0 : Int32)]) (rest := []) ⟨hx, hb, hml, hown, hts⟩ hf (fun vq hq => mX3_weight l D cI cJ a s.heap.size N σ (0 : Int32) vq hq) (va_cwS 2 hts gX3_pullIn_X3_weight rfl rfl rfl qX3_weight ⟨Nat.le_of_ble_eq_true rfl, Nat.le_of_ble_eq_true rfl⟩) hK hP hS hA hP rfl hl.1 rfl (Nat.le_of_ble_eq_true rfl) dX3_pullIn_2 ⟨Nat.le_refl _, Nat.le_refl _⟩ (fun v1 H locs hP hS hf => ?_)
  refine lv_aload_n hx hb dX3_pullIn_5 rfl (lv_at hl 0 rfl) ?_
  refine lv_iconst (v := (1 : Int32)) hx hb dX3_pullIn_6 (by decide) ?_
  refine c_callS (As := [.ref (a 0), .int (1 : Int32)]) (rest := [.int v1]) ⟨hx, hb, hml, hown, hts⟩ hf (fun vq hq => mX3_weight l D cI cJ a H.size N σ (1 : Int32) vq hq) (va_cwS 2 hts gX3_pullIn_X3_weight rfl rfl rfl qX3_weight ⟨Nat.le_of_ble_eq_true rfl, Nat.le_of_ble_eq_true rfl⟩) hK hP hS hA hP rfl hl.1 rfl (Nat.le_of_ble_eq_true rfl) dX3_pullIn_7 ⟨Nat.le_refl _, Nat.le_refl _⟩ (fun v2 H locs hP hS hf => ?_)
  refine lv_isub hx hb dX3_pullIn_10 ?_
  exact R_iret hx hb hr hlk hS hsz hf dX3_pullIn_11
def fX3_floorOf (N : Nat) (σ : St) (p2 : Int32) : Option Int32 :=
    if p2 = 0 then bo (rdI σ 0 38 (2 : Int32)) (fun v2 =>
    some v2)
    else bo (rdI σ 0 38 (2 : Int32)) (fun v1 =>
    some ((20 : Int32) - v1))
abbrev rmX3_floorOf : Room := { frames := 0, cells := 0, slots := 0, locals := 0 }
theorem qX3_floorOf : yX3_floorOf.cls ≠ "java/lang/invoke/MethodHandle" ∧ yX3_floorOf.cls ≠ "java/lang/invoke/VarHandle" ∧ (parseMethodDescriptor yX3_floorOf.desc).map (fun d => d.parameters.length) = some 2 := by decide +kernel
set_option maxHeartbeats 400000 in
set_option maxRecDepth 100000 in
theorem mX3_floorOf (l : Launch) (D : va_G) (cI cJ : ClassId) (a : Nat → Nat) (sz N : Nat) (σ : St) (p2 : Int32) (r : Int32) (hf : fX3_floorOf N σ p2 = some r) : Met l yX3_floorOf wsX3_floorOf rmX3_floorOf (RPre ([.ref (a 0), .int p2] : List Value) sz D (tyIJ cI cJ) (wAr cI a σ)) (RQi sz r) 0 0 (fr0 sz) := by
  refine R_start (cc := cX3_floorOf) (maxL := 2) (ret := (some .int)) (by decide) rfl (Nat.le_of_ble_eq_true rfl) (fun p e s m below meth c ls hx hb hr hml hown hts hlk hP hK hS hA hsz hl => ?_)
  have hown : s.vm.findClass RX3 = some m.cls := hown
  have hl : lv_has ls 2 [(0, .ref (a 0)), (1, .int p2)] := hl
  unfold fX3_floorOf at hf
  refine lv_iload_n hx hb dX3_floorOf_0 rfl (lv_at hl 1 rfl) ?_
  refine k_if_ne (tgt := 10) hx hb dX3_floorOf_1 (by decide) hf (fun hf => ?_) (fun hf => ?_)
  · refine lv_bipush (v := (20 : Int32)) hx hb dX3_floorOf_10 (by decide) ?_
    refine lv_aload_n hx hb dX3_floorOf_12 rfl (lv_at hl 0 rfl) ?_
    refine lv_iconst (v := (2 : Int32)) hx hb dX3_floorOf_13 (by decide) ?_
    refine k_iald hx hb hK hP 0 0 hf rfl rfl dX3_floorOf_14 (fun v1 hf => ?_)
    refine lv_isub hx hb dX3_floorOf_15 ?_
    exact R_iret hx hb hr hlk hS hsz hf dX3_floorOf_16
  · refine lv_aload_n hx hb dX3_floorOf_4 rfl (lv_at hl 0 rfl) ?_
    refine lv_iconst (v := (2 : Int32)) hx hb dX3_floorOf_5 (by decide) ?_
    refine k_iald hx hb hK hP 0 0 hf rfl rfl dX3_floorOf_6 (fun v2 hf => ?_)
    refine lv_goto (tgt := 16) hx hb dX3_floorOf_7 (by decide) ?_
    exact R_iret hx hb hr hlk hS hsz hf dX3_floorOf_16
def fX3_isAtDoor (N : Nat) (σ : St) (p2 : Int32) : Option Int32 :=
    bo (rdI σ 0 38 (3 : Int32)) (fun v1 =>
    bo (fX3_floorOf N σ p2) (fun v2 =>
    bo (fX3_has N v1 v2) (fun v3 =>
    zr v3)))
abbrev rmX3_isAtDoor : Room := { frames := 1, cells := 0, slots := 0, locals := 21 }
theorem qX3_isAtDoor : yX3_isAtDoor.cls ≠ "java/lang/invoke/MethodHandle" ∧ yX3_isAtDoor.cls ≠ "java/lang/invoke/VarHandle" ∧ (parseMethodDescriptor yX3_isAtDoor.desc).map (fun d => d.parameters.length) = some 2 := by decide +kernel
set_option maxHeartbeats 400000 in
set_option maxRecDepth 100000 in
theorem mX3_isAtDoor (l : Launch) (D : va_G) (cI cJ : ClassId) (a : Nat → Nat) (sz N : Nat) (σ : St) (p2 : Int32) (r : Int32) (hf : fX3_isAtDoor N σ p2 = some r) : Met l yX3_isAtDoor wsX3_isAtDoor rmX3_isAtDoor (RPre ([.ref (a 0), .int p2] : List Value) sz D (tyIJ cI cJ) (wAr cI a σ)) (RQi sz r) 0 0 (fr0 sz) := by
  refine R_start (cc := cX3_isAtDoor) (maxL := 2) (ret := (some .boolean)) (by decide) rfl (Nat.le_of_ble_eq_true rfl) (fun p e s m below meth c ls hx hb hr hml hown hts hlk hP hK hS hA hsz hl => ?_)
  have hown : s.vm.findClass RX3 = some m.cls := hown
  have hl : lv_has ls 2 [(0, .ref (a 0)), (1, .int p2)] := hl
  unfold fX3_isAtDoor at hf
  refine lv_aload_n hx hb dX3_isAtDoor_0 rfl (lv_at hl 0 rfl) ?_
  refine lv_iconst (v := (3 : Int32)) hx hb dX3_isAtDoor_1 (by decide) ?_
  refine k_iald hx hb hK hP 0 0 hf rfl rfl dX3_isAtDoor_2 (fun v1 hf => ?_)
  refine lv_aload_n hx hb dX3_isAtDoor_3 rfl (lv_at hl 0 rfl) ?_
  refine lv_iload_n hx hb dX3_isAtDoor_4 rfl (lv_at hl 1 rfl) ?_
  refine c_callS (As := [.ref (a 0), .int p2]) (rest := [.int v1]) ⟨hx, hb, hml, hown, hts⟩ hf (fun vq hq => mX3_floorOf l D cI cJ a s.heap.size N σ p2 vq hq) (va_cwS 2 hts gX3_isAtDoor_X3_floorOf rfl rfl rfl qX3_floorOf ⟨Nat.le_of_ble_eq_true rfl, Nat.le_of_ble_eq_true rfl⟩) hK hP hS hA hP rfl hl.1 rfl (Nat.le_of_ble_eq_true rfl) dX3_isAtDoor_5 ⟨Nat.le_refl _, Nat.le_refl _⟩ (fun v2 H locs hP hS hf => ?_)
  refine c_callS (As := [.int v1, .int v2]) (rest := []) ⟨hx, hb, hml, hown, hts⟩ hf (fun vq hq => mX3_has l D cI cJ H.size N v1 v2 vq hq) (va_cwS 2 hts gX3_isAtDoor_X3_has rfl rfl rfl qX3_has ⟨Nat.le_of_ble_eq_true rfl, Nat.le_of_ble_eq_true rfl⟩) hK hP hS hA va_P_nil rfl hl.1 rfl (Nat.le_of_ble_eq_true rfl) dX3_isAtDoor_8 ⟨Nat.le_refl _, Nat.le_refl _⟩ (fun v3 H locs hP hS hf => ?_)
  exact R_zret hx hb hr hlk hS hsz hf dX3_isAtDoor_11
def fX3_apart (N : Nat) (σ : St)  : Option Int32 :=
    bo (rdI σ 0 38 (2 : Int32)) (fun v1 =>
    bo (fX3_sized N (((2 : Int32) * v1) - (20 : Int32))) (fun v2 =>
    some v2))
abbrev rmX3_apart : Room := { frames := 1, cells := 0, slots := 0, locals := 20 }
theorem qX3_apart : yX3_apart.cls ≠ "java/lang/invoke/MethodHandle" ∧ yX3_apart.cls ≠ "java/lang/invoke/VarHandle" ∧ (parseMethodDescriptor yX3_apart.desc).map (fun d => d.parameters.length) = some 1 := by decide +kernel
set_option maxHeartbeats 400000 in
set_option maxRecDepth 100000 in
theorem mX3_apart (l : Launch) (D : va_G) (cI cJ : ClassId) (a : Nat → Nat) (sz N : Nat) (σ : St)  (r : Int32) (hf : fX3_apart N σ = some r) : Met l yX3_apart wsX3_apart rmX3_apart (RPre ([.ref (a 0)] : List Value) sz D (tyIJ cI cJ) (wAr cI a σ)) (RQi sz r) 0 0 (fr0 sz) := by
  refine R_start (cc := cX3_apart) (maxL := 1) (ret := (some .int)) (by decide) rfl (Nat.le_of_ble_eq_true rfl) (fun p e s m below meth c ls hx hb hr hml hown hts hlk hP hK hS hA hsz hl => ?_)
  have hown : s.vm.findClass RX3 = some m.cls := hown
  have hl : lv_has ls 1 [(0, .ref (a 0))] := hl
  unfold fX3_apart at hf
  refine lv_iconst (v := (2 : Int32)) hx hb dX3_apart_0 (by decide) ?_
  refine lv_aload_n hx hb dX3_apart_1 rfl (lv_at hl 0 rfl) ?_
  refine lv_iconst (v := (2 : Int32)) hx hb dX3_apart_2 (by decide) ?_
  refine k_iald hx hb hK hP 0 0 hf rfl rfl dX3_apart_3 (fun v1 hf => ?_)
  refine lv_imul hx hb dX3_apart_4 ?_
  refine lv_bipush (v := (20 : Int32)) hx hb dX3_apart_5 (by decide) ?_
  refine lv_isub hx hb dX3_apart_7 ?_
  refine c_callS (As := [.int (((2 : Int32) * v1) - (20 : Int32))]) (rest := []) ⟨hx, hb, hml, hown, hts⟩ hf (fun vq hq => mX3_sized l D cI cJ s.heap.size N (((2 : Int32) * v1) - (20 : Int32)) vq hq) (va_cwS 1 hts gX3_apart_X3_sized rfl rfl rfl qX3_sized ⟨Nat.le_of_ble_eq_true rfl, Nat.le_of_ble_eq_true rfl⟩) hK hP hS hA va_P_nil rfl hl.1 rfl (Nat.le_of_ble_eq_true rfl) dX3_apart_8 ⟨Nat.le_refl _, Nat.le_refl _⟩ (fun v2 H locs hP hS hf => ?_)
  exact R_iret hx hb hr hlk hS hsz hf dX3_apart_11
