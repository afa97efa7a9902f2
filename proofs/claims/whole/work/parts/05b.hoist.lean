def fX0_sinceOf (N : Nat) (σ : St) (p1 : Int32) : Option Int32 :=
    bo (fX0_has N σ p1) (fun v1 =>
    if v1 = 0 then some (0 : Int32)
    else bo (rdI σ 5 8 p1) (fun v2 =>
    some v2))
abbrev rmX0_sinceOf : Room := { frames := 1, cells := 0, slots := 0, locals := 21 }
theorem qX0_sinceOf : yX0_sinceOf.cls = RX0 ∧ yX0_sinceOf.cls ≠ "java/lang/invoke/MethodHandle" ∧ yX0_sinceOf.cls ≠ "java/lang/invoke/VarHandle" ∧ (parseMethodDescriptor yX0_sinceOf.desc).map (fun d => d.parameters.length) = some 1 := by decide +kernel
set_option maxHeartbeats 400000 in
set_option maxRecDepth 100000 in
theorem mX0_sinceOf (l : Launch) (D : va_G) (cI cJ : ClassId) (a : Nat → Nat) (sz N : Nat) (σ : St) (p1 : Int32) (r : Int32) (hf : fX0_sinceOf N σ p1 = some r) : Met l yX0_sinceOf wsX0_sinceOf rmX0_sinceOf (RPre ([.ref (a 0), .int p1] : List Value) sz D (tyIJ cI cJ) (wHo cI a σ)) (RQi sz r) 0 0 (fr0 sz) := by
  refine R_start (cc := cX0_sinceOf) (maxL := 2) (ret := (some .int)) (by decide) rfl (Nat.le_of_ble_eq_true rfl) (fun p e s m below meth c ls hx hb hr hml hown hts hlk hP hK hS hA hsz hl => ?_)
  have hown : s.vm.findClass RX0 = some m.cls := hown
  have hl : lv_has ls 2 [(0, .ref (a 0)), (1, .int p1)] := hl
  have ln1 := hts (Cond.fieldLink RX0 38 "HoistsAreShared$Hoist" "sinces" "[I") (List.mem_of_getElem? (i := 1) rfl)
  have inX0 : ∀ w ∈ u_ws RX0 TX0 9, w ∈ wsX0_sinceOf := fun _ h => List.mem_cons_of_mem _ (List.mem_append_right _ h)
  unfold fX0_sinceOf at hf
  refine lv_aload_n hx hb dX0_sinceOf_0 rfl (lv_at hl 0 rfl) ?_
  refine lv_iload_n hx hb dX0_sinceOf_1 rfl (lv_at hl 1 rfl) ?_
  refine c_callV (As := [.int p1]) (rest := []) ⟨hx, hb, hml, hown, hts⟩ hf (fun vq hq => mX0_has l D cI cJ a s.heap.size N σ p1 vq hq) (cwV 1 hts gX0_sinceOf_X0_has rfl rfl rfl qX0_has ⟨Nat.le_of_ble_eq_true rfl, Nat.le_of_ble_eq_true rfl⟩) hK hP hS hA hP 0 rfl rfl rfl rfl hl.1 rfl (Nat.le_of_ble_eq_true rfl) dX0_sinceOf_2 ⟨Nat.le_refl _, Nat.le_refl _⟩ (fun v1 H locs hP hS hf => ?_)
  refine k_if_eq (tgt := 17) hx hb dX0_sinceOf_5 (by decide) hf (fun hf => ?_) (fun hf => ?_)
  · refine lv_iconst (v := (0 : Int32)) hx hb dX0_sinceOf_17 (by decide) ?_
    exact R_iret hx hb hr hlk hS hsz hf dX0_sinceOf_18
  · refine lv_aload_n hx hb dX0_sinceOf_8 rfl (lv_at hl 0 rfl) ?_
    refine va_get (D := D) (ci := 0) (v := .ref (a 5)) (C := RX0) (T := TX0) (N := 9) hx hb hts inX0 hown hK hP 0 rfl rfl 8 (by decide) ln1 (fun _ h9 => h9) rfl dX0_sinceOf_9 ?_
    refine lv_iload_n hx hb dX0_sinceOf_12 rfl (lv_at hl 1 rfl) ?_
    refine k_iald hx hb hK hP 5 0 hf rfl rfl dX0_sinceOf_13 (fun v2 hf => ?_)
    refine lv_goto (tgt := 18) hx hb dX0_sinceOf_14 (by decide) ?_
    exact R_iret hx hb hr hlk hS hsz hf dX0_sinceOf_18
def fX0_ballastOf (N : Nat) (σ : St) (p1 : Int32) : Option Int32 :=
    bo (fX0_isSide N p1) (fun v1 =>
    if v1 = 0 then some (0 : Int32)
    else bo (rdI σ 1 2 p1) (fun v2 =>
    some v2))
abbrev rmX0_ballastOf : Room := { frames := 1, cells := 0, slots := 0, locals := 20 }
theorem qX0_ballastOf : yX0_ballastOf.cls = RX0 ∧ yX0_ballastOf.cls ≠ "java/lang/invoke/MethodHandle" ∧ yX0_ballastOf.cls ≠ "java/lang/invoke/VarHandle" ∧ (parseMethodDescriptor yX0_ballastOf.desc).map (fun d => d.parameters.length) = some 1 := by decide +kernel
set_option maxHeartbeats 400000 in
set_option maxRecDepth 100000 in
theorem mX0_ballastOf (l : Launch) (D : va_G) (cI cJ : ClassId) (a : Nat → Nat) (sz N : Nat) (σ : St) (p1 : Int32) (r : Int32) (hf : fX0_ballastOf N σ p1 = some r) : Met l yX0_ballastOf wsX0_ballastOf rmX0_ballastOf (RPre ([.ref (a 0), .int p1] : List Value) sz D (tyIJ cI cJ) (wHo cI a σ)) (RQi sz r) 0 0 (fr0 sz) := by
  refine R_start (cc := cX0_ballastOf) (maxL := 2) (ret := (some .int)) (by decide) rfl (Nat.le_of_ble_eq_true rfl) (fun p e s m below meth c ls hx hb hr hml hown hts hlk hP hK hS hA hsz hl => ?_)
  have hown : s.vm.findClass RX0 = some m.cls := hown
  have hl : lv_has ls 2 [(0, .ref (a 0)), (1, .int p1)] := hl
  have ln1 := hts (Cond.fieldLink RX0 25 "HoistsAreShared$Hoist" "ballasts" "[I") (List.mem_of_getElem? (i := 1) rfl)
  have inX0 : ∀ w ∈ u_ws RX0 TX0 9, w ∈ wsX0_ballastOf := fun _ h => List.mem_cons_of_mem _ (List.mem_append_right _ h)
  unfold fX0_ballastOf at hf
  refine lv_iload_n hx hb dX0_ballastOf_0 rfl (lv_at hl 1 rfl) ?_
  refine c_callS (As := [.int p1]) (rest := []) ⟨hx, hb, hml, hown, hts⟩ hf (fun vq hq => mX0_isSide l D cI cJ s.heap.size N p1 vq hq) (va_cwS 1 hts gX0_ballastOf_X0_isSide rfl rfl rfl qX0_isSide ⟨Nat.le_of_ble_eq_true rfl, Nat.le_of_ble_eq_true rfl⟩) hK hP hS hA va_P_nil rfl hl.1 rfl (Nat.le_of_ble_eq_true rfl) dX0_ballastOf_1 ⟨Nat.le_refl _, Nat.le_refl _⟩ (fun v1 H locs hP hS hf => ?_)
  refine k_if_eq (tgt := 16) hx hb dX0_ballastOf_4 (by decide) hf (fun hf => ?_) (fun hf => ?_)
  · refine lv_iconst (v := (0 : Int32)) hx hb dX0_ballastOf_16 (by decide) ?_
    exact R_iret hx hb hr hlk hS hsz hf dX0_ballastOf_17
  · refine lv_aload_n hx hb dX0_ballastOf_7 rfl (lv_at hl 0 rfl) ?_
    refine va_get (D := D) (ci := 0) (v := .ref (a 1)) (C := RX0) (T := TX0) (N := 9) hx hb hts inX0 hown hK hP 0 rfl rfl 4 (by decide) ln1 (fun _ h9 => h9) rfl dX0_ballastOf_8 ?_
    refine lv_iload_n hx hb dX0_ballastOf_11 rfl (lv_at hl 1 rfl) ?_
    refine k_iald hx hb hK hP 1 0 hf rfl rfl dX0_ballastOf_12 (fun v2 hf => ?_)
    refine lv_goto (tgt := 17) hx hb dX0_ballastOf_13 (by decide) ?_
    exact R_iret hx hb hr hlk hS hsz hf dX0_ballastOf_17
def fX0_bitsAt_L27 (N : Nat) (σ : St) (k4 : Int32 → Int32 → Int32 → Option Int32) (x1 : Int32) (x2 : Int32) (x3 : Int32) : Option Int32 :=
    lt_ (x3 + (1 : Int32) : Int32) (fun v2 =>
    k4 x1 x2 v2)
def fX0_bitsAt_L4 (N : Nat) (σ : St)  : Nat → Int32 → Int32 → Int32 → Option Int32
  | 0, _, _, _ => none
  | n + 1, x1, x2, x3 =>
    if (σ 0 3) ≤ x3 then some x2
    else bo (fX0_placeOf N σ x3) (fun v1 =>
    if v1 = x1 then lt_ ((x2 ||| ((1 : Int32) <<< (x3 &&& 31))) : Int32) (fun v3 =>
    fX0_bitsAt_L27 N σ (fX0_bitsAt_L4 N σ n) x1 v3 x3)
    else fX0_bitsAt_L27 N σ (fX0_bitsAt_L4 N σ n) x1 x2 x3)
def fX0_bitsAt (N : Nat) (σ : St) (p1 : Int32) : Option Int32 :=
    fX0_bitsAt_L4 N σ  N p1 (0 : Int32) (0 : Int32)
abbrev rmX0_bitsAt : Room := { frames := 2, cells := 0, slots := 0, locals := 42 }
theorem qX0_bitsAt : yX0_bitsAt.cls = RX0 ∧ yX0_bitsAt.cls ≠ "java/lang/invoke/MethodHandle" ∧ yX0_bitsAt.cls ≠ "java/lang/invoke/VarHandle" ∧ (parseMethodDescriptor yX0_bitsAt.desc).map (fun d => d.parameters.length) = some 1 := by decide +kernel
set_option maxHeartbeats 400000 in
set_option maxRecDepth 100000 in
theorem mX0_bitsAt (l : Launch) (D : va_G) (cI cJ : ClassId) (a : Nat → Nat) (sz N : Nat) (σ : St) (p1 : Int32) (r : Int32) (hf : fX0_bitsAt N σ p1 = some r) : Met l yX0_bitsAt wsX0_bitsAt rmX0_bitsAt (RPre ([.ref (a 0), .int p1] : List Value) sz D (tyIJ cI cJ) (wHo cI a σ)) (RQi sz r) 0 0 (fr0 sz) := by
  refine R_start (cc := cX0_bitsAt) (maxL := 4) (ret := (some .int)) (by decide) rfl (Nat.le_of_ble_eq_true rfl) (fun p e s m below meth c ls hx hb hr hml hown hts hlk hP hK hS hA hsz hl => ?_)
  have hown : s.vm.findClass RX0 = some m.cls := hown
  have hl : lv_has ls 4 [(0, .ref (a 0)), (1, .int p1)] := hl
  have ln1 := hts (Cond.fieldLink RX0 22 "HoistsAreShared$Hoist" "things" "I") (List.mem_of_getElem? (i := 1) rfl)
  have inX0 : ∀ w ∈ u_ws RX0 TX0 9, w ∈ wsX0_bitsAt := fun _ h => List.mem_cons_of_mem _ (List.mem_append_right _ h)
  have b27 : ∀ (k4 : Int32 → Int32 → Int32 → Option Int32) (hk4 : (∀ (x1 : Int32) (x2 : Int32) (x3 : Int32) (H : Heap) (locs : List Loc) (ls : Array Slot), va_P D vwCl (wHo cI a σ) H → va_S (fr0 s.heap.size) s.heap H locs → lv_has ls 4 [(0, .ref (a 0)), (1, .int x1), (2, .int x2), (3, .int x3)] → k4 x1 x2 x3 = some r → W p l e rmX0_bitsAt s m ([.ref (a 0), .int p1] : List Value).toArray below meth c H locs 0 0 (MQ below (RQi sz r) ([.ref (a 0), .int p1] : List Value).toArray s 0 0 (fr0 sz)) (F0 m 4 ls []))) (x1 : Int32) (x2 : Int32) (x3 : Int32) (H : Heap) (locs : List Loc) (ls : Array Slot), va_P D vwCl (wHo cI a σ) H → va_S (fr0 s.heap.size) s.heap H locs → lv_has ls 4 [(0, .ref (a 0)), (1, .int x1), (2, .int x2), (3, .int x3)] → fX0_bitsAt_L27 N σ k4 x1 x2 x3 = some r → W p l e rmX0_bitsAt s m ([.ref (a 0), .int p1] : List Value).toArray below meth c H locs 0 0 (MQ below (RQi sz r) ([.ref (a 0), .int p1] : List Value).toArray s 0 0 (fr0 sz)) (F0 m 27 ls []) := by
    intro k4 hk4 x1 x2 x3 H locs ls hP hS hl hf
    unfold fX0_bitsAt_L27 at hf
    refine k_iinc (d := (1 : Int32)) (lv' := fun v2 => [(3, .int v2), (0, .ref (a 0)), (1, .int x1), (2, .int x2)]) hx hb dX0_bitsAt_27 hl (k := 3) rfl (by decide) (by decide) (fun _ => rfl) hf (fun v2 ls hl hf => ?_)
    refine lv_goto (tgt := 4) hx hb dX0_bitsAt_30 (by decide) ?_
    exact hk4 x1 x2 v2 H locs ls hP hS (lv_sub hl [1, 2, 3, 0] rfl) hf
  have b4 : ∀  (n : Nat) (x1 : Int32) (x2 : Int32) (x3 : Int32) (H : Heap) (locs : List Loc) (ls : Array Slot), va_P D vwCl (wHo cI a σ) H → va_S (fr0 s.heap.size) s.heap H locs → lv_has ls 4 [(0, .ref (a 0)), (1, .int x1), (2, .int x2), (3, .int x3)] → fX0_bitsAt_L4 N σ n x1 x2 x3 = some r → W p l e rmX0_bitsAt s m ([.ref (a 0), .int p1] : List Value).toArray below meth c H locs 0 0 (MQ below (RQi sz r) ([.ref (a 0), .int p1] : List Value).toArray s 0 0 (fr0 sz)) (F0 m 4 ls []) := by
    intro n
    induction n with
    | zero => intro x1 x2 x3 H locs ls hP hS hl hf; cases hf
    | succ n ih =>
      intro x1 x2 x3 H locs ls hP hS hl hf
      rw [fX0_bitsAt_L4] at hf
      refine lv_iload_n hx hb dX0_bitsAt_4 rfl (lv_at hl 3 rfl) ?_
      refine lv_aload_n hx hb dX0_bitsAt_5 rfl (lv_at hl 0 rfl) ?_
      refine va_get (D := D) (ci := 0) (v := .int (σ 0 3)) (C := RX0) (T := TX0) (N := 9) hx hb hts inX0 hown hK hP 0 rfl rfl 3 (by decide) ln1 (fun _ h9 => h9) rfl dX0_bitsAt_6 ?_
      refine k_icmp_ge (tgt := 33) hx hb dX0_bitsAt_9 (by decide) hf (fun hf => ?_) (fun hf => ?_)
      · refine lv_iload_n hx hb dX0_bitsAt_33 rfl (lv_at hl 2 rfl) ?_
        exact R_iret hx hb hr hlk hS hsz hf dX0_bitsAt_34
      · refine lv_aload_n hx hb dX0_bitsAt_12 rfl (lv_at hl 0 rfl) ?_
        refine lv_iload_n hx hb dX0_bitsAt_13 rfl (lv_at hl 3 rfl) ?_
        refine c_callV (As := [.int x3]) (rest := []) ⟨hx, hb, hml, hown, hts⟩ hf (fun vq hq => mX0_placeOf l D cI cJ a H.size N σ x3 vq hq) (cwV 1 hts gX0_bitsAt_X0_placeOf rfl rfl rfl qX0_placeOf ⟨Nat.le_of_ble_eq_true rfl, Nat.le_of_ble_eq_true rfl⟩) hK hP hS hA hP 0 rfl rfl rfl rfl hl.1 rfl (Nat.le_of_ble_eq_true rfl) dX0_bitsAt_14 ⟨Nat.le_refl _, Nat.le_refl _⟩ (fun v1 H locs hP hS hf => ?_)
        refine lv_iload_n hx hb dX0_bitsAt_17 rfl (lv_at hl 1 rfl) ?_
        refine k_icmp_ne (tgt := 27) hx hb dX0_bitsAt_18 (by decide) hf (fun hf => ?_) (fun hf => ?_)
        · exact b27 (fX0_bitsAt_L4 N σ n) ih x1 x2 x3 H locs ls hP hS (lv_sub hl [0, 1, 2, 3] rfl) hf
        · refine lv_iload_n hx hb dX0_bitsAt_21 rfl (lv_at hl 2 rfl) ?_
          refine lv_iconst (v := (1 : Int32)) hx hb dX0_bitsAt_22 (by decide) ?_
          refine lv_iload_n hx hb dX0_bitsAt_23 rfl (lv_at hl 3 rfl) ?_
          refine lv_ishl hx hb dX0_bitsAt_24 ?_
          refine lv_ior hx hb dX0_bitsAt_25 ?_
          refine k_let hf (fun v3 hf => ?_)
          refine lv_istore_n (lv' := [(2, .int v3), (0, .ref (a 0)), (1, .int x1), (3, .int x3)]) hx hb dX0_bitsAt_26 rfl hl (by decide) rfl (fun ls hl => ?_)
          exact b27 (fX0_bitsAt_L4 N σ n) ih x1 v3 x3 H locs ls hP hS (lv_sub hl [1, 2, 0, 3] rfl) hf
  unfold fX0_bitsAt at hf
  refine lv_iconst (v := (0 : Int32)) hx hb dX0_bitsAt_0 (by decide) ?_
  refine lv_istore_n (lv' := [(2, .int (0 : Int32)), (0, .ref (a 0)), (1, .int p1)]) hx hb dX0_bitsAt_1 rfl hl (by decide) rfl (fun ls hl => ?_)
  refine lv_iconst (v := (0 : Int32)) hx hb dX0_bitsAt_2 (by decide) ?_
  refine lv_istore_n (lv' := [(3, .int (0 : Int32)), (2, .int (0 : Int32)), (0, .ref (a 0)), (1, .int p1)]) hx hb dX0_bitsAt_3 rfl hl (by decide) rfl (fun ls hl => ?_)
  exact b4  N p1 (0 : Int32) (0 : Int32) s.heap [] ls hP hS (lv_sub hl [2, 3, 1, 0] rfl) hf
def fX0_heightOf (N : Nat) (p1 : Int32) (p2 : Int32) : Option Int32 :=
    if p1 = 0 then some p2
    else some ((20 : Int32) - p2)
abbrev rmX0_heightOf : Room := { frames := 0, cells := 0, slots := 0, locals := 0 }
theorem qX0_heightOf : yX0_heightOf.cls ≠ "java/lang/invoke/MethodHandle" ∧ yX0_heightOf.cls ≠ "java/lang/invoke/VarHandle" ∧ (parseMethodDescriptor yX0_heightOf.desc).map (fun d => d.parameters.length) = some 2 := by decide +kernel
set_option maxHeartbeats 400000 in
set_option maxRecDepth 100000 in
theorem mX0_heightOf (l : Launch) (D : va_G) (cI cJ : ClassId) (sz N : Nat) (p1 : Int32) (p2 : Int32) (r : Int32) (hf : fX0_heightOf N p1 p2 = some r) : Met l yX0_heightOf wsX0_heightOf rmX0_heightOf (RPre ([.int p1, .int p2] : List Value) sz D (tyIJ cI cJ) (wNo)) (RQi sz r) 0 0 (fr0 sz) := by
  refine R_start (cc := cX0_heightOf) (maxL := 2) (ret := (some .int)) (by decide) rfl (Nat.le_of_ble_eq_true rfl) (fun p e s m below meth c ls hx hb hr hml hown hts hlk hP hK hS hA hsz hl => ?_)
  have hown : s.vm.findClass RX0 = some m.cls := hown
  have hl : lv_has ls 2 [(0, .int p1), (1, .int p2)] := hl
  unfold fX0_heightOf at hf
  refine lv_iload_n hx hb dX0_heightOf_0 rfl (lv_at hl 0 rfl) ?_
  refine k_if_ne (tgt := 8) hx hb dX0_heightOf_1 (by decide) hf (fun hf => ?_) (fun hf => ?_)
  · refine lv_bipush (v := (20 : Int32)) hx hb dX0_heightOf_8 (by decide) ?_
    refine lv_iload_n hx hb dX0_heightOf_10 rfl (lv_at hl 1 rfl) ?_
    refine lv_isub hx hb dX0_heightOf_11 ?_
    exact R_iret hx hb hr hlk hS hsz hf dX0_heightOf_12
  · refine lv_iload_n hx hb dX0_heightOf_4 rfl (lv_at hl 1 rfl) ?_
    refine lv_goto (tgt := 12) hx hb dX0_heightOf_5 (by decide) ?_
    exact R_iret hx hb hr hlk hS hsz hf dX0_heightOf_12
def fX0_isDoor (N : Nat) (σ : St) (p1 : Int32) : Option Int32 :=
    bo (fX0_isFloor N p1) (fun v1 =>
    if v1 = 0 then zr (0 : Int32)
    else if (((σ 0 1) >>> (p1 &&& 31)) &&& (1 : Int32)) = (1 : Int32) then zr (1 : Int32)
    else zr (0 : Int32))
abbrev rmX0_isDoor : Room := { frames := 1, cells := 0, slots := 0, locals := 20 }
theorem qX0_isDoor : yX0_isDoor.cls = RX0 ∧ yX0_isDoor.cls ≠ "java/lang/invoke/MethodHandle" ∧ yX0_isDoor.cls ≠ "java/lang/invoke/VarHandle" ∧ (parseMethodDescriptor yX0_isDoor.desc).map (fun d => d.parameters.length) = some 1 := by decide +kernel
set_option maxHeartbeats 400000 in
set_option maxRecDepth 100000 in
theorem mX0_isDoor (l : Launch) (D : va_G) (cI cJ : ClassId) (a : Nat → Nat) (sz N : Nat) (σ : St) (p1 : Int32) (r : Int32) (hf : fX0_isDoor N σ p1 = some r) : Met l yX0_isDoor wsX0_isDoor rmX0_isDoor (RPre ([.ref (a 0), .int p1] : List Value) sz D (tyIJ cI cJ) (wHo cI a σ)) (RQi sz r) 0 0 (fr0 sz) := by
  refine R_start (cc := cX0_isDoor) (maxL := 2) (ret := (some .boolean)) (by decide) rfl (Nat.le_of_ble_eq_true rfl) (fun p e s m below meth c ls hx hb hr hml hown hts hlk hP hK hS hA hsz hl => ?_)
  have hown : s.vm.findClass RX0 = some m.cls := hown
  have hl : lv_has ls 2 [(0, .ref (a 0)), (1, .int p1)] := hl
  have ln1 := hts (Cond.fieldLink RX0 16 "HoistsAreShared$Hoist" "doorBits" "I") (List.mem_of_getElem? (i := 1) rfl)
  have inX0 : ∀ w ∈ u_ws RX0 TX0 9, w ∈ wsX0_isDoor := fun _ h => List.mem_cons_of_mem _ (List.mem_append_right _ h)
  unfold fX0_isDoor at hf
  refine lv_iload_n hx hb dX0_isDoor_0 rfl (lv_at hl 1 rfl) ?_
  refine c_callS (As := [.int p1]) (rest := []) ⟨hx, hb, hml, hown, hts⟩ hf (fun vq hq => mX0_isFloor l D cI cJ s.heap.size N p1 vq hq) (va_cwS 1 hts gX0_isDoor_X0_isFloor rfl rfl rfl qX0_isFloor ⟨Nat.le_of_ble_eq_true rfl, Nat.le_of_ble_eq_true rfl⟩) hK hP hS hA va_P_nil rfl hl.1 rfl (Nat.le_of_ble_eq_true rfl) dX0_isDoor_1 ⟨Nat.le_refl _, Nat.le_refl _⟩ (fun v1 H locs hP hS hf => ?_)
  refine k_if_eq (tgt := 23) hx hb dX0_isDoor_4 (by decide) hf (fun hf => ?_) (fun hf => ?_)
  · refine lv_iconst (v := (0 : Int32)) hx hb dX0_isDoor_23 (by decide) ?_
    exact R_zret hx hb hr hlk hS hsz hf dX0_isDoor_24
  · refine lv_aload_n hx hb dX0_isDoor_7 rfl (lv_at hl 0 rfl) ?_
    refine va_get (D := D) (ci := 0) (v := .int (σ 0 1)) (C := RX0) (T := TX0) (N := 9) hx hb hts inX0 hown hK hP 0 rfl rfl 1 (by decide) ln1 (fun _ h9 => h9) rfl dX0_isDoor_8 ?_
    refine lv_iload_n hx hb dX0_isDoor_11 rfl (lv_at hl 1 rfl) ?_
    refine lv_ishr hx hb dX0_isDoor_12 ?_
    refine lv_iconst (v := (1 : Int32)) hx hb dX0_isDoor_13 (by decide) ?_
    refine lv_iand hx hb dX0_isDoor_14 ?_
    refine lv_iconst (v := (1 : Int32)) hx hb dX0_isDoor_15 (by decide) ?_
    refine k_icmp_ne (tgt := 23) hx hb dX0_isDoor_16 (by decide) hf (fun hf => ?_) (fun hf => ?_)
    · refine lv_iconst (v := (0 : Int32)) hx hb dX0_isDoor_23 (by decide) ?_
      exact R_zret hx hb hr hlk hS hsz hf dX0_isDoor_24
    · refine lv_iconst (v := (1 : Int32)) hx hb dX0_isDoor_19 (by decide) ?_
      refine lv_goto (tgt := 24) hx hb dX0_isDoor_20 (by decide) ?_
      exact R_zret hx hb hr hlk hS hsz hf dX0_isDoor_24
def fX0_nearestDoor_L59 (N : Nat) (σ : St) (k19 : Int32 → Int32 → Int32 → Int32 → Option Int32) (x2 : Int32) (x3 : Int32) (x4 : Int32) (x5 : Int32) : Option Int32 :=
    lt_ (x5 + (1 : Int32) : Int32) (fun v3 =>
    k19 x2 x3 x4 v3)
def fX0_nearestDoor_L19 (N : Nat) (σ : St)  : Nat → Int32 → Int32 → Int32 → Int32 → Option Int32
  | 0, _, _, _, _ => none
  | n + 1, x2, x3, x4, x5 =>
    if (20 : Int32) < x5 then some x3
    else bo (fX0_isDoor N σ x5) (fun v2 =>
    if v2 = 0 then fX0_nearestDoor_L59 N σ (fX0_nearestDoor_L19 N σ n) x2 x3 x4 x5
    else lt_ (absI (x5 - x2)) (fun v4 =>
    if x4 ≤ v4 then fX0_nearestDoor_L59 N σ (fX0_nearestDoor_L19 N σ n) x2 x3 x4 x5
    else lt_ (absI (x5 - x2)) (fun v5 =>
    fX0_nearestDoor_L59 N σ (fX0_nearestDoor_L19 N σ n) x2 x5 v5 x5)))
def fX0_nearestDoor (N : Nat) (σ : St) (p1 : Int32) : Option Int32 :=
    bo (fX0_heightOf N p1 (σ 0 0)) (fun v1 =>
    fX0_nearestDoor_L19 N σ  N v1 (-9 : Int32) (21 : Int32) (0 : Int32))
abbrev rmX0_nearestDoor : Room := { frames := 2, cells := 0, slots := 0, locals := 41 }
theorem qX0_nearestDoor : yX0_nearestDoor.cls = RX0 ∧ yX0_nearestDoor.cls ≠ "java/lang/invoke/MethodHandle" ∧ yX0_nearestDoor.cls ≠ "java/lang/invoke/VarHandle" ∧ (parseMethodDescriptor yX0_nearestDoor.desc).map (fun d => d.parameters.length) = some 1 := by decide +kernel
set_option maxHeartbeats 400000 in
set_option maxRecDepth 100000 in
theorem mX0_nearestDoor (l : Launch) (D : va_G) (cI cJ : ClassId) (a : Nat → Nat) (sz N : Nat) (σ : St) (p1 : Int32) (r : Int32) (hf : fX0_nearestDoor N σ p1 = some r) : Met l yX0_nearestDoor wsX0_nearestDoor rmX0_nearestDoor (RPre ([.ref (a 0), .int p1] : List Value) sz D (tyIJ cI cJ) (wHo cI a σ)) (RQi sz r) 0 0 (fr0 sz) := by
  refine R_start (cc := cX0_nearestDoor) (maxL := 6) (ret := (some .int)) (by decide) rfl (Nat.le_of_ble_eq_true rfl) (fun p e s m below meth c ls hx hb hr hml hown hts hlk hP hK hS hA hsz hl => ?_)
  have hown : s.vm.findClass RX0 = some m.cls := hown
  have hl : lv_has ls 6 [(0, .ref (a 0)), (1, .int p1)] := hl
  have ln1 := hts (Cond.fieldLink RX0 11 "HoistsAreShared$Hoist" "floor" "I") (List.mem_of_getElem? (i := 1) rfl)
  have inX0 : ∀ w ∈ u_ws RX0 TX0 9, w ∈ wsX0_nearestDoor := fun _ h => List.mem_cons_of_mem _ (List.mem_append_right _ h)
  have ln3 := hts (Cond.methodLink RX0 90 Lib.Math.abs.name) (List.mem_of_getElem? (i := 2) rfl)
  have ln4 := hts (Cond.static Lib.Math.abs.name) (List.mem_of_getElem? (i := 3) rfl)
  have ln5 := hts (Cond.initialized "java/lang/Math") (List.mem_of_getElem? (i := 4) rfl)
  have ln6 := hts (Cond.code Lib.Math.abs.name Lib.Math.abs.code 1 (some .int)) (List.mem_of_getElem? (i := 5) rfl)
  have b59 : ∀ (k19 : Int32 → Int32 → Int32 → Int32 → Option Int32) (hk19 : (∀ (x2 : Int32) (x3 : Int32) (x4 : Int32) (x5 : Int32) (H : Heap) (locs : List Loc) (ls : Array Slot), va_P D vwCl (wHo cI a σ) H → va_S (fr0 s.heap.size) s.heap H locs → lv_has ls 6 [(0, .ref (a 0)), (2, .int x2), (3, .int x3), (4, .int x4), (5, .int x5)] → k19 x2 x3 x4 x5 = some r → W p l e rmX0_nearestDoor s m ([.ref (a 0), .int p1] : List Value).toArray below meth c H locs 0 0 (MQ below (RQi sz r) ([.ref (a 0), .int p1] : List Value).toArray s 0 0 (fr0 sz)) (F0 m 19 ls []))) (x2 : Int32) (x3 : Int32) (x4 : Int32) (x5 : Int32) (H : Heap) (locs : List Loc) (ls : Array Slot), va_P D vwCl (wHo cI a σ) H → va_S (fr0 s.heap.size) s.heap H locs → lv_has ls 6 [(0, .ref (a 0)), (2, .int x2), (3, .int x3), (4, .int x4), (5, .int x5)] → fX0_nearestDoor_L59 N σ k19 x2 x3 x4 x5 = some r → W p l e rmX0_nearestDoor s m ([.ref (a 0), .int p1] : List Value).toArray below meth c H locs 0 0 (MQ below (RQi sz r) ([.ref (a 0), .int p1] : List Value).toArray s 0 0 (fr0 sz)) (F0 m 59 ls []) := by
    intro k19 hk19 x2 x3 x4 x5 H locs ls hP hS hl hf
    unfold fX0_nearestDoor_L59 at hf
    refine k_iinc (d := (1 : Int32)) (lv' := fun v3 => [(5, .int v3), (0, .ref (a 0)), (2, .int x2), (3, .int x3), (4, .int x4)]) hx hb dX0_nearestDoor_59 hl (k := 4) rfl (by decide) (by decide) (fun _ => rfl) hf (fun v3 ls hl hf => ?_)
    refine lv_goto (tgt := 19) hx hb dX0_nearestDoor_62 (by decide) ?_
    exact hk19 x2 x3 x4 v3 H locs ls hP hS (lv_sub hl [1, 2, 3, 4, 0] rfl) hf
  have b19 : ∀  (n : Nat) (x2 : Int32) (x3 : Int32) (x4 : Int32) (x5 : Int32) (H : Heap) (locs : List Loc) (ls : Array Slot), va_P D vwCl (wHo cI a σ) H → va_S (fr0 s.heap.size) s.heap H locs → lv_has ls 6 [(0, .ref (a 0)), (2, .int x2), (3, .int x3), (4, .int x4), (5, .int x5)] → fX0_nearestDoor_L19 N σ n x2 x3 x4 x5 = some r → W p l e rmX0_nearestDoor s m ([.ref (a 0), .int p1] : List Value).toArray below meth c H locs 0 0 (MQ below (RQi sz r) ([.ref (a 0), .int p1] : List Value).toArray s 0 0 (fr0 sz)) (F0 m 19 ls []) := by
    intro n
    induction n with
    | zero => intro x2 x3 x4 x5 H locs ls hP hS hl hf; cases hf
    | succ n ih =>
      intro x2 x3 x4 x5 H locs ls hP hS hl hf
      rw [fX0_nearestDoor_L19] at hf
      refine lv_iload hx hb dX0_nearestDoor_19 (lv_at hl 4 rfl) ?_
      refine lv_bipush (v := (20 : Int32)) hx hb dX0_nearestDoor_21 (by decide) ?_
      refine k_icmp_gt (tgt := 65) hx hb dX0_nearestDoor_23 (by decide) hf (fun hf => ?_) (fun hf => ?_)
      · refine lv_iload_n hx hb dX0_nearestDoor_65 rfl (lv_at hl 2 rfl) ?_
        exact R_iret hx hb hr hlk hS hsz hf dX0_nearestDoor_66
      · refine lv_aload_n hx hb dX0_nearestDoor_26 rfl (lv_at hl 0 rfl) ?_
        refine lv_iload hx hb dX0_nearestDoor_27 (lv_at hl 4 rfl) ?_
        refine c_callV (As := [.int x5]) (rest := []) ⟨hx, hb, hml, hown, hts⟩ hf (fun vq hq => mX0_isDoor l D cI cJ a H.size N σ x5 vq hq) (cwV 1 hts gX0_nearestDoor_X0_isDoor rfl rfl rfl qX0_isDoor ⟨Nat.le_of_ble_eq_true rfl, Nat.le_of_ble_eq_true rfl⟩) hK hP hS hA hP 0 rfl rfl rfl rfl hl.1 rfl (Nat.le_of_ble_eq_true rfl) dX0_nearestDoor_29 ⟨Nat.le_refl _, Nat.le_refl _⟩ (fun v2 H locs hP hS hf => ?_)
        refine k_if_eq (tgt := 59) hx hb dX0_nearestDoor_32 (by decide) hf (fun hf => ?_) (fun hf => ?_)
        · exact b59 (fX0_nearestDoor_L19 N σ n) ih x2 x3 x4 x5 H locs ls hP hS (lv_sub hl [0, 1, 2, 3, 4] rfl) hf
        · refine lv_iload hx hb dX0_nearestDoor_35 (lv_at hl 4 rfl) ?_
          refine lv_iload_n hx hb dX0_nearestDoor_37 rfl (lv_at hl 1 rfl) ?_
          refine lv_isub hx hb dX0_nearestDoor_38 ?_
          refine k_mabs hx hb (hml.trans hl.1.symm) hown ln3 ln4 ln5 ln6 (Nat.le_of_ble_eq_true rfl) (Nat.le_of_ble_eq_true rfl) (Nat.zero_le _) (Nat.zero_le _) dX0_nearestDoor_39 hf (fun v4 hf => ?_)
          refine lv_iload hx hb dX0_nearestDoor_42 (lv_at hl 3 rfl) ?_
          refine k_icmp_ge (tgt := 59) hx hb dX0_nearestDoor_44 (by decide) hf (fun hf => ?_) (fun hf => ?_)
          · exact b59 (fX0_nearestDoor_L19 N σ n) ih x2 x3 x4 x5 H locs ls hP hS (lv_sub hl [0, 1, 2, 3, 4] rfl) hf
          · refine lv_iload hx hb dX0_nearestDoor_47 (lv_at hl 4 rfl) ?_
            refine lv_iload_n hx hb dX0_nearestDoor_49 rfl (lv_at hl 1 rfl) ?_
            refine lv_isub hx hb dX0_nearestDoor_50 ?_
            refine k_mabs hx hb (hml.trans hl.1.symm) hown ln3 ln4 ln5 ln6 (Nat.le_of_ble_eq_true rfl) (Nat.le_of_ble_eq_true rfl) (Nat.zero_le _) (Nat.zero_le _) dX0_nearestDoor_51 hf (fun v5 hf => ?_)
            refine lv_istore (lv' := [(4, .int v5), (0, .ref (a 0)), (2, .int x2), (3, .int x3), (5, .int x5)]) hx hb dX0_nearestDoor_54 hl (by decide) rfl (fun ls hl => ?_)
            refine lv_iload hx hb dX0_nearestDoor_56 (lv_at hl 4 rfl) ?_
            refine lv_istore_n (lv' := [(3, .int x5), (4, .int v5), (0, .ref (a 0)), (2, .int x2), (5, .int x5)]) hx hb dX0_nearestDoor_58 rfl hl (by decide) rfl (fun ls hl => ?_)
            exact b59 (fX0_nearestDoor_L19 N σ n) ih x2 x5 v5 x5 H locs ls hP hS (lv_sub hl [2, 3, 0, 1, 4] rfl) hf
  unfold fX0_nearestDoor at hf
  refine lv_iload_n hx hb dX0_nearestDoor_0 rfl (lv_at hl 1 rfl) ?_
  refine lv_aload_n hx hb dX0_nearestDoor_1 rfl (lv_at hl 0 rfl) ?_
  refine va_get (D := D) (ci := 0) (v := .int (σ 0 0)) (C := RX0) (T := TX0) (N := 9) hx hb hts inX0 hown hK hP 0 rfl rfl 0 (by decide) ln1 (fun _ h9 => h9) rfl dX0_nearestDoor_2 ?_
  refine c_callS (As := [.int p1, .int (σ 0 0)]) (rest := []) ⟨hx, hb, hml, hown, hts⟩ hf (fun vq hq => mX0_heightOf l D cI cJ s.heap.size N p1 (σ 0 0) vq hq) (va_cwS 2 hts gX0_nearestDoor_X0_heightOf rfl rfl rfl qX0_heightOf ⟨Nat.le_of_ble_eq_true rfl, Nat.le_of_ble_eq_true rfl⟩) hK hP hS hA va_P_nil rfl hl.1 rfl (Nat.le_of_ble_eq_true rfl) dX0_nearestDoor_5 ⟨Nat.le_refl _, Nat.le_refl _⟩ (fun v1 H locs hP hS hf => ?_)
  refine lv_istore_n (lv' := [(2, .int v1), (0, .ref (a 0)), (1, .int p1)]) hx hb dX0_nearestDoor_8 rfl hl (by decide) rfl (fun ls hl => ?_)
  refine lv_bipush (v := (-9 : Int32)) hx hb dX0_nearestDoor_9 (by decide) ?_
  refine lv_istore_n (lv' := [(3, .int (-9 : Int32)), (2, .int v1), (0, .ref (a 0)), (1, .int p1)]) hx hb dX0_nearestDoor_11 rfl hl (by decide) rfl (fun ls hl => ?_)
  refine lv_bipush (v := (21 : Int32)) hx hb dX0_nearestDoor_12 (by decide) ?_
  refine lv_istore (lv' := [(4, .int (21 : Int32)), (3, .int (-9 : Int32)), (2, .int v1), (0, .ref (a 0)), (1, .int p1)]) hx hb dX0_nearestDoor_14 hl (by decide) rfl (fun ls hl => ?_)
  refine lv_iconst (v := (0 : Int32)) hx hb dX0_nearestDoor_16 (by decide) ?_
  refine lv_istore (lv' := [(5, .int (0 : Int32)), (4, .int (21 : Int32)), (3, .int (-9 : Int32)), (2, .int v1), (0, .ref (a 0)), (1, .int p1)]) hx hb dX0_nearestDoor_17 hl (by decide) rfl (fun ls hl => ?_)
  exact b19  N v1 (-9 : Int32) (21 : Int32) (0 : Int32) H locs ls hP hS (lv_sub hl [4, 3, 2, 1, 0] rfl) hf
def fX0_weightOf_L34 (N : Nat) (σ : St) (k8 : Int32 → Int32 → Int32 → Option Int32) (x1 : Int32) (x2 : Int32) (x3 : Int32) : Option Int32 :=
    lt_ (x3 + (1 : Int32) : Int32) (fun v3 =>
    k8 x1 x2 v3)
def fX0_weightOf_L8 (N : Nat) (σ : St)  : Nat → Int32 → Int32 → Int32 → Option Int32
  | 0, _, _, _ => none
  | n + 1, x1, x2, x3 =>
    if (σ 0 3) ≤ x3 then some x2
    else bo (fX0_placeOf N σ x3) (fun v2 =>
    if v2 = x1 then bo (fX0_weighs N σ x3 (0 : Int32)) (fun v4 =>
    lt_ ((x2 + v4) : Int32) (fun v5 =>
    fX0_weightOf_L34 N σ (fX0_weightOf_L8 N σ n) x1 v5 x3))
    else fX0_weightOf_L34 N σ (fX0_weightOf_L8 N σ n) x1 x2 x3)
def fX0_weightOf (N : Nat) (σ : St) (p1 : Int32) : Option Int32 :=
    bo (fX0_ballastOf N σ p1) (fun v1 =>
    fX0_weightOf_L8 N σ  N p1 v1 (0 : Int32))
abbrev rmX0_weightOf : Room := { frames := 2, cells := 0, slots := 0, locals := 49 }
theorem qX0_weightOf : yX0_weightOf.cls = RX0 ∧ yX0_weightOf.cls ≠ "java/lang/invoke/MethodHandle" ∧ yX0_weightOf.cls ≠ "java/lang/invoke/VarHandle" ∧ (parseMethodDescriptor yX0_weightOf.desc).map (fun d => d.parameters.length) = some 1 := by decide +kernel
set_option maxHeartbeats 400000 in
set_option maxRecDepth 100000 in
theorem mX0_weightOf (l : Launch) (D : va_G) (cI cJ : ClassId) (a : Nat → Nat) (sz N : Nat) (σ : St) (p1 : Int32) (r : Int32) (hf : fX0_weightOf N σ p1 = some r) : Met l yX0_weightOf wsX0_weightOf rmX0_weightOf (RPre ([.ref (a 0), .int p1] : List Value) sz D (tyIJ cI cJ) (wHo cI a σ)) (RQi sz r) 0 0 (fr0 sz) := by
  refine R_start (cc := cX0_weightOf) (maxL := 4) (ret := (some .int)) (by decide) rfl (Nat.le_of_ble_eq_true rfl) (fun p e s m below meth c ls hx hb hr hml hown hts hlk hP hK hS hA hsz hl => ?_)
  have hown : s.vm.findClass RX0 = some m.cls := hown
  have hl : lv_has ls 4 [(0, .ref (a 0)), (1, .int p1)] := hl
  have ln1 := hts (Cond.fieldLink RX0 22 "HoistsAreShared$Hoist" "things" "I") (List.mem_of_getElem? (i := 1) rfl)
  have inX0 : ∀ w ∈ u_ws RX0 TX0 9, w ∈ wsX0_weightOf := fun _ h => List.mem_cons_of_mem _ (List.mem_append_right _ h)
  have b34 : ∀ (k8 : Int32 → Int32 → Int32 → Option Int32) (hk8 : (∀ (x1 : Int32) (x2 : Int32) (x3 : Int32) (H : Heap) (locs : List Loc) (ls : Array Slot), va_P D vwCl (wHo cI a σ) H → va_S (fr0 s.heap.size) s.heap H locs → lv_has ls 4 [(0, .ref (a 0)), (1, .int x1), (2, .int x2), (3, .int x3)] → k8 x1 x2 x3 = some r → W p l e rmX0_weightOf s m ([.ref (a 0), .int p1] : List Value).toArray below meth c H locs 0 0 (MQ below (RQi sz r) ([.ref (a 0), .int p1] : List Value).toArray s 0 0 (fr0 sz)) (F0 m 8 ls []))) (x1 : Int32) (x2 : Int32) (x3 : Int32) (H : Heap) (locs : List Loc) (ls : Array Slot), va_P D vwCl (wHo cI a σ) H → va_S (fr0 s.heap.size) s.heap H locs → lv_has ls 4 [(0, .ref (a 0)), (1, .int x1), (2, .int x2), (3, .int x3)] → fX0_weightOf_L34 N σ k8 x1 x2 x3 = some r → W p l e rmX0_weightOf s m ([.ref (a 0), .int p1] : List Value).toArray below meth c H locs 0 0 (MQ below (RQi sz r) ([.ref (a 0), .int p1] : List Value).toArray s 0 0 (fr0 sz)) (F0 m 34 ls []) := by
    intro k8 hk8 x1 x2 x3 H locs ls hP hS hl hf
    unfold fX0_weightOf_L34 at hf
    refine k_iinc (d := (1 : Int32)) (lv' := fun v3 => [(3, .int v3), (0, .ref (a 0)), (1, .int x1), (2, .int x2)]) hx hb dX0_weightOf_34 hl (k := 3) rfl (by decide) (by decide) (fun _ => rfl) hf (fun v3 ls hl hf => ?_)
    refine lv_goto (tgt := 8) hx hb dX0_weightOf_37 (by decide) ?_
    exact hk8 x1 x2 v3 H locs ls hP hS (lv_sub hl [1, 2, 3, 0] rfl) hf
  have b8 : ∀  (n : Nat) (x1 : Int32) (x2 : Int32) (x3 : Int32) (H : Heap) (locs : List Loc) (ls : Array Slot), va_P D vwCl (wHo cI a σ) H → va_S (fr0 s.heap.size) s.heap H locs → lv_has ls 4 [(0, .ref (a 0)), (1, .int x1), (2, .int x2), (3, .int x3)] → fX0_weightOf_L8 N σ n x1 x2 x3 = some r → W p l e rmX0_weightOf s m ([.ref (a 0), .int p1] : List Value).toArray below meth c H locs 0 0 (MQ below (RQi sz r) ([.ref (a 0), .int p1] : List Value).toArray s 0 0 (fr0 sz)) (F0 m 8 ls []) := by
    intro n
    induction n with
    | zero => intro x1 x2 x3 H locs ls hP hS hl hf; cases hf
    | succ n ih =>
      intro x1 x2 x3 H locs ls hP hS hl hf
      rw [fX0_weightOf_L8] at hf
      refine lv_iload_n hx hb dX0_weightOf_8 rfl (lv_at hl 3 rfl) ?_
      refine lv_aload_n hx hb dX0_weightOf_9 rfl (lv_at hl 0 rfl) ?_
      refine va_get (D := D) (ci := 0) (v := .int (σ 0 3)) (C := RX0) (T := TX0) (N := 9) hx hb hts inX0 hown hK hP 0 rfl rfl 3 (by decide) ln1 (fun _ h9 => h9) rfl dX0_weightOf_10 ?_
      refine k_icmp_ge (tgt := 40) hx hb dX0_weightOf_13 (by decide) hf (fun hf => ?_) (fun hf => ?_)
      · refine lv_iload_n hx hb dX0_weightOf_40 rfl (lv_at hl 2 rfl) ?_
        exact R_iret hx hb hr hlk hS hsz hf dX0_weightOf_41
      · refine lv_aload_n hx hb dX0_weightOf_16 rfl (lv_at hl 0 rfl) ?_
        refine lv_iload_n hx hb dX0_weightOf_17 rfl (lv_at hl 3 rfl) ?_
        refine c_callV (As := [.int x3]) (rest := []) ⟨hx, hb, hml, hown, hts⟩ hf (fun vq hq => mX0_placeOf l D cI cJ a H.size N σ x3 vq hq) (cwV 1 hts gX0_weightOf_X0_placeOf rfl rfl rfl qX0_placeOf ⟨Nat.le_of_ble_eq_true rfl, Nat.le_of_ble_eq_true rfl⟩) hK hP hS hA hP 0 rfl rfl rfl rfl hl.1 rfl (Nat.le_of_ble_eq_true rfl) dX0_weightOf_18 ⟨Nat.le_refl _, Nat.le_refl _⟩ (fun v2 H locs hP hS hf => ?_)
        refine lv_iload_n hx hb dX0_weightOf_21 rfl (lv_at hl 1 rfl) ?_
        refine k_icmp_ne (tgt := 34) hx hb dX0_weightOf_22 (by decide) hf (fun hf => ?_) (fun hf => ?_)
        · exact b34 (fX0_weightOf_L8 N σ n) ih x1 x2 x3 H locs ls hP hS (lv_sub hl [0, 1, 2, 3] rfl) hf
        · refine lv_iload_n hx hb dX0_weightOf_25 rfl (lv_at hl 2 rfl) ?_
          refine lv_aload_n hx hb dX0_weightOf_26 rfl (lv_at hl 0 rfl) ?_
          refine lv_iload_n hx hb dX0_weightOf_27 rfl (lv_at hl 3 rfl) ?_
          refine lv_iconst (v := (0 : Int32)) hx hb dX0_weightOf_28 (by decide) ?_
          refine c_callV (As := [.int x3, .int (0 : Int32)]) (rest := [.int x2]) ⟨hx, hb, hml, hown, hts⟩ hf (fun vq hq => mX0_weighs l D cI cJ a H.size N σ x3 (0 : Int32) vq hq) (cwV 2 hts gX0_weightOf_X0_weighs rfl rfl rfl qX0_weighs ⟨Nat.le_of_ble_eq_true rfl, Nat.le_of_ble_eq_true rfl⟩) hK hP hS hA hP 0 rfl rfl rfl rfl hl.1 rfl (Nat.le_of_ble_eq_true rfl) dX0_weightOf_29 ⟨Nat.le_refl _, Nat.le_refl _⟩ (fun v4 H locs hP hS hf => ?_)
          refine lv_iadd hx hb dX0_weightOf_32 ?_
          refine k_let hf (fun v5 hf => ?_)
          refine lv_istore_n (lv' := [(2, .int v5), (0, .ref (a 0)), (1, .int x1), (3, .int x3)]) hx hb dX0_weightOf_33 rfl hl (by decide) rfl (fun ls hl => ?_)
          exact b34 (fX0_weightOf_L8 N σ n) ih x1 v5 x3 H locs ls hP hS (lv_sub hl [1, 2, 0, 3] rfl) hf
  unfold fX0_weightOf at hf
  refine lv_aload_n hx hb dX0_weightOf_0 rfl (lv_at hl 0 rfl) ?_
  refine lv_iload_n hx hb dX0_weightOf_1 rfl (lv_at hl 1 rfl) ?_
  refine c_callV (As := [.int p1]) (rest := []) ⟨hx, hb, hml, hown, hts⟩ hf (fun vq hq => mX0_ballastOf l D cI cJ a s.heap.size N σ p1 vq hq) (cwV 1 hts gX0_weightOf_X0_ballastOf rfl rfl rfl qX0_ballastOf ⟨Nat.le_of_ble_eq_true rfl, Nat.le_of_ble_eq_true rfl⟩) hK hP hS hA hP 0 rfl rfl rfl rfl hl.1 rfl (Nat.le_of_ble_eq_true rfl) dX0_weightOf_2 ⟨Nat.le_refl _, Nat.le_refl _⟩ (fun v1 H locs hP hS hf => ?_)
  refine lv_istore_n (lv' := [(2, .int v1), (0, .ref (a 0)), (1, .int p1)]) hx hb dX0_weightOf_5 rfl hl (by decide) rfl (fun ls hl => ?_)
  refine lv_iconst (v := (0 : Int32)) hx hb dX0_weightOf_6 (by decide) ?_
  refine lv_istore_n (lv' := [(3, .int (0 : Int32)), (2, .int v1), (0, .ref (a 0)), (1, .int p1)]) hx hb dX0_weightOf_7 rfl hl (by decide) rfl (fun ls hl => ?_)
  exact b8  N p1 v1 (0 : Int32) H locs ls hP hS (lv_sub hl [2, 3, 1, 0] rfl) hf
def fX0_isKind (N : Nat) (p1 : Int32) : Option Int32 :=
    if p1 < 0 then zr (0 : Int32)
    else if (6 : Int32) ≤ p1 then zr (0 : Int32)
    else zr (1 : Int32)
abbrev rmX0_isKind : Room := { frames := 0, cells := 0, slots := 0, locals := 0 }
theorem qX0_isKind : yX0_isKind.cls ≠ "java/lang/invoke/MethodHandle" ∧ yX0_isKind.cls ≠ "java/lang/invoke/VarHandle" ∧ (parseMethodDescriptor yX0_isKind.desc).map (fun d => d.parameters.length) = some 1 := by decide +kernel
set_option maxHeartbeats 400000 in
set_option maxRecDepth 100000 in
theorem mX0_isKind (l : Launch) (D : va_G) (cI cJ : ClassId) (sz N : Nat) (p1 : Int32) (r : Int32) (hf : fX0_isKind N p1 = some r) : Met l yX0_isKind wsX0_isKind rmX0_isKind (RPre ([.int p1] : List Value) sz D (tyIJ cI cJ) (wNo)) (RQi sz r) 0 0 (fr0 sz) := by
  refine R_start (cc := cX0_isKind) (maxL := 1) (ret := (some .boolean)) (by decide) rfl (Nat.le_of_ble_eq_true rfl) (fun p e s m below meth c ls hx hb hr hml hown hts hlk hP hK hS hA hsz hl => ?_)
  have hown : s.vm.findClass RX0 = some m.cls := hown
  have hl : lv_has ls 1 [(0, .int p1)] := hl
  unfold fX0_isKind at hf
  refine lv_iload_n hx hb dX0_isKind_0 rfl (lv_at hl 0 rfl) ?_
  refine k_if_lt (tgt := 14) hx hb dX0_isKind_1 (by decide) hf (fun hf => ?_) (fun hf => ?_)
  · refine lv_iconst (v := (0 : Int32)) hx hb dX0_isKind_14 (by decide) ?_
    exact R_zret hx hb hr hlk hS hsz hf dX0_isKind_15
  · refine lv_iload_n hx hb dX0_isKind_4 rfl (lv_at hl 0 rfl) ?_
    refine lv_bipush (v := (6 : Int32)) hx hb dX0_isKind_5 (by decide) ?_
    refine k_icmp_ge (tgt := 14) hx hb dX0_isKind_7 (by decide) hf (fun hf => ?_) (fun hf => ?_)
    · refine lv_iconst (v := (0 : Int32)) hx hb dX0_isKind_14 (by decide) ?_
      exact R_zret hx hb hr hlk hS hsz hf dX0_isKind_15
    · refine lv_iconst (v := (1 : Int32)) hx hb dX0_isKind_10 (by decide) ?_
      refine lv_goto (tgt := 15) hx hb dX0_isKind_11 (by decide) ?_
      exact R_zret hx hb hr hlk hS hsz hf dX0_isKind_15
def fX0_floorAfter_L7 (N : Nat) (σ : St)  : Nat → Int32 → Int32 → Int32 → Option Int32
  | 0, _, _, _ => none
  | n + 1, x1, x2, x3 =>
    if x1 < x3 then some x2
    else bo (fX0_pullAfter N σ x3) (fun v1 =>
    bo (fX0_moved N x2 v1) (fun v2 =>
    lt_ (x3 + (1 : Int32) : Int32) (fun v3 =>
    (fX0_floorAfter_L7 N σ n) x1 v2 v3)))
def fX0_floorAfter (N : Nat) (σ : St) (p1 : Int32) : Option Int32 :=
    fX0_floorAfter_L7 N σ  N p1 (σ 0 0) (1 : Int32)
abbrev rmX0_floorAfter : Room := { frames := 3, cells := 0, slots := 0, locals := 72 }
theorem qX0_floorAfter : yX0_floorAfter.cls = RX0 ∧ yX0_floorAfter.cls ≠ "java/lang/invoke/MethodHandle" ∧ yX0_floorAfter.cls ≠ "java/lang/invoke/VarHandle" ∧ (parseMethodDescriptor yX0_floorAfter.desc).map (fun d => d.parameters.length) = some 1 := by decide +kernel
set_option maxHeartbeats 400000 in
set_option maxRecDepth 100000 in
theorem mX0_floorAfter (l : Launch) (D : va_G) (cI cJ : ClassId) (a : Nat → Nat) (sz N : Nat) (σ : St) (p1 : Int32) (r : Int32) (hf : fX0_floorAfter N σ p1 = some r) : Met l yX0_floorAfter wsX0_floorAfter rmX0_floorAfter (RPre ([.ref (a 0), .int p1] : List Value) sz D (tyIJ cI cJ) (wHo cI a σ)) (RQi sz r) 0 0 (fr0 sz) := by
  refine R_start (cc := cX0_floorAfter) (maxL := 4) (ret := (some .int)) (by decide) rfl (Nat.le_of_ble_eq_true rfl) (fun p e s m below meth c ls hx hb hr hml hown hts hlk hP hK hS hA hsz hl => ?_)
  have hown : s.vm.findClass RX0 = some m.cls := hown
  have hl : lv_has ls 4 [(0, .ref (a 0)), (1, .int p1)] := hl
  have ln1 := hts (Cond.fieldLink RX0 11 "HoistsAreShared$Hoist" "floor" "I") (List.mem_of_getElem? (i := 1) rfl)
  have inX0 : ∀ w ∈ u_ws RX0 TX0 9, w ∈ wsX0_floorAfter := fun _ h => List.mem_cons_of_mem _ (List.mem_append_right _ h)
  have b7 : ∀  (n : Nat) (x1 : Int32) (x2 : Int32) (x3 : Int32) (H : Heap) (locs : List Loc) (ls : Array Slot), va_P D vwCl (wHo cI a σ) H → va_S (fr0 s.heap.size) s.heap H locs → lv_has ls 4 [(0, .ref (a 0)), (1, .int x1), (2, .int x2), (3, .int x3)] → fX0_floorAfter_L7 N σ n x1 x2 x3 = some r → W p l e rmX0_floorAfter s m ([.ref (a 0), .int p1] : List Value).toArray below meth c H locs 0 0 (MQ below (RQi sz r) ([.ref (a 0), .int p1] : List Value).toArray s 0 0 (fr0 sz)) (F0 m 7 ls []) := by
    intro n
    induction n with
    | zero => intro x1 x2 x3 H locs ls hP hS hl hf; cases hf
    | succ n ih =>
      intro x1 x2 x3 H locs ls hP hS hl hf
      rw [fX0_floorAfter_L7] at hf
      refine lv_iload_n hx hb dX0_floorAfter_7 rfl (lv_at hl 3 rfl) ?_
      refine lv_iload_n hx hb dX0_floorAfter_8 rfl (lv_at hl 1 rfl) ?_
      refine k_icmp_gt (tgt := 28) hx hb dX0_floorAfter_9 (by decide) hf (fun hf => ?_) (fun hf => ?_)
      · refine lv_iload_n hx hb dX0_floorAfter_28 rfl (lv_at hl 2 rfl) ?_
        exact R_iret hx hb hr hlk hS hsz hf dX0_floorAfter_29
      · refine lv_iload_n hx hb dX0_floorAfter_12 rfl (lv_at hl 2 rfl) ?_
        refine lv_aload_n hx hb dX0_floorAfter_13 rfl (lv_at hl 0 rfl) ?_
        refine lv_iload_n hx hb dX0_floorAfter_14 rfl (lv_at hl 3 rfl) ?_
        refine c_callV (As := [.int x3]) (rest := [.int x2]) ⟨hx, hb, hml, hown, hts⟩ hf (fun vq hq => mX0_pullAfter l D cI cJ a H.size N σ x3 vq hq) (cwV 1 hts gX0_floorAfter_X0_pullAfter rfl rfl rfl qX0_pullAfter ⟨Nat.le_of_ble_eq_true rfl, Nat.le_of_ble_eq_true rfl⟩) hK hP hS hA hP 0 rfl rfl rfl rfl hl.1 rfl (Nat.le_of_ble_eq_true rfl) dX0_floorAfter_15 ⟨Nat.le_refl _, Nat.le_refl _⟩ (fun v1 H locs hP hS hf => ?_)
        refine c_callS (As := [.int x2, .int v1]) (rest := []) ⟨hx, hb, hml, hown, hts⟩ hf (fun vq hq => mX0_moved l D cI cJ H.size N x2 v1 vq hq) (va_cwS 2 hts gX0_floorAfter_X0_moved rfl rfl rfl qX0_moved ⟨Nat.le_of_ble_eq_true rfl, Nat.le_of_ble_eq_true rfl⟩) hK hP hS hA va_P_nil rfl hl.1 rfl (Nat.le_of_ble_eq_true rfl) dX0_floorAfter_18 ⟨Nat.le_refl _, Nat.le_refl _⟩ (fun v2 H locs hP hS hf => ?_)
        refine lv_istore_n (lv' := [(2, .int v2), (0, .ref (a 0)), (1, .int x1), (3, .int x3)]) hx hb dX0_floorAfter_21 rfl hl (by decide) rfl (fun ls hl => ?_)
        refine k_iinc (d := (1 : Int32)) (lv' := fun v3 => [(3, .int v3), (2, .int v2), (0, .ref (a 0)), (1, .int x1)]) hx hb dX0_floorAfter_22 hl (k := 3) rfl (by decide) (by decide) (fun _ => rfl) hf (fun v3 ls hl hf => ?_)
        refine lv_goto (tgt := 7) hx hb dX0_floorAfter_25 (by decide) ?_
        exact ih x1 v2 v3 H locs ls hP hS (lv_sub hl [2, 3, 1, 0] rfl) hf
  unfold fX0_floorAfter at hf
  refine lv_aload_n hx hb dX0_floorAfter_0 rfl (lv_at hl 0 rfl) ?_
  refine va_get (D := D) (ci := 0) (v := .int (σ 0 0)) (C := RX0) (T := TX0) (N := 9) hx hb hts inX0 hown hK hP 0 rfl rfl 0 (by decide) ln1 (fun _ h9 => h9) rfl dX0_floorAfter_1 ?_
  refine lv_istore_n (lv' := [(2, .int (σ 0 0)), (0, .ref (a 0)), (1, .int p1)]) hx hb dX0_floorAfter_4 rfl hl (by decide) rfl (fun ls hl => ?_)
  refine lv_iconst (v := (1 : Int32)) hx hb dX0_floorAfter_5 (by decide) ?_
  refine lv_istore_n (lv' := [(3, .int (1 : Int32)), (2, .int (σ 0 0)), (0, .ref (a 0)), (1, .int p1)]) hx hb dX0_floorAfter_6 rfl hl (by decide) rfl (fun ls hl => ?_)
  exact b7  N p1 (σ 0 0) (1 : Int32) s.heap [] ls hP hS (lv_sub hl [2, 3, 1, 0] rfl) hf
def fX0_foresee_L37 (N : Nat) (k8 : St → Int32 → Int32 → Int32 → Option St) (z : St) (x2 : Int32) (x3 : Int32) (x4 : Int32) : Option St :=
    bo (wrI z 6 71 x4 x3) (fun z1 =>
    lt_ (x4 + (1 : Int32) : Int32) (fun v2 =>
    k8 z1 x2 x3 v2))
def fX0_foresee_L8 (N : Nat)  : Nat → St → Int32 → Int32 → Int32 → Option St
  | 0, _, _, _, _ => none
  | n + 1, z, x2, x3, x4 =>
    if x2 < x4 then some z
    else if (71 : Int32) ≤ x4 then some z
    else if x4 ≤ 0 then fX0_foresee_L37 N (fX0_foresee_L8 N n) z x2 x3 x4
    else bo (fX0_pullAfter N (sb [0, 1, 2, 3, 4, 5] z) x4) (fun v3 =>
    bo (fX0_moved N x3 v3) (fun v4 =>
    fX0_foresee_L37 N (fX0_foresee_L8 N n) z x2 v4 x4))
def fX0_foresee (N : Nat) (σ : St) (p2 : Int32) : Option St :=
    fX0_foresee_L8 N  N σ p2 (σ 0 0) (0 : Int32)
abbrev rmX0_foresee : Room := { frames := 3, cells := 0, slots := 0, locals := 72 }
theorem qX0_foresee : yX0_foresee.cls = RX0 ∧ yX0_foresee.cls ≠ "java/lang/invoke/MethodHandle" ∧ yX0_foresee.cls ≠ "java/lang/invoke/VarHandle" ∧ (parseMethodDescriptor yX0_foresee.desc).map (fun d => d.parameters.length) = some 2 := by decide +kernel
set_option maxHeartbeats 400000 in
set_option maxRecDepth 100000 in
theorem mX0_foresee (l : Launch) (D : va_G) (cI cJ : ClassId) (a : Nat → Nat) (sz N : Nat) (σ : St) (p2 : Int32) (r : St) (hf : fX0_foresee N σ p2 = some r) : Met l yX0_foresee wsX0_foresee rmX0_foresee (WPre ([.ref (a 0), .ref (a 6), .int p2] : List Value) sz D (tyIJ cI cJ) (wHoP cI a σ)) (WQv sz D (wHoP cI a σ) (wHoP cI a r)) 0 0 (va_A (wHoP cI a σ) sz) := by
  refine W_start (cc := cX0_foresee) (maxL := 5) (ret := none) (by decide) rfl (Nat.le_of_ble_eq_true rfl) (fun p e s m below meth c ls A hx hb hr hml hown hts hlk hP hK hS hA hD0 hAe hl => ?_)
  have hD : ∀ z, va_D A ((fun z => wHoP cI a z) z) := fun z => hD0.ad rfl
  have hown : s.vm.findClass RX0 = some m.cls := hown
  have hl : lv_has ls 5 [(0, .ref (a 0)), (1, .ref (a 6)), (2, .int p2)] := hl
  have ln1 := hts (Cond.fieldLink RX0 11 "HoistsAreShared$Hoist" "floor" "I") (List.mem_of_getElem? (i := 1) rfl)
  have inX0 : ∀ w ∈ u_ws RX0 TX0 9, w ∈ wsX0_foresee := fun _ h => List.mem_cons_of_mem _ (List.mem_append_right _ h)
  have b37 : ∀ (k8 : St → Int32 → Int32 → Int32 → Option St) (hk8 : (∀ (z : St) (x2 : Int32) (x3 : Int32) (x4 : Int32) (H : Heap) (locs : List Loc) (ls : Array Slot), va_P D vwCl (wHoP cI a z) H → va_S A s.heap H locs → lv_has ls 5 [(0, .ref (a 0)), (1, .ref (a 6)), (2, .int x2), (3, .int x3), (4, .int x4)] → k8 z x2 x3 x4 = some r → W p l e rmX0_foresee s m ([.ref (a 0), .ref (a 6), .int p2] : List Value).toArray below meth c H locs 0 0 (MQ below (WQv sz D (wHoP cI a σ) (wHoP cI a r)) ([.ref (a 0), .ref (a 6), .int p2] : List Value).toArray s 0 0 A) (F0 m 8 ls []))) (z : St) (x2 : Int32) (x3 : Int32) (x4 : Int32) (H : Heap) (locs : List Loc) (ls : Array Slot), va_P D vwCl (wHoP cI a z) H → va_S A s.heap H locs → lv_has ls 5 [(0, .ref (a 0)), (1, .ref (a 6)), (2, .int x2), (3, .int x3), (4, .int x4)] → fX0_foresee_L37 N k8 z x2 x3 x4 = some r → W p l e rmX0_foresee s m ([.ref (a 0), .ref (a 6), .int p2] : List Value).toArray below meth c H locs 0 0 (MQ below (WQv sz D (wHoP cI a σ) (wHoP cI a r)) ([.ref (a 0), .ref (a 6), .int p2] : List Value).toArray s 0 0 A) (F0 m 37 ls []) := by
    intro k8 hk8 z x2 x3 x4 H locs ls hP hS hl hf
    unfold fX0_foresee_L37 at hf
    refine lv_aload_n hx hb dX0_foresee_37 rfl (lv_at hl 1 rfl) ?_
    refine lv_iload hx hb dX0_foresee_38 (lv_at hl 4 rfl) ?_
    refine lv_iload_n hx hb dX0_foresee_40 rfl (lv_at hl 3 rfl) ?_
    refine k_iast (w := (fun z => wHoP cI a z)) hx hb hK hP hD hS 6 0 hf rfl rfl (fun _ => rfl) dX0_foresee_41 (fun z1 H locs hP hS hf => ?_)
    refine k_iinc (d := (1 : Int32)) (lv' := fun v2 => [(4, .int v2), (0, .ref (a 0)), (1, .ref (a 6)), (2, .int x2), (3, .int x3)]) hx hb dX0_foresee_42 hl (k := 4) rfl (by decide) (by decide) (fun _ => rfl) hf (fun v2 ls hl hf => ?_)
    refine lv_goto (tgt := 8) hx hb dX0_foresee_45 (by decide) ?_
    exact hk8 z1 x2 x3 v2 H locs ls hP hS (lv_sub hl [1, 2, 3, 4, 0] rfl) hf
  have b8 : ∀  (n : Nat) (z : St) (x2 : Int32) (x3 : Int32) (x4 : Int32) (H : Heap) (locs : List Loc) (ls : Array Slot), va_P D vwCl (wHoP cI a z) H → va_S A s.heap H locs → lv_has ls 5 [(0, .ref (a 0)), (1, .ref (a 6)), (2, .int x2), (3, .int x3), (4, .int x4)] → fX0_foresee_L8 N n z x2 x3 x4 = some r → W p l e rmX0_foresee s m ([.ref (a 0), .ref (a 6), .int p2] : List Value).toArray below meth c H locs 0 0 (MQ below (WQv sz D (wHoP cI a σ) (wHoP cI a r)) ([.ref (a 0), .ref (a 6), .int p2] : List Value).toArray s 0 0 A) (F0 m 8 ls []) := by
    intro n
    induction n with
    | zero => intro z x2 x3 x4 H locs ls hP hS hl hf; cases hf
    | succ n ih =>
      intro z x2 x3 x4 H locs ls hP hS hl hf
      rw [fX0_foresee_L8] at hf
      refine lv_iload hx hb dX0_foresee_8 (lv_at hl 4 rfl) ?_
      refine lv_iload_n hx hb dX0_foresee_10 rfl (lv_at hl 2 rfl) ?_
      refine k_icmp_gt (tgt := 48) hx hb dX0_foresee_11 (by decide) hf (fun hf => ?_) (fun hf => ?_)
      · exact W_vret (fun z => wHoP cI a z) hx hb hr hlk hP hS hAe hf dX0_foresee_48
      · refine lv_iload hx hb dX0_foresee_14 (lv_at hl 4 rfl) ?_
        refine lv_aload_n hx hb dX0_foresee_16 rfl (lv_at hl 1 rfl) ?_
        refine va_alen (v := (71 : Int32)) hx hb hK hP 6 0 rfl rfl rfl dX0_foresee_17 ?_
        refine k_icmp_ge (tgt := 48) hx hb dX0_foresee_18 (by decide) hf (fun hf => ?_) (fun hf => ?_)
        · exact W_vret (fun z => wHoP cI a z) hx hb hr hlk hP hS hAe hf dX0_foresee_48
        · refine lv_iload hx hb dX0_foresee_21 (lv_at hl 4 rfl) ?_
          refine k_if_le (tgt := 37) hx hb dX0_foresee_23 (by decide) hf (fun hf => ?_) (fun hf => ?_)
          · exact b37 (fX0_foresee_L8 N n) ih z x2 x3 x4 H locs ls hP hS (lv_sub hl [0, 1, 2, 3, 4] rfl) hf
          · refine lv_iload_n hx hb dX0_foresee_26 rfl (lv_at hl 3 rfl) ?_
            refine lv_aload_n hx hb dX0_foresee_27 rfl (lv_at hl 0 rfl) ?_
            refine lv_iload hx hb dX0_foresee_28 (lv_at hl 4 rfl) ?_
            refine c_callV (As := [.int x4]) (rest := [.int x3]) ⟨hx, hb, hml, hown, hts⟩ hf (fun vq hq => mX0_pullAfter l D cI cJ (sb [0, 1, 2, 3, 4, 5] a) H.size N (sb [0, 1, 2, 3, 4, 5] z) x4 vq hq) (cwV 1 hts gX0_foresee_X0_pullAfter rfl rfl rfl qX0_pullAfter ⟨Nat.le_of_ble_eq_true rfl, Nat.le_of_ble_eq_true rfl⟩) hK hP hS hA (cmr_HoP_Ho_0_1_2_3_4_5 D cI a z hP) 0 rfl rfl rfl rfl hl.1 rfl (Nat.le_of_ble_eq_true rfl) dX0_foresee_30 ⟨Nat.le_refl _, Nat.le_refl _⟩ (fun v3 H locs hP hS hf => ?_)
            refine c_callS (As := [.int x3, .int v3]) (rest := []) ⟨hx, hb, hml, hown, hts⟩ hf (fun vq hq => mX0_moved l D cI cJ H.size N x3 v3 vq hq) (va_cwS 2 hts gX0_foresee_X0_moved rfl rfl rfl qX0_moved ⟨Nat.le_of_ble_eq_true rfl, Nat.le_of_ble_eq_true rfl⟩) hK hP hS hA va_P_nil rfl hl.1 rfl (Nat.le_of_ble_eq_true rfl) dX0_foresee_33 ⟨Nat.le_refl _, Nat.le_refl _⟩ (fun v4 H locs hP hS hf => ?_)
            refine lv_istore_n (lv' := [(3, .int v4), (0, .ref (a 0)), (1, .ref (a 6)), (2, .int x2), (4, .int x4)]) hx hb dX0_foresee_36 rfl hl (by decide) rfl (fun ls hl => ?_)
            exact b37 (fX0_foresee_L8 N n) ih z x2 v4 x4 H locs ls hP hS (lv_sub hl [1, 2, 3, 0, 4] rfl) hf
  unfold fX0_foresee at hf
  refine lv_aload_n hx hb dX0_foresee_0 rfl (lv_at hl 0 rfl) ?_
  refine va_get (D := D) (ci := 0) (v := .int (σ 0 0)) (C := RX0) (T := TX0) (N := 9) hx hb hts inX0 hown hK hP 0 rfl rfl 0 (by decide) ln1 (fun _ h9 => h9) rfl dX0_foresee_1 ?_
  refine lv_istore_n (lv' := [(3, .int (σ 0 0)), (0, .ref (a 0)), (1, .ref (a 6)), (2, .int p2)]) hx hb dX0_foresee_4 rfl hl (by decide) rfl (fun ls hl => ?_)
  refine lv_iconst (v := (0 : Int32)) hx hb dX0_foresee_5 (by decide) ?_
  refine lv_istore (lv' := [(4, .int (0 : Int32)), (3, .int (σ 0 0)), (0, .ref (a 0)), (1, .ref (a 6)), (2, .int p2)]) hx hb dX0_foresee_6 hl (by decide) rfl (fun ls hl => ?_)
  exact b8  N σ p2 (σ 0 0) (0 : Int32) s.heap [] ls hP hS (lv_sub hl [2, 3, 4, 1, 0] rfl) hf
def fX0_apartAt (N : Nat) (p1 : Int32) : Option Int32 :=
    lt_ (absI ((20 : Int32) - ((2 : Int32) * p1))) (fun v1 =>
    some v1)
abbrev rmX0_apartAt : Room := { frames := 1, cells := 0, slots := 0, locals := 24 }
theorem qX0_apartAt : yX0_apartAt.cls ≠ "java/lang/invoke/MethodHandle" ∧ yX0_apartAt.cls ≠ "java/lang/invoke/VarHandle" ∧ (parseMethodDescriptor yX0_apartAt.desc).map (fun d => d.parameters.length) = some 1 := by decide +kernel
set_option maxHeartbeats 400000 in
set_option maxRecDepth 100000 in
theorem mX0_apartAt (l : Launch) (D : va_G) (cI cJ : ClassId) (sz N : Nat) (p1 : Int32) (r : Int32) (hf : fX0_apartAt N p1 = some r) : Met l yX0_apartAt wsX0_apartAt rmX0_apartAt (RPre ([.int p1] : List Value) sz D (tyIJ cI cJ) (wNo)) (RQi sz r) 0 0 (fr0 sz) := by
  refine R_start (cc := cX0_apartAt) (maxL := 1) (ret := (some .int)) (by decide) rfl (Nat.le_of_ble_eq_true rfl) (fun p e s m below meth c ls hx hb hr hml hown hts hlk hP hK hS hA hsz hl => ?_)
  have hown : s.vm.findClass RX0 = some m.cls := hown
  have hl : lv_has ls 1 [(0, .int p1)] := hl
  have ln1 := hts (Cond.methodLink RX0 90 Lib.Math.abs.name) (List.mem_of_getElem? (i := 1) rfl)
  have ln2 := hts (Cond.static Lib.Math.abs.name) (List.mem_of_getElem? (i := 2) rfl)
  have ln3 := hts (Cond.initialized "java/lang/Math") (List.mem_of_getElem? (i := 3) rfl)
  have ln4 := hts (Cond.code Lib.Math.abs.name Lib.Math.abs.code 1 (some .int)) (List.mem_of_getElem? (i := 4) rfl)
  unfold fX0_apartAt at hf
  refine lv_bipush (v := (20 : Int32)) hx hb dX0_apartAt_0 (by decide) ?_
  refine lv_iconst (v := (2 : Int32)) hx hb dX0_apartAt_2 (by decide) ?_
  refine lv_iload_n hx hb dX0_apartAt_3 rfl (lv_at hl 0 rfl) ?_
  refine lv_imul hx hb dX0_apartAt_4 ?_
  refine lv_isub hx hb dX0_apartAt_5 ?_
  refine k_mabs hx hb (hml.trans hl.1.symm) hown ln1 ln2 ln3 ln4 (Nat.le_of_ble_eq_true rfl) (Nat.le_of_ble_eq_true rfl) (Nat.zero_le _) (Nat.zero_le _) dX0_apartAt_6 hf (fun v1 hf => ?_)
  exact R_iret hx hb hr hlk hS hsz hf dX0_apartAt_9
def fX0_apartAfter (N : Nat) (σ : St) (p1 : Int32) : Option Int32 :=
    bo (fX0_floorAfter N σ p1) (fun v1 =>
    bo (fX0_apartAt N v1) (fun v2 =>
    some v2))
abbrev rmX0_apartAfter : Room := { frames := 4, cells := 0, slots := 0, locals := 95 }
theorem qX0_apartAfter : yX0_apartAfter.cls = RX0 ∧ yX0_apartAfter.cls ≠ "java/lang/invoke/MethodHandle" ∧ yX0_apartAfter.cls ≠ "java/lang/invoke/VarHandle" ∧ (parseMethodDescriptor yX0_apartAfter.desc).map (fun d => d.parameters.length) = some 1 := by decide +kernel
set_option maxHeartbeats 400000 in
set_option maxRecDepth 100000 in
theorem mX0_apartAfter (l : Launch) (D : va_G) (cI cJ : ClassId) (a : Nat → Nat) (sz N : Nat) (σ : St) (p1 : Int32) (r : Int32) (hf : fX0_apartAfter N σ p1 = some r) : Met l yX0_apartAfter wsX0_apartAfter rmX0_apartAfter (RPre ([.ref (a 0), .int p1] : List Value) sz D (tyIJ cI cJ) (wHo cI a σ)) (RQi sz r) 0 0 (fr0 sz) := by
  refine R_start (cc := cX0_apartAfter) (maxL := 2) (ret := (some .int)) (by decide) rfl (Nat.le_of_ble_eq_true rfl) (fun p e s m below meth c ls hx hb hr hml hown hts hlk hP hK hS hA hsz hl => ?_)
  have hown : s.vm.findClass RX0 = some m.cls := hown
  have hl : lv_has ls 2 [(0, .ref (a 0)), (1, .int p1)] := hl
  unfold fX0_apartAfter at hf
  refine lv_aload_n hx hb dX0_apartAfter_0 rfl (lv_at hl 0 rfl) ?_
  refine lv_iload_n hx hb dX0_apartAfter_1 rfl (lv_at hl 1 rfl) ?_
  refine c_callV (As := [.int p1]) (rest := []) ⟨hx, hb, hml, hown, hts⟩ hf (fun vq hq => mX0_floorAfter l D cI cJ a s.heap.size N σ p1 vq hq) (cwV 1 hts gX0_apartAfter_X0_floorAfter rfl rfl rfl qX0_floorAfter ⟨Nat.le_of_ble_eq_true rfl, Nat.le_of_ble_eq_true rfl⟩) hK hP hS hA hP 0 rfl rfl rfl rfl hl.1 rfl (Nat.le_of_ble_eq_true rfl) dX0_apartAfter_2 ⟨Nat.le_refl _, Nat.le_refl _⟩ (fun v1 H locs hP hS hf => ?_)
  refine c_callS (As := [.int v1]) (rest := []) ⟨hx, hb, hml, hown, hts⟩ hf (fun vq hq => mX0_apartAt l D cI cJ H.size N v1 vq hq) (va_cwS 1 hts gX0_apartAfter_X0_apartAt rfl rfl rfl qX0_apartAt ⟨Nat.le_of_ble_eq_true rfl, Nat.le_of_ble_eq_true rfl⟩) hK hP hS hA va_P_nil rfl hl.1 rfl (Nat.le_of_ble_eq_true rfl) dX0_apartAfter_5 ⟨Nat.le_refl _, Nat.le_refl _⟩ (fun v2 H locs hP hS hf => ?_)
  exact R_iret hx hb hr hlk hS hsz hf dX0_apartAfter_8
def fX0_openAt_L27 (N : Nat) (σ : St) (k4 : Int32 → Int32 → Int32 → Option Int32) (x1 : Int32) (x2 : Int32) (x3 : Int32) : Option Int32 :=
    lt_ (x3 + (1 : Int32) : Int32) (fun v3 =>
    k4 x1 x2 v3)
def fX0_openAt_L4 (N : Nat) (σ : St)  : Nat → Int32 → Int32 → Int32 → Option Int32
  | 0, _, _, _ => none
  | n + 1, x1, x2, x3 =>
    if (2 : Int32) ≤ x3 then some x2
    else bo (fX0_heightOf N x3 x1) (fun v1 =>
    bo (fX0_isDoor N σ v1) (fun v2 =>
    if v2 = 0 then fX0_openAt_L27 N σ (fX0_openAt_L4 N σ n) x1 x2 x3
    else lt_ ((x2 ||| ((1 : Int32) <<< (x3 &&& 31))) : Int32) (fun v4 =>
    fX0_openAt_L27 N σ (fX0_openAt_L4 N σ n) x1 v4 x3)))
def fX0_openAt (N : Nat) (σ : St) (p1 : Int32) : Option Int32 :=
    fX0_openAt_L4 N σ  N p1 (0 : Int32) (0 : Int32)
abbrev rmX0_openAt : Room := { frames := 2, cells := 0, slots := 0, locals := 41 }
theorem qX0_openAt : yX0_openAt.cls = RX0 ∧ yX0_openAt.cls ≠ "java/lang/invoke/MethodHandle" ∧ yX0_openAt.cls ≠ "java/lang/invoke/VarHandle" ∧ (parseMethodDescriptor yX0_openAt.desc).map (fun d => d.parameters.length) = some 1 := by decide +kernel
set_option maxHeartbeats 400000 in
set_option maxRecDepth 100000 in
theorem mX0_openAt (l : Launch) (D : va_G) (cI cJ : ClassId) (a : Nat → Nat) (sz N : Nat) (σ : St) (p1 : Int32) (r : Int32) (hf : fX0_openAt N σ p1 = some r) : Met l yX0_openAt wsX0_openAt rmX0_openAt (RPre ([.ref (a 0), .int p1] : List Value) sz D (tyIJ cI cJ) (wHo cI a σ)) (RQi sz r) 0 0 (fr0 sz) := by
  refine R_start (cc := cX0_openAt) (maxL := 4) (ret := (some .int)) (by decide) rfl (Nat.le_of_ble_eq_true rfl) (fun p e s m below meth c ls hx hb hr hml hown hts hlk hP hK hS hA hsz hl => ?_)
  have hown : s.vm.findClass RX0 = some m.cls := hown
  have hl : lv_has ls 4 [(0, .ref (a 0)), (1, .int p1)] := hl
  have b27 : ∀ (k4 : Int32 → Int32 → Int32 → Option Int32) (hk4 : (∀ (x1 : Int32) (x2 : Int32) (x3 : Int32) (H : Heap) (locs : List Loc) (ls : Array Slot), va_P D vwCl (wHo cI a σ) H → va_S (fr0 s.heap.size) s.heap H locs → lv_has ls 4 [(0, .ref (a 0)), (1, .int x1), (2, .int x2), (3, .int x3)] → k4 x1 x2 x3 = some r → W p l e rmX0_openAt s m ([.ref (a 0), .int p1] : List Value).toArray below meth c H locs 0 0 (MQ below (RQi sz r) ([.ref (a 0), .int p1] : List Value).toArray s 0 0 (fr0 sz)) (F0 m 4 ls []))) (x1 : Int32) (x2 : Int32) (x3 : Int32) (H : Heap) (locs : List Loc) (ls : Array Slot), va_P D vwCl (wHo cI a σ) H → va_S (fr0 s.heap.size) s.heap H locs → lv_has ls 4 [(0, .ref (a 0)), (1, .int x1), (2, .int x2), (3, .int x3)] → fX0_openAt_L27 N σ k4 x1 x2 x3 = some r → W p l e rmX0_openAt s m ([.ref (a 0), .int p1] : List Value).toArray below meth c H locs 0 0 (MQ below (RQi sz r) ([.ref (a 0), .int p1] : List Value).toArray s 0 0 (fr0 sz)) (F0 m 27 ls []) := by
    intro k4 hk4 x1 x2 x3 H locs ls hP hS hl hf
    unfold fX0_openAt_L27 at hf
    refine k_iinc (d := (1 : Int32)) (lv' := fun v3 => [(3, .int v3), (0, .ref (a 0)), (1, .int x1), (2, .int x2)]) hx hb dX0_openAt_27 hl (k := 3) rfl (by decide) (by decide) (fun _ => rfl) hf (fun v3 ls hl hf => ?_)
    refine lv_goto (tgt := 4) hx hb dX0_openAt_30 (by decide) ?_
    exact hk4 x1 x2 v3 H locs ls hP hS (lv_sub hl [1, 2, 3, 0] rfl) hf
  have b4 : ∀  (n : Nat) (x1 : Int32) (x2 : Int32) (x3 : Int32) (H : Heap) (locs : List Loc) (ls : Array Slot), va_P D vwCl (wHo cI a σ) H → va_S (fr0 s.heap.size) s.heap H locs → lv_has ls 4 [(0, .ref (a 0)), (1, .int x1), (2, .int x2), (3, .int x3)] → fX0_openAt_L4 N σ n x1 x2 x3 = some r → W p l e rmX0_openAt s m ([.ref (a 0), .int p1] : List Value).toArray below meth c H locs 0 0 (MQ below (RQi sz r) ([.ref (a 0), .int p1] : List Value).toArray s 0 0 (fr0 sz)) (F0 m 4 ls []) := by
    intro n
    induction n with
    | zero => intro x1 x2 x3 H locs ls hP hS hl hf; cases hf
    | succ n ih =>
      intro x1 x2 x3 H locs ls hP hS hl hf
      rw [fX0_openAt_L4] at hf
      refine lv_iload_n hx hb dX0_openAt_4 rfl (lv_at hl 3 rfl) ?_
      refine lv_iconst (v := (2 : Int32)) hx hb dX0_openAt_5 (by decide) ?_
      refine k_icmp_ge (tgt := 33) hx hb dX0_openAt_6 (by decide) hf (fun hf => ?_) (fun hf => ?_)
      · refine lv_iload_n hx hb dX0_openAt_33 rfl (lv_at hl 2 rfl) ?_
        exact R_iret hx hb hr hlk hS hsz hf dX0_openAt_34
      · refine lv_aload_n hx hb dX0_openAt_9 rfl (lv_at hl 0 rfl) ?_
        refine lv_iload_n hx hb dX0_openAt_10 rfl (lv_at hl 3 rfl) ?_
        refine lv_iload_n hx hb dX0_openAt_11 rfl (lv_at hl 1 rfl) ?_
        refine c_callS (As := [.int x3, .int x1]) (rest := [.ref (a 0)]) ⟨hx, hb, hml, hown, hts⟩ hf (fun vq hq => mX0_heightOf l D cI cJ H.size N x3 x1 vq hq) (va_cwS 2 hts gX0_openAt_X0_heightOf rfl rfl rfl qX0_heightOf ⟨Nat.le_of_ble_eq_true rfl, Nat.le_of_ble_eq_true rfl⟩) hK hP hS hA va_P_nil rfl hl.1 rfl (Nat.le_of_ble_eq_true rfl) dX0_openAt_12 ⟨Nat.le_refl _, Nat.le_refl _⟩ (fun v1 H locs hP hS hf => ?_)
        refine c_callV (As := [.int v1]) (rest := []) ⟨hx, hb, hml, hown, hts⟩ hf (fun vq hq => mX0_isDoor l D cI cJ a H.size N σ v1 vq hq) (cwV 1 hts gX0_openAt_X0_isDoor rfl rfl rfl qX0_isDoor ⟨Nat.le_of_ble_eq_true rfl, Nat.le_of_ble_eq_true rfl⟩) hK hP hS hA hP 0 rfl rfl rfl rfl hl.1 rfl (Nat.le_of_ble_eq_true rfl) dX0_openAt_15 ⟨Nat.le_refl _, Nat.le_refl _⟩ (fun v2 H locs hP hS hf => ?_)
        refine k_if_eq (tgt := 27) hx hb dX0_openAt_18 (by decide) hf (fun hf => ?_) (fun hf => ?_)
        · exact b27 (fX0_openAt_L4 N σ n) ih x1 x2 x3 H locs ls hP hS (lv_sub hl [0, 1, 2, 3] rfl) hf
        · refine lv_iload_n hx hb dX0_openAt_21 rfl (lv_at hl 2 rfl) ?_
          refine lv_iconst (v := (1 : Int32)) hx hb dX0_openAt_22 (by decide) ?_
          refine lv_iload_n hx hb dX0_openAt_23 rfl (lv_at hl 3 rfl) ?_
          refine lv_ishl hx hb dX0_openAt_24 ?_
          refine lv_ior hx hb dX0_openAt_25 ?_
          refine k_let hf (fun v4 hf => ?_)
          refine lv_istore_n (lv' := [(2, .int v4), (0, .ref (a 0)), (1, .int x1), (3, .int x3)]) hx hb dX0_openAt_26 rfl hl (by decide) rfl (fun ls hl => ?_)
          exact b27 (fX0_openAt_L4 N σ n) ih x1 v4 x3 H locs ls hP hS (lv_sub hl [1, 2, 0, 3] rfl) hf
  unfold fX0_openAt at hf
  refine lv_iconst (v := (0 : Int32)) hx hb dX0_openAt_0 (by decide) ?_
  refine lv_istore_n (lv' := [(2, .int (0 : Int32)), (0, .ref (a 0)), (1, .int p1)]) hx hb dX0_openAt_1 rfl hl (by decide) rfl (fun ls hl => ?_)
  refine lv_iconst (v := (0 : Int32)) hx hb dX0_openAt_2 (by decide) ?_
  refine lv_istore_n (lv' := [(3, .int (0 : Int32)), (2, .int (0 : Int32)), (0, .ref (a 0)), (1, .int p1)]) hx hb dX0_openAt_3 rfl hl (by decide) rfl (fun ls hl => ?_)
  exact b4  N p1 (0 : Int32) (0 : Int32) s.heap [] ls hP hS (lv_sub hl [2, 3, 1, 0] rfl) hf
def fX0_weighsAll_L4 (N : Nat) (σ : St)  : Nat → Int32 → Int32 → Option Int32
  | 0, _, _ => none
  | n + 1, x1, x2 =>
    if (σ 0 3) ≤ x2 then some x1
    else bo (fX0_weighs N σ x2 (0 : Int32)) (fun v1 =>
    lt_ ((x1 + v1) : Int32) (fun v2 =>
    lt_ (x2 + (1 : Int32) : Int32) (fun v3 =>
    (fX0_weighsAll_L4 N σ n) v2 v3)))
def fX0_weighsAll (N : Nat) (σ : St)  : Option Int32 :=
    fX0_weighsAll_L4 N σ  N (0 : Int32) (0 : Int32)
abbrev rmX0_weighsAll : Room := { frames := 2, cells := 0, slots := 0, locals := 49 }
theorem qX0_weighsAll : yX0_weighsAll.cls = RX0 ∧ yX0_weighsAll.cls ≠ "java/lang/invoke/MethodHandle" ∧ yX0_weighsAll.cls ≠ "java/lang/invoke/VarHandle" ∧ (parseMethodDescriptor yX0_weighsAll.desc).map (fun d => d.parameters.length) = some 0 := by decide +kernel
set_option maxHeartbeats 400000 in
set_option maxRecDepth 100000 in
theorem mX0_weighsAll (l : Launch) (D : va_G) (cI cJ : ClassId) (a : Nat → Nat) (sz N : Nat) (σ : St)  (r : Int32) (hf : fX0_weighsAll N σ = some r) : Met l yX0_weighsAll wsX0_weighsAll rmX0_weighsAll (RPre ([.ref (a 0)] : List Value) sz D (tyIJ cI cJ) (wHo cI a σ)) (RQi sz r) 0 0 (fr0 sz) := by
  refine R_start (cc := cX0_weighsAll) (maxL := 3) (ret := (some .int)) (by decide) rfl (Nat.le_of_ble_eq_true rfl) (fun p e s m below meth c ls hx hb hr hml hown hts hlk hP hK hS hA hsz hl => ?_)
  have hown : s.vm.findClass RX0 = some m.cls := hown
  have hl : lv_has ls 3 [(0, .ref (a 0))] := hl
  have ln1 := hts (Cond.fieldLink RX0 22 "HoistsAreShared$Hoist" "things" "I") (List.mem_of_getElem? (i := 1) rfl)
  have inX0 : ∀ w ∈ u_ws RX0 TX0 9, w ∈ wsX0_weighsAll := fun _ h => List.mem_cons_of_mem _ (List.mem_append_right _ h)
  have b4 : ∀  (n : Nat) (x1 : Int32) (x2 : Int32) (H : Heap) (locs : List Loc) (ls : Array Slot), va_P D vwCl (wHo cI a σ) H → va_S (fr0 s.heap.size) s.heap H locs → lv_has ls 3 [(0, .ref (a 0)), (1, .int x1), (2, .int x2)] → fX0_weighsAll_L4 N σ n x1 x2 = some r → W p l e rmX0_weighsAll s m ([.ref (a 0)] : List Value).toArray below meth c H locs 0 0 (MQ below (RQi sz r) ([.ref (a 0)] : List Value).toArray s 0 0 (fr0 sz)) (F0 m 4 ls []) := by
    intro n
    induction n with
    | zero => intro x1 x2 H locs ls hP hS hl hf; cases hf
    | succ n ih =>
      intro x1 x2 H locs ls hP hS hl hf
      rw [fX0_weighsAll_L4] at hf
      refine lv_iload_n hx hb dX0_weighsAll_4 rfl (lv_at hl 2 rfl) ?_
      refine lv_aload_n hx hb dX0_weighsAll_5 rfl (lv_at hl 0 rfl) ?_
      refine va_get (D := D) (ci := 0) (v := .int (σ 0 3)) (C := RX0) (T := TX0) (N := 9) hx hb hts inX0 hown hK hP 0 rfl rfl 3 (by decide) ln1 (fun _ h9 => h9) rfl dX0_weighsAll_6 ?_
      refine k_icmp_ge (tgt := 27) hx hb dX0_weighsAll_9 (by decide) hf (fun hf => ?_) (fun hf => ?_)
      · refine lv_iload_n hx hb dX0_weighsAll_27 rfl (lv_at hl 1 rfl) ?_
        exact R_iret hx hb hr hlk hS hsz hf dX0_weighsAll_28
      · refine lv_iload_n hx hb dX0_weighsAll_12 rfl (lv_at hl 1 rfl) ?_
        refine lv_aload_n hx hb dX0_weighsAll_13 rfl (lv_at hl 0 rfl) ?_
        refine lv_iload_n hx hb dX0_weighsAll_14 rfl (lv_at hl 2 rfl) ?_
        refine lv_iconst (v := (0 : Int32)) hx hb dX0_weighsAll_15 (by decide) ?_
        refine c_callV (As := [.int x2, .int (0 : Int32)]) (rest := [.int x1]) ⟨hx, hb, hml, hown, hts⟩ hf (fun vq hq => mX0_weighs l D cI cJ a H.size N σ x2 (0 : Int32) vq hq) (cwV 2 hts gX0_weighsAll_X0_weighs rfl rfl rfl qX0_weighs ⟨Nat.le_of_ble_eq_true rfl, Nat.le_of_ble_eq_true rfl⟩) hK hP hS hA hP 0 rfl rfl rfl rfl hl.1 rfl (Nat.le_of_ble_eq_true rfl) dX0_weighsAll_16 ⟨Nat.le_refl _, Nat.le_refl _⟩ (fun v1 H locs hP hS hf => ?_)
        refine lv_iadd hx hb dX0_weighsAll_19 ?_
        refine k_let hf (fun v2 hf => ?_)
        refine lv_istore_n (lv' := [(1, .int v2), (0, .ref (a 0)), (2, .int x2)]) hx hb dX0_weighsAll_20 rfl hl (by decide) rfl (fun ls hl => ?_)
        refine k_iinc (d := (1 : Int32)) (lv' := fun v3 => [(2, .int v3), (1, .int v2), (0, .ref (a 0))]) hx hb dX0_weighsAll_21 hl (k := 2) rfl (by decide) (by decide) (fun _ => rfl) hf (fun v3 ls hl hf => ?_)
        refine lv_goto (tgt := 4) hx hb dX0_weighsAll_24 (by decide) ?_
        exact ih v2 v3 H locs ls hP hS (lv_sub hl [2, 1, 0] rfl) hf
  unfold fX0_weighsAll at hf
  refine lv_iconst (v := (0 : Int32)) hx hb dX0_weighsAll_0 (by decide) ?_
  refine lv_istore_n (lv' := [(1, .int (0 : Int32)), (0, .ref (a 0))]) hx hb dX0_weighsAll_1 rfl hl (by decide) rfl (fun ls hl => ?_)
  refine lv_iconst (v := (0 : Int32)) hx hb dX0_weighsAll_2 (by decide) ?_
  refine lv_istore_n (lv' := [(2, .int (0 : Int32)), (1, .int (0 : Int32)), (0, .ref (a 0))]) hx hb dX0_weighsAll_3 rfl hl (by decide) rfl (fun ls hl => ?_)
  exact b4  N (0 : Int32) (0 : Int32) s.heap [] ls hP hS (lv_sub hl [2, 1, 0] rfl) hf
def fJ6_bitCount_0f7a4 (N : Nat) (p1 : Int32) : Option Int32 :=
    lt_ ((p1 - (((p1.toUInt32 >>> ((1 : Int32).toUInt32 &&& Int32.toUInt32 31)).toInt32) &&& (1431655765 : Int32))) : Int32) (fun v1 =>
    lt_ (((v1 &&& (858993459 : Int32)) + (((v1.toUInt32 >>> ((2 : Int32).toUInt32 &&& Int32.toUInt32 31)).toInt32) &&& (858993459 : Int32))) : Int32) (fun v2 =>
    lt_ (((v2 + ((v2.toUInt32 >>> ((4 : Int32).toUInt32 &&& Int32.toUInt32 31)).toInt32)) &&& (252645135 : Int32)) : Int32) (fun v3 =>
    lt_ ((v3 + ((v3.toUInt32 >>> ((8 : Int32).toUInt32 &&& Int32.toUInt32 31)).toInt32)) : Int32) (fun v4 =>
    lt_ ((v4 + ((v4.toUInt32 >>> ((16 : Int32).toUInt32 &&& Int32.toUInt32 31)).toInt32)) : Int32) (fun v5 =>
    some (v5 &&& (63 : Int32)))))))
abbrev rmJ6_bitCount_0f7a4 : Room := { frames := 0, cells := 0, slots := 0, locals := 0 }
theorem qJ6_bitCount_0f7a4 : yJ6_bitCount_0f7a4.cls ≠ "java/lang/invoke/MethodHandle" ∧ yJ6_bitCount_0f7a4.cls ≠ "java/lang/invoke/VarHandle" ∧ (parseMethodDescriptor yJ6_bitCount_0f7a4.desc).map (fun d => d.parameters.length) = some 1 := by decide +kernel
set_option maxHeartbeats 400000 in
set_option maxRecDepth 100000 in
theorem mJ6_bitCount_0f7a4 (l : Launch) (D : va_G) (cI cJ : ClassId) (sz N : Nat) (p1 : Int32) (r : Int32) (hf : fJ6_bitCount_0f7a4 N p1 = some r) : Met l yJ6_bitCount_0f7a4 wsJ6_bitCount_0f7a4 rmJ6_bitCount_0f7a4 (RPre ([.int p1] : List Value) sz D (tyIJ cI cJ) (wNo)) (RQi sz r) 0 0 (fr0 sz) := by
  refine R_start (cc := cJ6_bitCount_0f7a4) (maxL := 1) (ret := (some .int)) (by decide) rfl (Nat.le_of_ble_eq_true rfl) (fun p e s m below meth c ls hx hb hr hml hown hts hlk hP hK hS hA hsz hl => ?_)
  have hown : s.vm.findClass RJ6 = some m.cls := hown
  have hl : lv_has ls 1 [(0, .int p1)] := hl
  have ln1 := hts (Cond.constant RJ6 265 (1431655765)) (List.mem_of_getElem? (i := 1) rfl)
  have ln2 := hts (Cond.constant RJ6 266 (858993459)) (List.mem_of_getElem? (i := 2) rfl)
  have ln3 := hts (Cond.constant RJ6 267 (252645135)) (List.mem_of_getElem? (i := 3) rfl)
  unfold fJ6_bitCount_0f7a4 at hf
  refine lv_iload_n hx hb dJ6_bitCount_0f7a4_0 rfl (lv_at hl 0 rfl) ?_
  refine lv_iload_n hx hb dJ6_bitCount_0f7a4_1 rfl (lv_at hl 0 rfl) ?_
  refine lv_iconst (v := (1 : Int32)) hx hb dJ6_bitCount_0f7a4_2 (by decide) ?_
  refine lv_iushr hx hb dJ6_bitCount_0f7a4_3 rfl ?_
  refine lv_ldcw (v := (1431655765 : Int32)) hx hb hown ln1 dJ6_bitCount_0f7a4_4 ?_
  refine lv_iand hx hb dJ6_bitCount_0f7a4_7 ?_
  refine lv_isub hx hb dJ6_bitCount_0f7a4_8 ?_
  refine k_let hf (fun v1 hf => ?_)
  refine lv_istore_n (lv' := [(0, .int v1)]) hx hb dJ6_bitCount_0f7a4_9 rfl hl (by decide) rfl (fun ls hl => ?_)
  refine lv_iload_n hx hb dJ6_bitCount_0f7a4_10 rfl (lv_at hl 0 rfl) ?_
  refine lv_ldcw (v := (858993459 : Int32)) hx hb hown ln2 dJ6_bitCount_0f7a4_11 ?_
  refine lv_iand hx hb dJ6_bitCount_0f7a4_14 ?_
  refine lv_iload_n hx hb dJ6_bitCount_0f7a4_15 rfl (lv_at hl 0 rfl) ?_
  refine lv_iconst (v := (2 : Int32)) hx hb dJ6_bitCount_0f7a4_16 (by decide) ?_
  refine lv_iushr hx hb dJ6_bitCount_0f7a4_17 rfl ?_
  refine lv_ldcw (v := (858993459 : Int32)) hx hb hown ln2 dJ6_bitCount_0f7a4_18 ?_
  refine lv_iand hx hb dJ6_bitCount_0f7a4_21 ?_
  refine lv_iadd hx hb dJ6_bitCount_0f7a4_22 ?_
  refine k_let hf (fun v2 hf => ?_)
  refine lv_istore_n (lv' := [(0, .int v2)]) hx hb dJ6_bitCount_0f7a4_23 rfl hl (by decide) rfl (fun ls hl => ?_)
  refine lv_iload_n hx hb dJ6_bitCount_0f7a4_24 rfl (lv_at hl 0 rfl) ?_
  refine lv_iload_n hx hb dJ6_bitCount_0f7a4_25 rfl (lv_at hl 0 rfl) ?_
  refine lv_iconst (v := (4 : Int32)) hx hb dJ6_bitCount_0f7a4_26 (by decide) ?_
  refine lv_iushr hx hb dJ6_bitCount_0f7a4_27 rfl ?_
  refine lv_iadd hx hb dJ6_bitCount_0f7a4_28 ?_
  refine lv_ldcw (v := (252645135 : Int32)) hx hb hown ln3 dJ6_bitCount_0f7a4_29 ?_
  refine lv_iand hx hb dJ6_bitCount_0f7a4_32 ?_
  refine k_let hf (fun v3 hf => ?_)
  refine lv_istore_n (lv' := [(0, .int v3)]) hx hb dJ6_bitCount_0f7a4_33 rfl hl (by decide) rfl (fun ls hl => ?_)
  refine lv_iload_n hx hb dJ6_bitCount_0f7a4_34 rfl (lv_at hl 0 rfl) ?_
  refine lv_iload_n hx hb dJ6_bitCount_0f7a4_35 rfl (lv_at hl 0 rfl) ?_
  refine lv_bipush (v := (8 : Int32)) hx hb dJ6_bitCount_0f7a4_36 (by decide) ?_
  refine lv_iushr hx hb dJ6_bitCount_0f7a4_38 rfl ?_
  refine lv_iadd hx hb dJ6_bitCount_0f7a4_39 ?_
  refine k_let hf (fun v4 hf => ?_)
  refine lv_istore_n (lv' := [(0, .int v4)]) hx hb dJ6_bitCount_0f7a4_40 rfl hl (by decide) rfl (fun ls hl => ?_)
  refine lv_iload_n hx hb dJ6_bitCount_0f7a4_41 rfl (lv_at hl 0 rfl) ?_
  refine lv_iload_n hx hb dJ6_bitCount_0f7a4_42 rfl (lv_at hl 0 rfl) ?_
  refine lv_bipush (v := (16 : Int32)) hx hb dJ6_bitCount_0f7a4_43 (by decide) ?_
  refine lv_iushr hx hb dJ6_bitCount_0f7a4_45 rfl ?_
  refine lv_iadd hx hb dJ6_bitCount_0f7a4_46 ?_
  refine k_let hf (fun v5 hf => ?_)
  refine lv_istore_n (lv' := [(0, .int v5)]) hx hb dJ6_bitCount_0f7a4_47 rfl hl (by decide) rfl (fun ls hl => ?_)
  refine lv_iload_n hx hb dJ6_bitCount_0f7a4_48 rfl (lv_at hl 0 rfl) ?_
  refine lv_bipush (v := (63 : Int32)) hx hb dJ6_bitCount_0f7a4_49 (by decide) ?_
  refine lv_iand hx hb dJ6_bitCount_0f7a4_51 ?_
  exact R_iret hx hb hr hlk hS hsz hf dJ6_bitCount_0f7a4_52
