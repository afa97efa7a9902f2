def fX3_day_L59 (N : Nat)  (z : St) (y0 : Int32) (y1 : Int32) : Option St :=
    bo (wrI z 0 38 y1 y0) (fun z11 =>
    some z11)
def fX3_day_L38 (N : Nat)  (z : St) (y0 : Int32) (y1 : Int32) : Option St :=
    lt_ ((y1 + y0) : Int32) (fun v9 =>
    if 0 ≤ v9 then bo (fX3_least N (20 : Int32) v9) (fun v10 =>
    fX3_day_L59 N  z v10 (2 : Int32))
    else fX3_day_L59 N  z (0 : Int32) (2 : Int32))
def fX3_day (N : Nat) (σ : St) (p2 : Int32) : Option St :=
    bo (rdI σ 0 38 (1 : Int32)) (fun v1 =>
    lt_ ((v1 + (1 : Int32)) : Int32) (fun v3 =>
    bo (wrI σ 0 38 (1 : Int32) v3) (fun z2 =>
    bo (fX3_pullIn N z2) (fun v4 =>
    lt_ ((v4 + p2) : Int32) (fun v5 =>
    bo (fX3_sized N v5) (fun v6 =>
    bo (fX3_least N (3 : Int32) (v6 / (4 : Int32))) (fun v7 =>
    bo (rdI z2 0 38 (2 : Int32)) (fun v8 =>
    if v5 ≤ 0 then fX3_day_L38 N  z2 v7 v8
    else fX3_day_L38 N  z2 (-v7) v8))))))))
abbrev rmX3_day : Room := { frames := 6, cells := 0, slots := 0, locals := 132 }
theorem qX3_day : yX3_day.cls ≠ "java/lang/invoke/MethodHandle" ∧ yX3_day.cls ≠ "java/lang/invoke/VarHandle" ∧ (parseMethodDescriptor yX3_day.desc).map (fun d => d.parameters.length) = some 2 := by decide +kernel
set_option maxHeartbeats 400000 in
set_option maxRecDepth 100000 in
theorem mX3_day (l : Launch) (D : va_G) (cI cJ : ClassId) (a : Nat → Nat) (sz N : Nat) (σ : St) (p2 : Int32) (r : St) (hf : fX3_day N σ p2 = some r) : Met l yX3_day wsX3_day rmX3_day (WPre ([.ref (a 0), .int p2] : List Value) sz D (tyIJ cI cJ) (wAr cI a σ)) (WQv sz D (wAr cI a σ) (wAr cI a r)) 0 0 (va_A (wAr cI a σ) sz) := by
  refine W_start (cc := cX3_day) (maxL := 5) (ret := none) (by decide) rfl (Nat.le_of_ble_eq_true rfl) (fun p e s m below meth c ls A hx hb hr hml hown hts hlk hP hK hS hA hD0 hAe hl => ?_)
  have hD : ∀ z, va_D A ((fun z => wAr cI a z) z) := fun z => hD0.ad rfl
  have hown : s.vm.findClass RX3 = some m.cls := hown
  have hl : lv_has ls 5 [(0, .ref (a 0)), (1, .int p2)] := hl
  have b59 : ∀  (z : St) (y0 : Int32) (y1 : Int32) (H : Heap) (locs : List Loc) (ls : Array Slot), va_P D vwCl (wAr cI a z) H → va_S A s.heap H locs → lv_has ls 5 [] → fX3_day_L59 N z y0 y1 = some r → W p l e rmX3_day s m ([.ref (a 0), .int p2] : List Value).toArray below meth c H locs 0 0 (MQ below (WQv sz D (wAr cI a σ) (wAr cI a r)) ([.ref (a 0), .int p2] : List Value).toArray s 0 0 A) (F0 m 59 ls [.int y0, .int y1, .ref (a 0)]) := by
    intro  z y0 y1 H locs ls hP hS hl hf
    unfold fX3_day_L59 at hf
    refine k_iast (w := (fun z => wAr cI a z)) hx hb hK hP hD hS 0 0 hf rfl rfl (fun _ => rfl) dX3_day_59 (fun z11 H locs hP hS hf => ?_)
    exact W_vret (fun z => wAr cI a z) hx hb hr hlk hP hS hAe hf dX3_day_60
  have b38 : ∀  (z : St) (y0 : Int32) (y1 : Int32) (H : Heap) (locs : List Loc) (ls : Array Slot), va_P D vwCl (wAr cI a z) H → va_S A s.heap H locs → lv_has ls 5 [(0, .ref (a 0))] → fX3_day_L38 N z y0 y1 = some r → W p l e rmX3_day s m ([.ref (a 0), .int p2] : List Value).toArray below meth c H locs 0 0 (MQ below (WQv sz D (wAr cI a σ) (wAr cI a r)) ([.ref (a 0), .int p2] : List Value).toArray s 0 0 A) (F0 m 38 ls [.int y0, .int y1]) := by
    intro  z y0 y1 H locs ls hP hS hl hf
    unfold fX3_day_L38 at hf
    refine lv_iadd hx hb dX3_day_38 ?_
    refine k_let hf (fun v9 hf => ?_)
    refine lv_istore (lv' := [(4, .int v9), (0, .ref (a 0))]) hx hb dX3_day_39 hl (by decide) rfl (fun ls hl => ?_)
    refine lv_aload_n hx hb dX3_day_41 rfl (lv_at hl 1 rfl) ?_
    refine lv_iconst (v := (2 : Int32)) hx hb dX3_day_42 (by decide) ?_
    refine lv_iload hx hb dX3_day_43 (lv_at hl 0 rfl) ?_
    refine k_if_ge (tgt := 52) hx hb dX3_day_45 (by decide) hf (fun hf => ?_) (fun hf => ?_)
    · refine lv_bipush (v := (20 : Int32)) hx hb dX3_day_52 (by decide) ?_
      refine lv_iload hx hb dX3_day_54 (lv_at hl 0 rfl) ?_
      refine c_callS (As := [.int (20 : Int32), .int v9]) (rest := [.int (2 : Int32), .ref (a 0)]) ⟨hx, hb, hml, hown, hts⟩ hf (fun vq hq => mX3_least l D cI cJ H.size N (20 : Int32) v9 vq hq) (va_cwS 2 hts gX3_day_X3_least rfl rfl rfl qX3_least ⟨Nat.le_of_ble_eq_true rfl, Nat.le_of_ble_eq_true rfl⟩) hK hP hS hA va_P_nil rfl hl.1 rfl (Nat.le_of_ble_eq_true rfl) dX3_day_56 ⟨Nat.le_refl _, Nat.le_refl _⟩ (fun v10 H locs hP hS hf => ?_)
      exact b59  z v10 (2 : Int32) H locs ls hP hS (lv_sub hl [] rfl) hf
    · refine lv_iconst (v := (0 : Int32)) hx hb dX3_day_48 (by decide) ?_
      refine lv_goto (tgt := 59) hx hb dX3_day_49 (by decide) ?_
      exact b59  z (0 : Int32) (2 : Int32) H locs ls hP hS (lv_sub hl [] rfl) hf
  unfold fX3_day at hf
  refine lv_aload_n hx hb dX3_day_0 rfl (lv_at hl 0 rfl) ?_
  refine lv_iconst (v := (1 : Int32)) hx hb dX3_day_1 (by decide) ?_
  refine lv_dup2_11 hx hb dX3_day_2 rfl rfl ?_
  refine k_iald hx hb hK hP 0 0 hf rfl rfl dX3_day_3 (fun v1 hf => ?_)
  refine lv_iconst (v := (1 : Int32)) hx hb dX3_day_4 (by decide) ?_
  refine lv_iadd hx hb dX3_day_5 ?_
  refine k_let hf (fun v3 hf => ?_)
  refine k_iast (w := (fun z => wAr cI a z)) hx hb hK hP hD hS 0 0 hf rfl rfl (fun _ => rfl) dX3_day_6 (fun z2 H locs hP hS hf => ?_)
  refine lv_aload_n hx hb dX3_day_7 rfl (lv_at hl 0 rfl) ?_
  refine c_callS (As := [.ref (a 0)]) (rest := []) ⟨hx, hb, hml, hown, hts⟩ hf (fun vq hq => mX3_pullIn l D cI cJ a H.size N z2 vq hq) (va_cwS 1 hts gX3_day_X3_pullIn rfl rfl rfl qX3_pullIn ⟨Nat.le_of_ble_eq_true rfl, Nat.le_of_ble_eq_true rfl⟩) hK hP hS hA hP rfl hl.1 rfl (Nat.le_of_ble_eq_true rfl) dX3_day_8 ⟨Nat.le_refl _, Nat.le_refl _⟩ (fun v4 H locs hP hS hf => ?_)
  refine lv_iload_n hx hb dX3_day_11 rfl (lv_at hl 1 rfl) ?_
  refine lv_iadd hx hb dX3_day_12 ?_
  refine k_let hf (fun v5 hf => ?_)
  refine lv_istore_n (lv' := [(2, .int v5), (0, .ref (a 0)), (1, .int p2)]) hx hb dX3_day_13 rfl hl (by decide) rfl (fun ls hl => ?_)
  refine lv_iconst (v := (3 : Int32)) hx hb dX3_day_14 (by decide) ?_
  refine lv_iload_n hx hb dX3_day_15 rfl (lv_at hl 0 rfl) ?_
  refine c_callS (As := [.int v5]) (rest := [.int (3 : Int32)]) ⟨hx, hb, hml, hown, hts⟩ hf (fun vq hq => mX3_sized l D cI cJ H.size N v5 vq hq) (va_cwS 1 hts gX3_day_X3_sized rfl rfl rfl qX3_sized ⟨Nat.le_of_ble_eq_true rfl, Nat.le_of_ble_eq_true rfl⟩) hK hP hS hA va_P_nil rfl hl.1 rfl (Nat.le_of_ble_eq_true rfl) dX3_day_16 ⟨Nat.le_refl _, Nat.le_refl _⟩ (fun v6 H locs hP hS hf => ?_)
  refine lv_iconst (v := (4 : Int32)) hx hb dX3_day_19 (by decide) ?_
  refine lv_idiv hx hb dX3_day_20 (by decide) ?_
  refine c_callS (As := [.int (3 : Int32), .int (v6 / (4 : Int32))]) (rest := []) ⟨hx, hb, hml, hown, hts⟩ hf (fun vq hq => mX3_least l D cI cJ H.size N (3 : Int32) (v6 / (4 : Int32)) vq hq) (va_cwS 2 hts gX3_day_X3_least rfl rfl rfl qX3_least ⟨Nat.le_of_ble_eq_true rfl, Nat.le_of_ble_eq_true rfl⟩) hK hP hS hA va_P_nil rfl hl.1 rfl (Nat.le_of_ble_eq_true rfl) dX3_day_21 ⟨Nat.le_refl _, Nat.le_refl _⟩ (fun v7 H locs hP hS hf => ?_)
  refine lv_istore_n (lv' := [(3, .int v7), (2, .int v5), (0, .ref (a 0)), (1, .int p2)]) hx hb dX3_day_24 rfl hl (by decide) rfl (fun ls hl => ?_)
  refine lv_aload_n hx hb dX3_day_25 rfl (lv_at hl 2 rfl) ?_
  refine lv_iconst (v := (2 : Int32)) hx hb dX3_day_26 (by decide) ?_
  refine k_iald hx hb hK hP 0 0 hf rfl rfl dX3_day_27 (fun v8 hf => ?_)
  refine lv_iload_n hx hb dX3_day_28 rfl (lv_at hl 1 rfl) ?_
  refine k_if_le (tgt := 37) hx hb dX3_day_29 (by decide) hf (fun hf => ?_) (fun hf => ?_)
  · refine lv_iload_n hx hb dX3_day_37 rfl (lv_at hl 0 rfl) ?_
    exact b38  z2 v7 v8 H locs ls hP hS (lv_sub hl [2] rfl) hf
  · refine lv_iload_n hx hb dX3_day_32 rfl (lv_at hl 0 rfl) ?_
    refine lv_ineg hx hb dX3_day_33 ?_
    refine lv_goto (tgt := 38) hx hb dX3_day_34 (by decide) ?_
    exact b38  z2 (-v7) v8 H locs ls hP hS (lv_sub hl [2] rfl) hf
def fX3_daysOn_L2 (N : Nat)  : Nat → St → Int32 → Int32 → Option St
  | 0, _, _, _ => none
  | n + 1, z, x1, x2 =>
    if x1 ≤ x2 then some z
    else by_ (fX3_day N z (0 : Int32)) (fun uq => uq) (fun z1 =>
    lt_ (x2 + (1 : Int32) : Int32) (fun v2 =>
    (fX3_daysOn_L2 N n) z1 x1 v2))
def fX3_daysOn (N : Nat) (σ : St) (p2 : Int32) : Option St :=
    fX3_daysOn_L2 N  N σ p2 (0 : Int32)
abbrev rmX3_daysOn : Room := { frames := 7, cells := 0, slots := 0, locals := 156 }
theorem qX3_daysOn : yX3_daysOn.cls ≠ "java/lang/invoke/MethodHandle" ∧ yX3_daysOn.cls ≠ "java/lang/invoke/VarHandle" ∧ (parseMethodDescriptor yX3_daysOn.desc).map (fun d => d.parameters.length) = some 2 := by decide +kernel
set_option maxHeartbeats 400000 in
set_option maxRecDepth 100000 in
theorem mX3_daysOn (l : Launch) (D : va_G) (cI cJ : ClassId) (a : Nat → Nat) (sz N : Nat) (σ : St) (p2 : Int32) (r : St) (hf : fX3_daysOn N σ p2 = some r) : Met l yX3_daysOn wsX3_daysOn rmX3_daysOn (WPre ([.ref (a 0), .int p2] : List Value) sz D (tyIJ cI cJ) (wAr cI a σ)) (WQv sz D (wAr cI a σ) (wAr cI a r)) 0 0 (va_A (wAr cI a σ) sz) := by
  refine W_start (cc := cX3_daysOn) (maxL := 3) (ret := none) (by decide) rfl (Nat.le_of_ble_eq_true rfl) (fun p e s m below meth c ls A hx hb hr hml hown hts hlk hP hK hS hA hD0 hAe hl => ?_)
  have hD : ∀ z, va_D A ((fun z => wAr cI a z) z) := fun z => hD0.ad rfl
  have hown : s.vm.findClass RX3 = some m.cls := hown
  have hl : lv_has ls 3 [(0, .ref (a 0)), (1, .int p2)] := hl
  have b2 : ∀  (n : Nat) (z : St) (x1 : Int32) (x2 : Int32) (H : Heap) (locs : List Loc) (ls : Array Slot), va_P D vwCl (wAr cI a z) H → va_S A s.heap H locs → lv_has ls 3 [(0, .ref (a 0)), (1, .int x1), (2, .int x2)] → fX3_daysOn_L2 N n z x1 x2 = some r → W p l e rmX3_daysOn s m ([.ref (a 0), .int p2] : List Value).toArray below meth c H locs 0 0 (MQ below (WQv sz D (wAr cI a σ) (wAr cI a r)) ([.ref (a 0), .int p2] : List Value).toArray s 0 0 A) (F0 m 2 ls []) := by
    intro n
    induction n with
    | zero => intro z x1 x2 H locs ls hP hS hl hf; cases hf
    | succ n ih =>
      intro z x1 x2 H locs ls hP hS hl hf
      rw [fX3_daysOn_L2] at hf
      refine lv_iload_n hx hb dX3_daysOn_2 rfl (lv_at hl 2 rfl) ?_
      refine lv_iload_n hx hb dX3_daysOn_3 rfl (lv_at hl 1 rfl) ?_
      refine k_icmp_ge (tgt := 18) hx hb dX3_daysOn_4 (by decide) hf (fun hf => ?_) (fun hf => ?_)
      · exact W_vret (fun z => wAr cI a z) hx hb hr hlk hP hS hAe hf dX3_daysOn_18
      · refine lv_aload_n hx hb dX3_daysOn_7 rfl (lv_at hl 0 rfl) ?_
        refine lv_iconst (v := (0 : Int32)) hx hb dX3_daysOn_8 (by decide) ?_
        refine d_callSv (As := [.ref (a 0), .int (0 : Int32)]) (rest := []) (w := (fun z => wAr cI a z)) (wc := (wAr cI a)) (put := (fun uq => uq)) (σ := z) (τ0 := z) ⟨hx, hb, hml, hown, hts⟩ hf (fun zq hq => mX3_day l D cI cJ a H.size N z (0 : Int32) zq hq) (va_cwS 2 hts gX3_daysOn_X3_day rfl rfl rfl qX3_day ⟨Nat.le_of_ble_eq_true rfl, Nat.le_of_ble_eq_true rfl⟩) hK hP hD hS hA ⟨hP, hD _, fun _ _ _ h => h⟩ rfl hl.1 rfl (Nat.le_of_ble_eq_true rfl) dX3_daysOn_9 ⟨Nat.le_refl _, Nat.le_refl _⟩ (fun z1 H locs hP hS hf => ?_)
        refine k_iinc (d := (1 : Int32)) (lv' := fun v2 => [(2, .int v2), (0, .ref (a 0)), (1, .int x1)]) hx hb dX3_daysOn_12 hl (k := 2) rfl (by decide) (by decide) (fun _ => rfl) hf (fun v2 ls hl hf => ?_)
        refine lv_goto (tgt := 2) hx hb dX3_daysOn_15 (by decide) ?_
        exact ih z1 x1 v2 H locs ls hP hS (lv_sub hl [1, 2, 0] rfl) hf
  unfold fX3_daysOn at hf
  refine lv_iconst (v := (0 : Int32)) hx hb dX3_daysOn_0 (by decide) ?_
  refine lv_istore_n (lv' := [(2, .int (0 : Int32)), (0, .ref (a 0)), (1, .int p2)]) hx hb dX3_daysOn_1 rfl hl (by decide) rfl (fun ls hl => ?_)
  exact b2  N σ p2 (0 : Int32) s.heap [] ls hP hS (lv_sub hl [1, 2, 0] rfl) hf
def fX3_hangsIn (N : Nat) (σ : St) (p2 : Int32) (p3 : Int32) : Option St :=
    bo (fX3_of N p2 (2 : Int32)) (fun v1 =>
    bo (wrI σ 0 38 v1 p3) (fun z2 =>
    bo (fX3_of N p2 (3 : Int32)) (fun v3 =>
    bo (rdI z2 0 38 (1 : Int32)) (fun v4 =>
    bo (wrI z2 0 38 v3 v4) (fun z5 =>
    some z5)))))
abbrev rmX3_hangsIn : Room := { frames := 1, cells := 0, slots := 0, locals := 21 }
theorem qX3_hangsIn : yX3_hangsIn.cls ≠ "java/lang/invoke/MethodHandle" ∧ yX3_hangsIn.cls ≠ "java/lang/invoke/VarHandle" ∧ (parseMethodDescriptor yX3_hangsIn.desc).map (fun d => d.parameters.length) = some 3 := by decide +kernel
set_option maxHeartbeats 400000 in
set_option maxRecDepth 100000 in
theorem mX3_hangsIn (l : Launch) (D : va_G) (cI cJ : ClassId) (a : Nat → Nat) (sz N : Nat) (σ : St) (p2 : Int32) (p3 : Int32) (r : St) (hf : fX3_hangsIn N σ p2 p3 = some r) : Met l yX3_hangsIn wsX3_hangsIn rmX3_hangsIn (WPre ([.ref (a 0), .int p2, .int p3] : List Value) sz D (tyIJ cI cJ) (wAr cI a σ)) (WQv sz D (wAr cI a σ) (wAr cI a r)) 0 0 (va_A (wAr cI a σ) sz) := by
  refine W_start (cc := cX3_hangsIn) (maxL := 3) (ret := none) (by decide) rfl (Nat.le_of_ble_eq_true rfl) (fun p e s m below meth c ls A hx hb hr hml hown hts hlk hP hK hS hA hD0 hAe hl => ?_)
  have hD : ∀ z, va_D A ((fun z => wAr cI a z) z) := fun z => hD0.ad rfl
  have hown : s.vm.findClass RX3 = some m.cls := hown
  have hl : lv_has ls 3 [(0, .ref (a 0)), (1, .int p2), (2, .int p3)] := hl
  unfold fX3_hangsIn at hf
  refine lv_aload_n hx hb dX3_hangsIn_0 rfl (lv_at hl 0 rfl) ?_
  refine lv_iload_n hx hb dX3_hangsIn_1 rfl (lv_at hl 1 rfl) ?_
  refine lv_iconst (v := (2 : Int32)) hx hb dX3_hangsIn_2 (by decide) ?_
  refine c_callS (As := [.int p2, .int (2 : Int32)]) (rest := [.ref (a 0)]) ⟨hx, hb, hml, hown, hts⟩ hf (fun vq hq => mX3_of l D cI cJ s.heap.size N p2 (2 : Int32) vq hq) (va_cwS 2 hts gX3_hangsIn_X3_of rfl rfl rfl qX3_of ⟨Nat.le_of_ble_eq_true rfl, Nat.le_of_ble_eq_true rfl⟩) hK hP hS hA va_P_nil rfl hl.1 rfl (Nat.le_of_ble_eq_true rfl) dX3_hangsIn_3 ⟨Nat.le_refl _, Nat.le_refl _⟩ (fun v1 H locs hP hS hf => ?_)
  refine lv_iload_n hx hb dX3_hangsIn_6 rfl (lv_at hl 2 rfl) ?_
  refine k_iast (w := (fun z => wAr cI a z)) hx hb hK hP hD hS 0 0 hf rfl rfl (fun _ => rfl) dX3_hangsIn_7 (fun z2 H locs hP hS hf => ?_)
  refine lv_aload_n hx hb dX3_hangsIn_8 rfl (lv_at hl 0 rfl) ?_
  refine lv_iload_n hx hb dX3_hangsIn_9 rfl (lv_at hl 1 rfl) ?_
  refine lv_iconst (v := (3 : Int32)) hx hb dX3_hangsIn_10 (by decide) ?_
  refine c_callS (As := [.int p2, .int (3 : Int32)]) (rest := [.ref (a 0)]) ⟨hx, hb, hml, hown, hts⟩ hf (fun vq hq => mX3_of l D cI cJ H.size N p2 (3 : Int32) vq hq) (va_cwS 2 hts gX3_hangsIn_X3_of rfl rfl rfl qX3_of ⟨Nat.le_of_ble_eq_true rfl, Nat.le_of_ble_eq_true rfl⟩) hK hP hS hA va_P_nil rfl hl.1 rfl (Nat.le_of_ble_eq_true rfl) dX3_hangsIn_11 ⟨Nat.le_refl _, Nat.le_refl _⟩ (fun v3 H locs hP hS hf => ?_)
  refine lv_aload_n hx hb dX3_hangsIn_14 rfl (lv_at hl 0 rfl) ?_
  refine lv_iconst (v := (1 : Int32)) hx hb dX3_hangsIn_15 (by decide) ?_
  refine k_iald hx hb hK hP 0 0 hf rfl rfl dX3_hangsIn_16 (fun v4 hf => ?_)
  refine k_iast (w := (fun z => wAr cI a z)) hx hb hK hP hD hS 0 0 hf rfl rfl (fun _ => rfl) dX3_hangsIn_17 (fun z5 H locs hP hS hf => ?_)
  exact W_vret (fun z => wAr cI a z) hx hb hr hlk hP hS hAe hf dX3_hangsIn_18
def fX3_letter_L27 (N : Nat)  (z : St) : Option (Int32 × St) :=
    bx (fX3_no N z (-6 : Int32)) (fun uq => uq) (fun v2 z1 =>
    some (v2, z1))
def fX3_letter (N : Nat) (σ : St) (p1 : Int32) : Option (Int32 × St) :=
    if 0 ≤ p1 then if (255 : Int32) < p1 then fX3_letter_L27 N  σ
    else if (σ 0 8) = (96 : Int32) then fX3_letter_L27 N  σ
    else bo (wrI σ 5 96 (σ 0 8) p1) (fun z3 =>
    lt_ (((z3 0 8) + (1 : Int32)) : Int32) (fun v4 =>
    lt_ (up2 z3 0 8 v4) (fun z5 =>
    some ((z5 0 8), z5))))
    else bx (fX3_no N σ (-4 : Int32)) (fun uq => uq) (fun v7 z6 =>
    some (v7, z6))
abbrev rmX3_letter : Room := { frames := 1, cells := 0, slots := 0, locals := 21 }
theorem qX3_letter : yX3_letter.cls = RX3 ∧ yX3_letter.cls ≠ "java/lang/invoke/MethodHandle" ∧ yX3_letter.cls ≠ "java/lang/invoke/VarHandle" ∧ (parseMethodDescriptor yX3_letter.desc).map (fun d => d.parameters.length) = some 1 := by decide +kernel
set_option maxHeartbeats 400000 in
set_option maxRecDepth 100000 in
theorem mX3_letter (l : Launch) (D : va_G) (cI cJ : ClassId) (a : Nat → Nat) (sz N : Nat) (σ : St) (p1 : Int32) (r : (Int32 × St)) (hf : fX3_letter N σ p1 = some r) : Met l yX3_letter wsX3_letter rmX3_letter (WPre ([.ref (a 0), .int p1] : List Value) sz D (tyIJ cI cJ) (wMo cI a σ)) (WQi sz D (wMo cI a σ) (wMo cI a (r.2)) r.1) 0 0 (va_A (wMo cI a σ) sz) := by
  refine W_start (cc := cX3_letter) (maxL := 2) (ret := (some .int)) (by decide) rfl (Nat.le_of_ble_eq_true rfl) (fun p e s m below meth c ls A hx hb hr hml hown hts hlk hP hK hS hA hD0 hAe hl => ?_)
  have hD : ∀ z, va_D A ((fun z => wMo cI a z) z) := fun z => hD0.ad rfl
  have hown : s.vm.findClass RX3 = some m.cls := hown
  have hl : lv_has ls 2 [(0, .ref (a 0)), (1, .int p1)] := hl
  have ln1 := hts (Cond.fieldLink RX3 86 "HoistsAreSharedModel" "letterMany" "I") (List.mem_of_getElem? (i := 1) rfl)
  have inX3 : ∀ w ∈ u_ws RX3 TX3 13, w ∈ wsX3_letter := fun _ h => List.mem_cons_of_mem _ (List.mem_append_right _ h)
  have ln3 := hts (Cond.fieldLink RX3 22 "HoistsAreSharedModel" "letters" "[I") (List.mem_of_getElem? (i := 2) rfl)
  have b27 : ∀  (z : St) (H : Heap) (locs : List Loc) (ls : Array Slot), va_P D vwCl (wMo cI a z) H → va_S A s.heap H locs → lv_has ls 2 [(0, .ref (a 0))] → fX3_letter_L27 N z = some r → W p l e rmX3_letter s m ([.ref (a 0), .int p1] : List Value).toArray below meth c H locs 0 0 (MQ below (WQi sz D (wMo cI a σ) (wMo cI a (r.2)) r.1) ([.ref (a 0), .int p1] : List Value).toArray s 0 0 A) (F0 m 27 ls []) := by
    intro  z H locs ls hP hS hl hf
    unfold fX3_letter_L27 at hf
    refine lv_aload_n hx hb dX3_letter_27 rfl (lv_at hl 0 rfl) ?_
    refine lv_bipush (v := (-6 : Int32)) hx hb dX3_letter_28 (by decide) ?_
    refine d_callV (As := [.int (-6 : Int32)]) (rest := []) (w := (fun z => wMo cI a z)) (wc := (wMo cI a)) (put := (fun uq => uq)) (σ := z) (τ0 := z) ⟨hx, hb, hml, hown, hts⟩ hf (fun vq zq hq => mX3_no l D cI cJ a H.size N z (-6 : Int32) (vq, zq) hq) (cwV 1 hts gX3_letter_X3_no rfl rfl rfl qX3_no ⟨Nat.le_of_ble_eq_true rfl, Nat.le_of_ble_eq_true rfl⟩) hK hP hD hS hA ⟨hP, hD _, fun _ _ _ h => h⟩ 3 rfl rfl rfl rfl hl.1 rfl (Nat.le_of_ble_eq_true rfl) dX3_letter_30 ⟨Nat.le_refl _, Nat.le_refl _⟩ (fun v2 z1 H locs hP hS hf => ?_)
    exact W_iret (fun z => wMo cI a z) hx hb hr hlk hP hS hAe hf dX3_letter_33
  unfold fX3_letter at hf
  refine lv_iload_n hx hb dX3_letter_0 rfl (lv_at hl 1 rfl) ?_
  refine k_if_ge (tgt := 11) hx hb dX3_letter_1 (by decide) hf (fun hf => ?_) (fun hf => ?_)
  · refine lv_iload_n hx hb dX3_letter_11 rfl (lv_at hl 1 rfl) ?_
    refine lv_sipush (v := (255 : Int32)) hx hb dX3_letter_12 (by decide) ?_
    refine k_icmp_gt (tgt := 27) hx hb dX3_letter_15 (by decide) hf (fun hf => ?_) (fun hf => ?_)
    · exact b27  σ s.heap [] ls hP hS (lv_sub hl [0] rfl) hf
    · refine lv_aload_n hx hb dX3_letter_18 rfl (lv_at hl 0 rfl) ?_
      refine va_get (D := D) (ci := 3) (v := .int (σ 0 8)) (C := RX3) (T := TX3) (N := 13) hx hb hts inX3 hown hK hP 0 rfl rfl 8 (by decide) ln1 (fun _ h9 => h9) rfl dX3_letter_19 ?_
      refine lv_bipush (v := (96 : Int32)) hx hb dX3_letter_22 (by decide) ?_
      refine k_icmp_ne (tgt := 34) hx hb dX3_letter_24 (by decide) hf (fun hf => ?_) (fun hf => ?_)
      · refine lv_aload_n hx hb dX3_letter_34 rfl (lv_at hl 0 rfl) ?_
        refine va_get (D := D) (ci := 3) (v := .ref (a 5)) (C := RX3) (T := TX3) (N := 13) hx hb hts inX3 hown hK hP 0 rfl rfl 5 (by decide) ln3 (fun _ h9 => h9) rfl dX3_letter_35 ?_
        refine lv_aload_n hx hb dX3_letter_38 rfl (lv_at hl 0 rfl) ?_
        refine va_get (D := D) (ci := 3) (v := .int (σ 0 8)) (C := RX3) (T := TX3) (N := 13) hx hb hts inX3 hown hK hP 0 rfl rfl 8 (by decide) ln1 (fun _ h9 => h9) rfl dX3_letter_39 ?_
        refine lv_iload_n hx hb dX3_letter_42 rfl (lv_at hl 1 rfl) ?_
        refine k_iast (w := (fun z => wMo cI a z)) hx hb hK hP hD hS 5 0 hf rfl rfl (fun _ => rfl) dX3_letter_43 (fun z3 H locs hP hS hf => ?_)
        refine lv_aload_n hx hb dX3_letter_44 rfl (lv_at hl 0 rfl) ?_
        refine lv_dup hx hb dX3_letter_45 rfl ?_
        refine va_get (D := D) (ci := 3) (v := .int (z3 0 8)) (C := RX3) (T := TX3) (N := 13) hx hb hts inX3 hown hK hP 0 rfl rfl 8 (by decide) ln1 (fun _ h9 => h9) rfl dX3_letter_46 ?_
        refine lv_iconst (v := (1 : Int32)) hx hb dX3_letter_49 (by decide) ?_
        refine lv_iadd hx hb dX3_letter_50 ?_
        refine k_let hf (fun v4 hf => ?_)
        refine k_put (ci := 3) (C := RX3) (T := TX3) (N := 13) (ty := .int) (w := (fun z => wMo cI a z)) hx hb hts inX3 tyX3 tyX3_ok nmX3 hown hK hP hD hS 0 rfl rfl 8 (by decide) ln1 (fun _ h9 => h9) rfl (by decide +kernel) rfl rfl (Nat.le_of_ble_eq_true rfl) (cN := 0) hf rfl dX3_letter_51 (fun z5 H locs hP hS hf => ?_)
        refine lv_aload_n hx hb dX3_letter_54 rfl (lv_at hl 0 rfl) ?_
        refine va_get (D := D) (ci := 3) (v := .int (z5 0 8)) (C := RX3) (T := TX3) (N := 13) hx hb hts inX3 hown hK hP 0 rfl rfl 8 (by decide) ln1 (fun _ h9 => h9) rfl dX3_letter_55 ?_
        exact W_iret (fun z => wMo cI a z) hx hb hr hlk hP hS hAe hf dX3_letter_58
      · exact b27  σ s.heap [] ls hP hS (lv_sub hl [0] rfl) hf
  · refine lv_aload_n hx hb dX3_letter_4 rfl (lv_at hl 0 rfl) ?_
    refine lv_bipush (v := (-4 : Int32)) hx hb dX3_letter_5 (by decide) ?_
    refine d_callV (As := [.int (-4 : Int32)]) (rest := []) (w := (fun z => wMo cI a z)) (wc := (wMo cI a)) (put := (fun uq => uq)) (σ := σ) (τ0 := σ) ⟨hx, hb, hml, hown, hts⟩ hf (fun vq zq hq => mX3_no l D cI cJ a s.heap.size N σ (-4 : Int32) (vq, zq) hq) (cwV 1 hts gX3_letter_X3_no rfl rfl rfl qX3_no ⟨Nat.le_of_ble_eq_true rfl, Nat.le_of_ble_eq_true rfl⟩) hK hP hD hS hA ⟨hP, hD _, fun _ _ _ h => h⟩ 3 rfl rfl rfl rfl hl.1 rfl (Nat.le_of_ble_eq_true rfl) dX3_letter_7 ⟨Nat.le_refl _, Nat.le_refl _⟩ (fun v7 z6 H locs hP hS hf => ?_)
    exact W_iret (fun z => wMo cI a z) hx hb hr hlk hP hS hAe hf dX3_letter_10
def fX3_here (N : Nat) (σ : St)  : Option Int32 :=
    if (σ 0 8) ≤ (σ 0 10) then some (-1 : Int32)
    else bo (rdI σ 5 96 (σ 0 10)) (fun v1 =>
    some v1)
abbrev rmX3_here : Room := { frames := 0, cells := 0, slots := 0, locals := 0 }
theorem qX3_here : yX3_here.cls = RX3 ∧ yX3_here.cls ≠ "java/lang/invoke/MethodHandle" ∧ yX3_here.cls ≠ "java/lang/invoke/VarHandle" ∧ (parseMethodDescriptor yX3_here.desc).map (fun d => d.parameters.length) = some 0 := by decide +kernel
set_option maxHeartbeats 400000 in
set_option maxRecDepth 100000 in
theorem mX3_here (l : Launch) (D : va_G) (cI cJ : ClassId) (a : Nat → Nat) (sz N : Nat) (σ : St)  (r : Int32) (hf : fX3_here N σ = some r) : Met l yX3_here wsX3_here rmX3_here (RPre ([.ref (a 0)] : List Value) sz D (tyIJ cI cJ) (wMo cI a σ)) (RQi sz r) 0 0 (fr0 sz) := by
  refine R_start (cc := cX3_here) (maxL := 1) (ret := (some .int)) (by decide) rfl (Nat.le_of_ble_eq_true rfl) (fun p e s m below meth c ls hx hb hr hml hown hts hlk hP hK hS hA hsz hl => ?_)
  have hown : s.vm.findClass RX3 = some m.cls := hown
  have hl : lv_has ls 1 [(0, .ref (a 0))] := hl
  have ln1 := hts (Cond.fieldLink RX3 90 "HoistsAreSharedModel" "place" "I") (List.mem_of_getElem? (i := 1) rfl)
  have inX3 : ∀ w ∈ u_ws RX3 TX3 13, w ∈ wsX3_here := fun _ h => List.mem_cons_of_mem _ (List.mem_append_right _ h)
  have ln3 := hts (Cond.fieldLink RX3 86 "HoistsAreSharedModel" "letterMany" "I") (List.mem_of_getElem? (i := 2) rfl)
  have ln4 := hts (Cond.fieldLink RX3 22 "HoistsAreSharedModel" "letters" "[I") (List.mem_of_getElem? (i := 3) rfl)
  unfold fX3_here at hf
  refine lv_aload_n hx hb dX3_here_0 rfl (lv_at hl 0 rfl) ?_
  refine va_get (D := D) (ci := 3) (v := .int (σ 0 10)) (C := RX3) (T := TX3) (N := 13) hx hb hts inX3 hown hK hP 0 rfl rfl 10 (by decide) ln1 (fun _ h9 => h9) rfl dX3_here_1 ?_
  refine lv_aload_n hx hb dX3_here_4 rfl (lv_at hl 0 rfl) ?_
  refine va_get (D := D) (ci := 3) (v := .int (σ 0 8)) (C := RX3) (T := TX3) (N := 13) hx hb hts inX3 hown hK hP 0 rfl rfl 8 (by decide) ln3 (fun _ h9 => h9) rfl dX3_here_5 ?_
  refine k_icmp_ge (tgt := 23) hx hb dX3_here_8 (by decide) hf (fun hf => ?_) (fun hf => ?_)
  · refine lv_iconst (v := (-1 : Int32)) hx hb dX3_here_23 (by decide) ?_
    exact R_iret hx hb hr hlk hS hsz hf dX3_here_24
  · refine lv_aload_n hx hb dX3_here_11 rfl (lv_at hl 0 rfl) ?_
    refine va_get (D := D) (ci := 3) (v := .ref (a 5)) (C := RX3) (T := TX3) (N := 13) hx hb hts inX3 hown hK hP 0 rfl rfl 5 (by decide) ln4 (fun _ h9 => h9) rfl dX3_here_12 ?_
    refine lv_aload_n hx hb dX3_here_15 rfl (lv_at hl 0 rfl) ?_
    refine va_get (D := D) (ci := 3) (v := .int (σ 0 10)) (C := RX3) (T := TX3) (N := 13) hx hb hts inX3 hown hK hP 0 rfl rfl 10 (by decide) ln1 (fun _ h9 => h9) rfl dX3_here_16 ?_
    refine k_iald hx hb hK hP 5 0 hf rfl rfl dX3_here_19 (fun v1 hf => ?_)
    refine lv_goto (tgt := 24) hx hb dX3_here_20 (by decide) ?_
    exact R_iret hx hb hr hlk hS hsz hf dX3_here_24
def fX3_readsNumber_L9 (N : Nat)  : Nat → St → Int32 → Int32 → Int32 → Option (Int32 × St)
  | 0, _, _, _, _ => none
  | n + 1, z, x1, x2, x3 =>
    if x2 ≤ x3 then bo (zr (1 : Int32)) (fun v => some (v, z))
    else bo (fX3_here N z) (fun v2 =>
    bo (fX3_isIn N v2 (48 : Int32) (57 : Int32)) (fun v3 =>
    if v3 = 0 then bo (zr (0 : Int32)) (fun v => some (v, z))
    else bo (rdI z 8 3 x1) (fun v4 =>
    bo (fX3_here N z) (fun v5 =>
    lt_ (((((10 : Int32) * v4) + v5) - (48 : Int32)) : Int32) (fun v7 =>
    bo (wrI z 8 3 x1 v7) (fun z6 =>
    lt_ (((z6 0 10) + (1 : Int32)) : Int32) (fun v8 =>
    lt_ (up2 z6 0 10 v8) (fun z9 =>
    lt_ (x3 + (1 : Int32) : Int32) (fun v10 =>
    (fX3_readsNumber_L9 N n) z9 x1 x2 v10)))))))))
def fX3_readsNumber (N : Nat) (σ : St) (p1 : Int32) (p2 : Int32) : Option (Int32 × St) :=
    bo (wrI σ 8 3 p1 (0 : Int32)) (fun z1 =>
    fX3_readsNumber_L9 N  N z1 p1 p2 (0 : Int32))
abbrev rmX3_readsNumber : Room := { frames := 1, cells := 0, slots := 0, locals := 22 }
theorem qX3_readsNumber : yX3_readsNumber.cls = RX3 ∧ yX3_readsNumber.cls ≠ "java/lang/invoke/MethodHandle" ∧ yX3_readsNumber.cls ≠ "java/lang/invoke/VarHandle" ∧ (parseMethodDescriptor yX3_readsNumber.desc).map (fun d => d.parameters.length) = some 2 := by decide +kernel
set_option maxHeartbeats 400000 in
set_option maxRecDepth 100000 in
theorem mX3_readsNumber (l : Launch) (D : va_G) (cI cJ : ClassId) (a : Nat → Nat) (sz N : Nat) (σ : St) (p1 : Int32) (p2 : Int32) (r : (Int32 × St)) (hf : fX3_readsNumber N σ p1 p2 = some r) : Met l yX3_readsNumber wsX3_readsNumber rmX3_readsNumber (WPre ([.ref (a 0), .int p1, .int p2] : List Value) sz D (tyIJ cI cJ) (wMo cI a σ)) (WQi sz D (wMo cI a σ) (wMo cI a (r.2)) r.1) 0 0 (va_A (wMo cI a σ) sz) := by
  refine W_start (cc := cX3_readsNumber) (maxL := 4) (ret := (some .boolean)) (by decide) rfl (Nat.le_of_ble_eq_true rfl) (fun p e s m below meth c ls A hx hb hr hml hown hts hlk hP hK hS hA hD0 hAe hl => ?_)
  have hD : ∀ z, va_D A ((fun z => wMo cI a z) z) := fun z => hD0.ad rfl
  have hown : s.vm.findClass RX3 = some m.cls := hown
  have hl : lv_has ls 4 [(0, .ref (a 0)), (1, .int p1), (2, .int p2)] := hl
  have ln1 := hts (Cond.fieldLink RX3 31 "HoistsAreSharedModel" "numbers" "[I") (List.mem_of_getElem? (i := 1) rfl)
  have inX3 : ∀ w ∈ u_ws RX3 TX3 13, w ∈ wsX3_readsNumber := fun _ h => List.mem_cons_of_mem _ (List.mem_append_right _ h)
  have ln3 := hts (Cond.fieldLink RX3 90 "HoistsAreSharedModel" "place" "I") (List.mem_of_getElem? (i := 2) rfl)
  have b9 : ∀  (n : Nat) (z : St) (x1 : Int32) (x2 : Int32) (x3 : Int32) (H : Heap) (locs : List Loc) (ls : Array Slot), va_P D vwCl (wMo cI a z) H → va_S A s.heap H locs → lv_has ls 4 [(0, .ref (a 0)), (1, .int x1), (2, .int x2), (3, .int x3)] → fX3_readsNumber_L9 N n z x1 x2 x3 = some r → W p l e rmX3_readsNumber s m ([.ref (a 0), .int p1, .int p2] : List Value).toArray below meth c H locs 0 0 (MQ below (WQi sz D (wMo cI a σ) (wMo cI a (r.2)) r.1) ([.ref (a 0), .int p1, .int p2] : List Value).toArray s 0 0 A) (F0 m 9 ls []) := by
    intro n
    induction n with
    | zero => intro z x1 x2 x3 H locs ls hP hS hl hf; cases hf
    | succ n ih =>
      intro z x1 x2 x3 H locs ls hP hS hl hf
      rw [fX3_readsNumber_L9] at hf
      refine lv_iload_n hx hb dX3_readsNumber_9 rfl (lv_at hl 3 rfl) ?_
      refine lv_iload_n hx hb dX3_readsNumber_10 rfl (lv_at hl 2 rfl) ?_
      refine k_icmp_ge (tgt := 69) hx hb dX3_readsNumber_11 (by decide) hf (fun hf => ?_) (fun hf => ?_)
      · refine lv_iconst (v := (1 : Int32)) hx hb dX3_readsNumber_69 (by decide) ?_
        exact W_zret (fun z => wMo cI a z) hx hb hr hlk hP hS hAe hf dX3_readsNumber_70
      · refine lv_aload_n hx hb dX3_readsNumber_14 rfl (lv_at hl 0 rfl) ?_
        refine c_callV (As := []) (rest := []) ⟨hx, hb, hml, hown, hts⟩ hf (fun vq hq => mX3_here l D cI cJ a H.size N z vq hq) (cwV 0 hts gX3_readsNumber_X3_here rfl rfl rfl qX3_here ⟨Nat.le_of_ble_eq_true rfl, Nat.le_of_ble_eq_true rfl⟩) hK hP hS hA hP 3 rfl rfl rfl rfl hl.1 rfl (Nat.le_of_ble_eq_true rfl) dX3_readsNumber_15 ⟨Nat.le_refl _, Nat.le_refl _⟩ (fun v2 H locs hP hS hf => ?_)
        refine lv_bipush (v := (48 : Int32)) hx hb dX3_readsNumber_18 (by decide) ?_
        refine lv_bipush (v := (57 : Int32)) hx hb dX3_readsNumber_20 (by decide) ?_
        refine c_callS (As := [.int v2, .int (48 : Int32), .int (57 : Int32)]) (rest := []) ⟨hx, hb, hml, hown, hts⟩ hf (fun vq hq => mX3_isIn l D cI cJ H.size N v2 (48 : Int32) (57 : Int32) vq hq) (va_cwS 3 hts gX3_readsNumber_X3_isIn rfl rfl rfl qX3_isIn ⟨Nat.le_of_ble_eq_true rfl, Nat.le_of_ble_eq_true rfl⟩) hK hP hS hA va_P_nil rfl hl.1 rfl (Nat.le_of_ble_eq_true rfl) dX3_readsNumber_22 ⟨Nat.le_refl _, Nat.le_refl _⟩ (fun v3 H locs hP hS hf => ?_)
        refine k_if_ne (tgt := 30) hx hb dX3_readsNumber_25 (by decide) hf (fun hf => ?_) (fun hf => ?_)
        · refine lv_aload_n hx hb dX3_readsNumber_30 rfl (lv_at hl 0 rfl) ?_
          refine va_get (D := D) (ci := 3) (v := .ref (a 8)) (C := RX3) (T := TX3) (N := 13) hx hb hts inX3 hown hK hP 0 rfl rfl 11 (by decide) ln1 (fun _ h9 => h9) rfl dX3_readsNumber_31 ?_
          refine lv_iload_n hx hb dX3_readsNumber_34 rfl (lv_at hl 1 rfl) ?_
          refine lv_bipush (v := (10 : Int32)) hx hb dX3_readsNumber_35 (by decide) ?_
          refine lv_aload_n hx hb dX3_readsNumber_37 rfl (lv_at hl 0 rfl) ?_
          refine va_get (D := D) (ci := 3) (v := .ref (a 8)) (C := RX3) (T := TX3) (N := 13) hx hb hts inX3 hown hK hP 0 rfl rfl 11 (by decide) ln1 (fun _ h9 => h9) rfl dX3_readsNumber_38 ?_
          refine lv_iload_n hx hb dX3_readsNumber_41 rfl (lv_at hl 1 rfl) ?_
          refine k_iald hx hb hK hP 8 0 hf rfl rfl dX3_readsNumber_42 (fun v4 hf => ?_)
          refine lv_imul hx hb dX3_readsNumber_43 ?_
          refine lv_aload_n hx hb dX3_readsNumber_44 rfl (lv_at hl 0 rfl) ?_
          refine c_callV (As := []) (rest := [.int ((10 : Int32) * v4), .int x1, .ref (a 8)]) ⟨hx, hb, hml, hown, hts⟩ hf (fun vq hq => mX3_here l D cI cJ a H.size N z vq hq) (cwV 0 hts gX3_readsNumber_X3_here rfl rfl rfl qX3_here ⟨Nat.le_of_ble_eq_true rfl, Nat.le_of_ble_eq_true rfl⟩) hK hP hS hA hP 3 rfl rfl rfl rfl hl.1 rfl (Nat.le_of_ble_eq_true rfl) dX3_readsNumber_45 ⟨Nat.le_refl _, Nat.le_refl _⟩ (fun v5 H locs hP hS hf => ?_)
          refine lv_iadd hx hb dX3_readsNumber_48 ?_
          refine lv_bipush (v := (48 : Int32)) hx hb dX3_readsNumber_49 (by decide) ?_
          refine lv_isub hx hb dX3_readsNumber_51 ?_
          refine k_let hf (fun v7 hf => ?_)
          refine k_iast (w := (fun z => wMo cI a z)) hx hb hK hP hD hS 8 0 hf rfl rfl (fun _ => rfl) dX3_readsNumber_52 (fun z6 H locs hP hS hf => ?_)
          refine lv_aload_n hx hb dX3_readsNumber_53 rfl (lv_at hl 0 rfl) ?_
          refine lv_dup hx hb dX3_readsNumber_54 rfl ?_
          refine va_get (D := D) (ci := 3) (v := .int (z6 0 10)) (C := RX3) (T := TX3) (N := 13) hx hb hts inX3 hown hK hP 0 rfl rfl 10 (by decide) ln3 (fun _ h9 => h9) rfl dX3_readsNumber_55 ?_
          refine lv_iconst (v := (1 : Int32)) hx hb dX3_readsNumber_58 (by decide) ?_
          refine lv_iadd hx hb dX3_readsNumber_59 ?_
          refine k_let hf (fun v8 hf => ?_)
          refine k_put (ci := 3) (C := RX3) (T := TX3) (N := 13) (ty := .int) (w := (fun z => wMo cI a z)) hx hb hts inX3 tyX3 tyX3_ok nmX3 hown hK hP hD hS 0 rfl rfl 10 (by decide) ln3 (fun _ h9 => h9) rfl (by decide +kernel) rfl rfl (Nat.le_of_ble_eq_true rfl) (cN := 0) hf rfl dX3_readsNumber_60 (fun z9 H locs hP hS hf => ?_)
          refine k_iinc (d := (1 : Int32)) (lv' := fun v10 => [(3, .int v10), (0, .ref (a 0)), (1, .int x1), (2, .int x2)]) hx hb dX3_readsNumber_63 hl (k := 3) rfl (by decide) (by decide) (fun _ => rfl) hf (fun v10 ls hl hf => ?_)
          refine lv_goto (tgt := 9) hx hb dX3_readsNumber_66 (by decide) ?_
          exact ih z9 x1 x2 v10 H locs ls hP hS (lv_sub hl [1, 2, 3, 0] rfl) hf
        · refine lv_iconst (v := (0 : Int32)) hx hb dX3_readsNumber_28 (by decide) ?_
          exact W_zret (fun z => wMo cI a z) hx hb hr hlk hP hS hAe hf dX3_readsNumber_29
  unfold fX3_readsNumber at hf
  refine lv_aload_n hx hb dX3_readsNumber_0 rfl (lv_at hl 0 rfl) ?_
  refine va_get (D := D) (ci := 3) (v := .ref (a 8)) (C := RX3) (T := TX3) (N := 13) hx hb hts inX3 hown hK hP 0 rfl rfl 11 (by decide) ln1 (fun _ h9 => h9) rfl dX3_readsNumber_1 ?_
  refine lv_iload_n hx hb dX3_readsNumber_4 rfl (lv_at hl 1 rfl) ?_
  refine lv_iconst (v := (0 : Int32)) hx hb dX3_readsNumber_5 (by decide) ?_
  refine k_iast (w := (fun z => wMo cI a z)) hx hb hK hP hD hS 8 0 hf rfl rfl (fun _ => rfl) dX3_readsNumber_6 (fun z1 H locs hP hS hf => ?_)
  refine lv_iconst (v := (0 : Int32)) hx hb dX3_readsNumber_7 (by decide) ?_
  refine lv_istore_n (lv' := [(3, .int (0 : Int32)), (0, .ref (a 0)), (1, .int p1), (2, .int p2)]) hx hb dX3_readsNumber_8 rfl hl (by decide) rfl (fun ls hl => ?_)
  exact b9  N z1 p1 p2 (0 : Int32) H locs ls hP hS (lv_sub hl [1, 2, 3, 0] rfl) hf
def fX3_kindBy (N : Nat) (p1 : Int32) : Option Int32 :=
    if p1 = (98 : Int32) then some (4 : Int32)
    else if p1 = (104 : Int32) then some (0 : Int32)
    else if p1 = (108 : Int32) then some (1 : Int32)
    else if p1 = (115 : Int32) then some (3 : Int32)
    else if p1 = (116 : Int32) then some (2 : Int32)
    else if p1 = (119 : Int32) then some (5 : Int32)
    else some (-9 : Int32)
abbrev rmX3_kindBy : Room := { frames := 0, cells := 0, slots := 0, locals := 0 }
theorem qX3_kindBy : yX3_kindBy.cls ≠ "java/lang/invoke/MethodHandle" ∧ yX3_kindBy.cls ≠ "java/lang/invoke/VarHandle" ∧ (parseMethodDescriptor yX3_kindBy.desc).map (fun d => d.parameters.length) = some 1 := by decide +kernel
set_option maxHeartbeats 400000 in
set_option maxRecDepth 100000 in
theorem mX3_kindBy (l : Launch) (D : va_G) (cI cJ : ClassId) (sz N : Nat) (p1 : Int32) (r : Int32) (hf : fX3_kindBy N p1 = some r) : Met l yX3_kindBy wsX3_kindBy rmX3_kindBy (RPre ([.int p1] : List Value) sz D (tyIJ cI cJ) (wNo)) (RQi sz r) 0 0 (fr0 sz) := by
  refine R_start (cc := cX3_kindBy) (maxL := 1) (ret := (some .int)) (by decide) rfl (Nat.le_of_ble_eq_true rfl) (fun p e s m below meth c ls hx hb hr hml hown hts hlk hP hK hS hA hsz hl => ?_)
  have hown : s.vm.findClass RX3 = some m.cls := hown
  have hl : lv_has ls 1 [(0, .int p1)] := hl
  unfold fX3_kindBy at hf
  refine lv_iload_n hx hb dX3_kindBy_0 rfl (lv_at hl 0 rfl) ?_
  refine sw_if hf (fun c1 hf => ?_) (fun c1 hf => ?_)
  · refine lv_lookup (off := 67) (tgt := 68) hx hb dX3_kindBy_1 (by decide) (by rw [c1]; decide) (by decide) ?_
    refine lv_iconst (v := (4 : Int32)) hx hb dX3_kindBy_68 (by decide) ?_
    exact R_iret hx hb hr hlk hS hsz hf dX3_kindBy_69
  · have c1 := i32_ne c1 (n := 98) (by decide)
    refine sw_if hf (fun c2 hf => ?_) (fun c2 hf => ?_)
    · refine lv_lookup (off := 59) (tgt := 60) hx hb dX3_kindBy_1 (by decide) (by rw [c2]; decide) (by decide) ?_
      refine lv_iconst (v := (0 : Int32)) hx hb dX3_kindBy_60 (by decide) ?_
      exact R_iret hx hb hr hlk hS hsz hf dX3_kindBy_61
    · have c2 := i32_ne c2 (n := 104) (by decide)
      refine sw_if hf (fun c3 hf => ?_) (fun c3 hf => ?_)
      · refine lv_lookup (off := 61) (tgt := 62) hx hb dX3_kindBy_1 (by decide) (by rw [c3]; decide) (by decide) ?_
        refine lv_iconst (v := (1 : Int32)) hx hb dX3_kindBy_62 (by decide) ?_
        exact R_iret hx hb hr hlk hS hsz hf dX3_kindBy_63
      · have c3 := i32_ne c3 (n := 108) (by decide)
        refine sw_if hf (fun c4 hf => ?_) (fun c4 hf => ?_)
        · refine lv_lookup (off := 65) (tgt := 66) hx hb dX3_kindBy_1 (by decide) (by rw [c4]; decide) (by decide) ?_
          refine lv_iconst (v := (3 : Int32)) hx hb dX3_kindBy_66 (by decide) ?_
          exact R_iret hx hb hr hlk hS hsz hf dX3_kindBy_67
        · have c4 := i32_ne c4 (n := 115) (by decide)
          refine sw_if hf (fun c5 hf => ?_) (fun c5 hf => ?_)
          · refine lv_lookup (off := 63) (tgt := 64) hx hb dX3_kindBy_1 (by decide) (by rw [c5]; decide) (by decide) ?_
            refine lv_iconst (v := (2 : Int32)) hx hb dX3_kindBy_64 (by decide) ?_
            exact R_iret hx hb hr hlk hS hsz hf dX3_kindBy_65
          · have c5 := i32_ne c5 (n := 116) (by decide)
            refine sw_if hf (fun c6 hf => ?_) (fun c6 hf => ?_)
            · refine lv_lookup (off := 69) (tgt := 70) hx hb dX3_kindBy_1 (by decide) (by rw [c6]; decide) (by decide) ?_
              refine lv_iconst (v := (5 : Int32)) hx hb dX3_kindBy_70 (by decide) ?_
              exact R_iret hx hb hr hlk hS hsz hf dX3_kindBy_71
            · have c6 := i32_ne c6 (n := 119) (by decide)
              refine lv_lookup (off := 71) (tgt := 72) hx hb dX3_kindBy_1 (by decide) (by simp [Op.lookupswitch.offset, c1.symm, c2.symm, c3.symm, c4.symm, c5.symm, c6.symm]) (by decide) ?_
              refine lv_bipush (v := (-9 : Int32)) hx hb dX3_kindBy_72 (by decide) ?_
              exact R_iret hx hb hr hlk hS hsz hf dX3_kindBy_74
def fX3_readsKind_L32 (N : Nat)  (z : St) (y0 : Int32) (y1 : Int32) : Option (Int32 × St) :=
    lt_ ((y1 + y0) : Int32) (fun v5 =>
    lt_ (up2 z 0 10 v5) (fun z6 =>
    bo (rdI z6 8 3 (0 : Int32)) (fun v7 =>
    if v7 < 0 then bo (zr (0 : Int32)) (fun v => some (v, z6))
    else bo (zr (1 : Int32)) (fun v => some (v, z6)))))
def fX3_readsKind (N : Nat) (σ : St)  : Option (Int32 × St) :=
    bo (fX3_here N σ) (fun v1 =>
    bo (fX3_kindBy N v1) (fun v2 =>
    bo (wrI σ 8 3 (0 : Int32) v2) (fun z3 =>
    bo (rdI z3 8 3 (0 : Int32)) (fun v4 =>
    if 0 ≤ v4 then fX3_readsKind_L32 N  z3 (1 : Int32) (z3 0 10)
    else fX3_readsKind_L32 N  z3 (0 : Int32) (z3 0 10)))))
abbrev rmX3_readsKind : Room := { frames := 1, cells := 0, slots := 0, locals := 20 }
theorem qX3_readsKind : yX3_readsKind.cls = RX3 ∧ yX3_readsKind.cls ≠ "java/lang/invoke/MethodHandle" ∧ yX3_readsKind.cls ≠ "java/lang/invoke/VarHandle" ∧ (parseMethodDescriptor yX3_readsKind.desc).map (fun d => d.parameters.length) = some 0 := by decide +kernel
set_option maxHeartbeats 400000 in
set_option maxRecDepth 100000 in
theorem mX3_readsKind (l : Launch) (D : va_G) (cI cJ : ClassId) (a : Nat → Nat) (sz N : Nat) (σ : St)  (r : (Int32 × St)) (hf : fX3_readsKind N σ = some r) : Met l yX3_readsKind wsX3_readsKind rmX3_readsKind (WPre ([.ref (a 0)] : List Value) sz D (tyIJ cI cJ) (wMo cI a σ)) (WQi sz D (wMo cI a σ) (wMo cI a (r.2)) r.1) 0 0 (va_A (wMo cI a σ) sz) := by
  refine W_start (cc := cX3_readsKind) (maxL := 1) (ret := (some .boolean)) (by decide) rfl (Nat.le_of_ble_eq_true rfl) (fun p e s m below meth c ls A hx hb hr hml hown hts hlk hP hK hS hA hD0 hAe hl => ?_)
  have hD : ∀ z, va_D A ((fun z => wMo cI a z) z) := fun z => hD0.ad rfl
  have hown : s.vm.findClass RX3 = some m.cls := hown
  have hl : lv_has ls 1 [(0, .ref (a 0))] := hl
  have ln1 := hts (Cond.fieldLink RX3 31 "HoistsAreSharedModel" "numbers" "[I") (List.mem_of_getElem? (i := 1) rfl)
  have inX3 : ∀ w ∈ u_ws RX3 TX3 13, w ∈ wsX3_readsKind := fun _ h => List.mem_cons_of_mem _ (List.mem_append_right _ h)
  have ln3 := hts (Cond.fieldLink RX3 90 "HoistsAreSharedModel" "place" "I") (List.mem_of_getElem? (i := 2) rfl)
  have b32 : ∀  (z : St) (y0 : Int32) (y1 : Int32) (H : Heap) (locs : List Loc) (ls : Array Slot), va_P D vwCl (wMo cI a z) H → va_S A s.heap H locs → lv_has ls 1 [(0, .ref (a 0))] → fX3_readsKind_L32 N z y0 y1 = some r → W p l e rmX3_readsKind s m ([.ref (a 0)] : List Value).toArray below meth c H locs 0 0 (MQ below (WQi sz D (wMo cI a σ) (wMo cI a (r.2)) r.1) ([.ref (a 0)] : List Value).toArray s 0 0 A) (F0 m 32 ls [.int y0, .int y1, .ref (a 0)]) := by
    intro  z y0 y1 H locs ls hP hS hl hf
    unfold fX3_readsKind_L32 at hf
    refine lv_iadd hx hb dX3_readsKind_32 ?_
    refine k_let hf (fun v5 hf => ?_)
    refine k_put (ci := 3) (C := RX3) (T := TX3) (N := 13) (ty := .int) (w := (fun z => wMo cI a z)) hx hb hts inX3 tyX3 tyX3_ok nmX3 hown hK hP hD hS 0 rfl rfl 10 (by decide) ln3 (fun _ h9 => h9) rfl (by decide +kernel) rfl rfl (Nat.le_of_ble_eq_true rfl) (cN := 0) hf rfl dX3_readsKind_33 (fun z6 H locs hP hS hf => ?_)
    refine lv_aload_n hx hb dX3_readsKind_36 rfl (lv_at hl 0 rfl) ?_
    refine va_get (D := D) (ci := 3) (v := .ref (a 8)) (C := RX3) (T := TX3) (N := 13) hx hb hts inX3 hown hK hP 0 rfl rfl 11 (by decide) ln1 (fun _ h9 => h9) rfl dX3_readsKind_37 ?_
    refine lv_iconst (v := (0 : Int32)) hx hb dX3_readsKind_40 (by decide) ?_
    refine k_iald hx hb hK hP 8 0 hf rfl rfl dX3_readsKind_41 (fun v7 hf => ?_)
    refine k_if_lt (tgt := 49) hx hb dX3_readsKind_42 (by decide) hf (fun hf => ?_) (fun hf => ?_)
    · refine lv_iconst (v := (0 : Int32)) hx hb dX3_readsKind_49 (by decide) ?_
      exact W_zret (fun z => wMo cI a z) hx hb hr hlk hP hS hAe hf dX3_readsKind_50
    · refine lv_iconst (v := (1 : Int32)) hx hb dX3_readsKind_45 (by decide) ?_
      refine lv_goto (tgt := 50) hx hb dX3_readsKind_46 (by decide) ?_
      exact W_zret (fun z => wMo cI a z) hx hb hr hlk hP hS hAe hf dX3_readsKind_50
  unfold fX3_readsKind at hf
  refine lv_aload_n hx hb dX3_readsKind_0 rfl (lv_at hl 0 rfl) ?_
  refine va_get (D := D) (ci := 3) (v := .ref (a 8)) (C := RX3) (T := TX3) (N := 13) hx hb hts inX3 hown hK hP 0 rfl rfl 11 (by decide) ln1 (fun _ h9 => h9) rfl dX3_readsKind_1 ?_
  refine lv_iconst (v := (0 : Int32)) hx hb dX3_readsKind_4 (by decide) ?_
  refine lv_aload_n hx hb dX3_readsKind_5 rfl (lv_at hl 0 rfl) ?_
  refine c_callV (As := []) (rest := [.int (0 : Int32), .ref (a 8)]) ⟨hx, hb, hml, hown, hts⟩ hf (fun vq hq => mX3_here l D cI cJ a s.heap.size N σ vq hq) (cwV 0 hts gX3_readsKind_X3_here rfl rfl rfl qX3_here ⟨Nat.le_of_ble_eq_true rfl, Nat.le_of_ble_eq_true rfl⟩) hK hP hS hA hP 3 rfl rfl rfl rfl hl.1 rfl (Nat.le_of_ble_eq_true rfl) dX3_readsKind_6 ⟨Nat.le_refl _, Nat.le_refl _⟩ (fun v1 H locs hP hS hf => ?_)
  refine c_callS (As := [.int v1]) (rest := [.int (0 : Int32), .ref (a 8)]) ⟨hx, hb, hml, hown, hts⟩ hf (fun vq hq => mX3_kindBy l D cI cJ H.size N v1 vq hq) (va_cwS 1 hts gX3_readsKind_X3_kindBy rfl rfl rfl qX3_kindBy ⟨Nat.le_of_ble_eq_true rfl, Nat.le_of_ble_eq_true rfl⟩) hK hP hS hA va_P_nil rfl hl.1 rfl (Nat.le_of_ble_eq_true rfl) dX3_readsKind_9 ⟨Nat.le_refl _, Nat.le_refl _⟩ (fun v2 H locs hP hS hf => ?_)
  refine k_iast (w := (fun z => wMo cI a z)) hx hb hK hP hD hS 8 0 hf rfl rfl (fun _ => rfl) dX3_readsKind_12 (fun z3 H locs hP hS hf => ?_)
  refine lv_aload_n hx hb dX3_readsKind_13 rfl (lv_at hl 0 rfl) ?_
  refine lv_dup hx hb dX3_readsKind_14 rfl ?_
  refine va_get (D := D) (ci := 3) (v := .int (z3 0 10)) (C := RX3) (T := TX3) (N := 13) hx hb hts inX3 hown hK hP 0 rfl rfl 10 (by decide) ln3 (fun _ h9 => h9) rfl dX3_readsKind_15 ?_
  refine lv_aload_n hx hb dX3_readsKind_18 rfl (lv_at hl 0 rfl) ?_
  refine va_get (D := D) (ci := 3) (v := .ref (a 8)) (C := RX3) (T := TX3) (N := 13) hx hb hts inX3 hown hK hP 0 rfl rfl 11 (by decide) ln1 (fun _ h9 => h9) rfl dX3_readsKind_19 ?_
  refine lv_iconst (v := (0 : Int32)) hx hb dX3_readsKind_22 (by decide) ?_
  refine k_iald hx hb hK hP 8 0 hf rfl rfl dX3_readsKind_23 (fun v4 hf => ?_)
  refine k_if_ge (tgt := 31) hx hb dX3_readsKind_24 (by decide) hf (fun hf => ?_) (fun hf => ?_)
  · refine lv_iconst (v := (1 : Int32)) hx hb dX3_readsKind_31 (by decide) ?_
    exact b32  z3 (1 : Int32) (z3 0 10) H locs ls hP hS (lv_sub hl [0] rfl) hf
  · refine lv_iconst (v := (0 : Int32)) hx hb dX3_readsKind_27 (by decide) ?_
    refine lv_goto (tgt := 32) hx hb dX3_readsKind_28 (by decide) ?_
    exact b32  z3 (0 : Int32) (z3 0 10) H locs ls hP hS (lv_sub hl [0] rfl) hf
def fX3_readsStatement_L218 (N : Nat)  (z : St) (x2 : Int32) : Option (Int32 × St) :=
    if x2 = 0 then bo (zr (0 : Int32)) (fun v => some (v, z))
    else bo (fX3_here N z) (fun v6 =>
    if v6 = (59 : Int32) then lt_ (((z 0 10) + (1 : Int32)) : Int32) (fun v7 =>
    lt_ (up2 z 0 10 v7) (fun z8 =>
    bo (zr (1 : Int32)) (fun v => some (v, z8))))
    else bo (zr (0 : Int32)) (fun v => some (v, z)))
def fX3_readsStatement_L192 (N : Nat)  (z : St) (y0 : Int32) : Option (Int32 × St) :=
    fX3_readsStatement_L218 N  z y0
def fX3_readsStatement_L191 (N : Nat)  (z : St) : Option (Int32 × St) :=
    fX3_readsStatement_L192 N  z (0 : Int32)
def fX3_readsStatement_L165 (N : Nat)  (z : St) (y0 : Int32) : Option (Int32 × St) :=
    fX3_readsStatement_L218 N  z y0
def fX3_readsStatement_L164 (N : Nat)  (z : St) : Option (Int32 × St) :=
    fX3_readsStatement_L165 N  z (0 : Int32)
def fX3_readsStatement_L138 (N : Nat)  (z : St) (y0 : Int32) : Option (Int32 × St) :=
    fX3_readsStatement_L218 N  z y0
def fX3_readsStatement_L137 (N : Nat)  (z : St) : Option (Int32 × St) :=
    fX3_readsStatement_L138 N  z (0 : Int32)
def fX3_readsStatement (N : Nat) (σ : St)  : Option (Int32 × St) :=
    bo (fX3_here N σ) (fun v1 =>
    lt_ (((σ 0 10) + (1 : Int32)) : Int32) (fun v2 =>
    lt_ (up2 σ 0 10 v2) (fun z3 =>
    if v1 = (98 : Int32) then bx (fX3_readsNumber N z3 (0 : Int32) (1 : Int32)) (fun uq => uq) (fun v5 z4 =>
    if v5 = 0 then fX3_readsStatement_L191 N  z4
    else bx (fX3_readsNumber N z4 (1 : Int32) (2 : Int32)) (fun uq => uq) (fun v10 z9 =>
    if v10 = 0 then fX3_readsStatement_L191 N  z9
    else fX3_readsStatement_L192 N  z9 (1 : Int32)))
    else if v1 = (100 : Int32) then bx (fX3_readsNumber N z3 (0 : Int32) (2 : Int32)) (fun uq => uq) (fun v13 z12 =>
    fX3_readsStatement_L218 N  z12 v13)
    else if v1 = (102 : Int32) then bx (fX3_readsNumber N z3 (0 : Int32) (2 : Int32)) (fun uq => uq) (fun v16 z15 =>
    fX3_readsStatement_L218 N  z15 v16)
    else if v1 = (104 : Int32) then bx (fX3_readsNumber N z3 (0 : Int32) (1 : Int32)) (fun uq => uq) (fun v19 z18 =>
    if v19 = 0 then fX3_readsStatement_L164 N  z18
    else bx (fX3_readsNumber N z18 (1 : Int32) (1 : Int32)) (fun uq => uq) (fun v21 z20 =>
    if v21 = 0 then fX3_readsStatement_L164 N  z20
    else fX3_readsStatement_L165 N  z20 (1 : Int32)))
    else if v1 = (110 : Int32) then bx (fX3_readsNumber N z3 (0 : Int32) (2 : Int32)) (fun uq => uq) (fun v24 z23 =>
    fX3_readsStatement_L218 N  z23 v24)
    else if v1 = (116 : Int32) then bx (fX3_readsKind N z3) (fun uq => uq) (fun v27 z26 =>
    if v27 = 0 then fX3_readsStatement_L137 N  z26
    else bx (fX3_readsNumber N z26 (1 : Int32) (1 : Int32)) (fun uq => uq) (fun v29 z28 =>
    if v29 = 0 then fX3_readsStatement_L137 N  z28
    else bx (fX3_readsNumber N z28 (2 : Int32) (1 : Int32)) (fun uq => uq) (fun v31 z30 =>
    if v31 = 0 then fX3_readsStatement_L137 N  z30
    else fX3_readsStatement_L138 N  z30 (1 : Int32))))
    else lt_ (((z3 0 10) - (1 : Int32)) : Int32) (fun v33 =>
    lt_ (up2 z3 0 10 v33) (fun z34 =>
    bo (zr (0 : Int32)) (fun v => some (v, z34)))))))
abbrev rmX3_readsStatement : Room := { frames := 2, cells := 0, slots := 0, locals := 45 }
theorem qX3_readsStatement : yX3_readsStatement.cls = RX3 ∧ yX3_readsStatement.cls ≠ "java/lang/invoke/MethodHandle" ∧ yX3_readsStatement.cls ≠ "java/lang/invoke/VarHandle" ∧ (parseMethodDescriptor yX3_readsStatement.desc).map (fun d => d.parameters.length) = some 0 := by decide +kernel
set_option maxHeartbeats 400000 in
set_option maxRecDepth 100000 in
theorem mX3_readsStatement (l : Launch) (D : va_G) (cI cJ : ClassId) (a : Nat → Nat) (sz N : Nat) (σ : St)  (r : (Int32 × St)) (hf : fX3_readsStatement N σ = some r) : Met l yX3_readsStatement wsX3_readsStatement rmX3_readsStatement (WPre ([.ref (a 0)] : List Value) sz D (tyIJ cI cJ) (wMo cI a σ)) (WQi sz D (wMo cI a σ) (wMo cI a (r.2)) r.1) 0 0 (va_A (wMo cI a σ) sz) := by
  refine W_start (cc := cX3_readsStatement) (maxL := 3) (ret := (some .boolean)) (by decide) rfl (Nat.le_of_ble_eq_true rfl) (fun p e s m below meth c ls A hx hb hr hml hown hts hlk hP hK hS hA hD0 hAe hl => ?_)
  have hD : ∀ z, va_D A ((fun z => wMo cI a z) z) := fun z => hD0.ad rfl
  have hown : s.vm.findClass RX3 = some m.cls := hown
  have hl : lv_has ls 3 [(0, .ref (a 0))] := hl
  have ln1 := hts (Cond.fieldLink RX3 90 "HoistsAreSharedModel" "place" "I") (List.mem_of_getElem? (i := 1) rfl)
  have inX3 : ∀ w ∈ u_ws RX3 TX3 13, w ∈ wsX3_readsStatement := fun _ h => List.mem_cons_of_mem _ (List.mem_append_right _ h)
  have b218 : ∀  (z : St) (x2 : Int32) (H : Heap) (locs : List Loc) (ls : Array Slot), va_P D vwCl (wMo cI a z) H → va_S A s.heap H locs → lv_has ls 3 [(0, .ref (a 0)), (2, .int x2)] → fX3_readsStatement_L218 N z x2 = some r → W p l e rmX3_readsStatement s m ([.ref (a 0)] : List Value).toArray below meth c H locs 0 0 (MQ below (WQi sz D (wMo cI a σ) (wMo cI a (r.2)) r.1) ([.ref (a 0)] : List Value).toArray s 0 0 A) (F0 m 218 ls []) := by
    intro  z x2 H locs ls hP hS hl hf
    unfold fX3_readsStatement_L218 at hf
    refine lv_iload_n hx hb dX3_readsStatement_218 rfl (lv_at hl 1 rfl) ?_
    refine k_if_eq (tgt := 231) hx hb dX3_readsStatement_219 (by decide) hf (fun hf => ?_) (fun hf => ?_)
    · refine lv_iconst (v := (0 : Int32)) hx hb dX3_readsStatement_231 (by decide) ?_
      exact W_zret (fun z => wMo cI a z) hx hb hr hlk hP hS hAe hf dX3_readsStatement_232
    · refine lv_aload_n hx hb dX3_readsStatement_222 rfl (lv_at hl 0 rfl) ?_
      refine c_callV (As := []) (rest := []) ⟨hx, hb, hml, hown, hts⟩ hf (fun vq hq => mX3_here l D cI cJ a H.size N z vq hq) (cwV 0 hts gX3_readsStatement_X3_here rfl rfl rfl qX3_here ⟨Nat.le_of_ble_eq_true rfl, Nat.le_of_ble_eq_true rfl⟩) hK hP hS hA hP 3 rfl rfl rfl rfl hl.1 rfl (Nat.le_of_ble_eq_true rfl) dX3_readsStatement_223 ⟨Nat.le_refl _, Nat.le_refl _⟩ (fun v6 H locs hP hS hf => ?_)
      refine lv_bipush (v := (59 : Int32)) hx hb dX3_readsStatement_226 (by decide) ?_
      refine k_icmp_eq (tgt := 233) hx hb dX3_readsStatement_228 (by decide) hf (fun hf => ?_) (fun hf => ?_)
      · refine lv_aload_n hx hb dX3_readsStatement_233 rfl (lv_at hl 0 rfl) ?_
        refine lv_dup hx hb dX3_readsStatement_234 rfl ?_
        refine va_get (D := D) (ci := 3) (v := .int (z 0 10)) (C := RX3) (T := TX3) (N := 13) hx hb hts inX3 hown hK hP 0 rfl rfl 10 (by decide) ln1 (fun _ h9 => h9) rfl dX3_readsStatement_235 ?_
        refine lv_iconst (v := (1 : Int32)) hx hb dX3_readsStatement_238 (by decide) ?_
        refine lv_iadd hx hb dX3_readsStatement_239 ?_
        refine k_let hf (fun v7 hf => ?_)
        refine k_put (ci := 3) (C := RX3) (T := TX3) (N := 13) (ty := .int) (w := (fun z => wMo cI a z)) hx hb hts inX3 tyX3 tyX3_ok nmX3 hown hK hP hD hS 0 rfl rfl 10 (by decide) ln1 (fun _ h9 => h9) rfl (by decide +kernel) rfl rfl (Nat.le_of_ble_eq_true rfl) (cN := 0) hf rfl dX3_readsStatement_240 (fun z8 H locs hP hS hf => ?_)
        refine lv_iconst (v := (1 : Int32)) hx hb dX3_readsStatement_243 (by decide) ?_
        exact W_zret (fun z => wMo cI a z) hx hb hr hlk hP hS hAe hf dX3_readsStatement_244
      · refine lv_iconst (v := (0 : Int32)) hx hb dX3_readsStatement_231 (by decide) ?_
        exact W_zret (fun z => wMo cI a z) hx hb hr hlk hP hS hAe hf dX3_readsStatement_232
  have b192 : ∀  (z : St) (y0 : Int32) (H : Heap) (locs : List Loc) (ls : Array Slot), va_P D vwCl (wMo cI a z) H → va_S A s.heap H locs → lv_has ls 3 [(0, .ref (a 0))] → fX3_readsStatement_L192 N z y0 = some r → W p l e rmX3_readsStatement s m ([.ref (a 0)] : List Value).toArray below meth c H locs 0 0 (MQ below (WQi sz D (wMo cI a σ) (wMo cI a (r.2)) r.1) ([.ref (a 0)] : List Value).toArray s 0 0 A) (F0 m 192 ls [.int y0]) := by
    intro  z y0 H locs ls hP hS hl hf
    unfold fX3_readsStatement_L192 at hf
    refine lv_istore_n (lv' := [(2, .int y0), (0, .ref (a 0))]) hx hb dX3_readsStatement_192 rfl hl (by decide) rfl (fun ls hl => ?_)
    refine lv_goto (tgt := 218) hx hb dX3_readsStatement_193 (by decide) ?_
    exact b218  z y0 H locs ls hP hS (lv_sub hl [1, 0] rfl) hf
  have b191 : ∀  (z : St) (H : Heap) (locs : List Loc) (ls : Array Slot), va_P D vwCl (wMo cI a z) H → va_S A s.heap H locs → lv_has ls 3 [(0, .ref (a 0))] → fX3_readsStatement_L191 N z = some r → W p l e rmX3_readsStatement s m ([.ref (a 0)] : List Value).toArray below meth c H locs 0 0 (MQ below (WQi sz D (wMo cI a σ) (wMo cI a (r.2)) r.1) ([.ref (a 0)] : List Value).toArray s 0 0 A) (F0 m 191 ls []) := by
    intro  z H locs ls hP hS hl hf
    unfold fX3_readsStatement_L191 at hf
    refine lv_iconst (v := (0 : Int32)) hx hb dX3_readsStatement_191 (by decide) ?_
    exact b192  z (0 : Int32) H locs ls hP hS (lv_sub hl [0] rfl) hf
  have b165 : ∀  (z : St) (y0 : Int32) (H : Heap) (locs : List Loc) (ls : Array Slot), va_P D vwCl (wMo cI a z) H → va_S A s.heap H locs → lv_has ls 3 [(0, .ref (a 0))] → fX3_readsStatement_L165 N z y0 = some r → W p l e rmX3_readsStatement s m ([.ref (a 0)] : List Value).toArray below meth c H locs 0 0 (MQ below (WQi sz D (wMo cI a σ) (wMo cI a (r.2)) r.1) ([.ref (a 0)] : List Value).toArray s 0 0 A) (F0 m 165 ls [.int y0]) := by
    intro  z y0 H locs ls hP hS hl hf
    unfold fX3_readsStatement_L165 at hf
    refine lv_istore_n (lv' := [(2, .int y0), (0, .ref (a 0))]) hx hb dX3_readsStatement_165 rfl hl (by decide) rfl (fun ls hl => ?_)
    refine lv_goto (tgt := 218) hx hb dX3_readsStatement_166 (by decide) ?_
    exact b218  z y0 H locs ls hP hS (lv_sub hl [1, 0] rfl) hf
  have b164 : ∀  (z : St) (H : Heap) (locs : List Loc) (ls : Array Slot), va_P D vwCl (wMo cI a z) H → va_S A s.heap H locs → lv_has ls 3 [(0, .ref (a 0))] → fX3_readsStatement_L164 N z = some r → W p l e rmX3_readsStatement s m ([.ref (a 0)] : List Value).toArray below meth c H locs 0 0 (MQ below (WQi sz D (wMo cI a σ) (wMo cI a (r.2)) r.1) ([.ref (a 0)] : List Value).toArray s 0 0 A) (F0 m 164 ls []) := by
    intro  z H locs ls hP hS hl hf
    unfold fX3_readsStatement_L164 at hf
    refine lv_iconst (v := (0 : Int32)) hx hb dX3_readsStatement_164 (by decide) ?_
    exact b165  z (0 : Int32) H locs ls hP hS (lv_sub hl [0] rfl) hf
  have b138 : ∀  (z : St) (y0 : Int32) (H : Heap) (locs : List Loc) (ls : Array Slot), va_P D vwCl (wMo cI a z) H → va_S A s.heap H locs → lv_has ls 3 [(0, .ref (a 0))] → fX3_readsStatement_L138 N z y0 = some r → W p l e rmX3_readsStatement s m ([.ref (a 0)] : List Value).toArray below meth c H locs 0 0 (MQ below (WQi sz D (wMo cI a σ) (wMo cI a (r.2)) r.1) ([.ref (a 0)] : List Value).toArray s 0 0 A) (F0 m 138 ls [.int y0]) := by
    intro  z y0 H locs ls hP hS hl hf
    unfold fX3_readsStatement_L138 at hf
    refine lv_istore_n (lv' := [(2, .int y0), (0, .ref (a 0))]) hx hb dX3_readsStatement_138 rfl hl (by decide) rfl (fun ls hl => ?_)
    refine lv_goto (tgt := 218) hx hb dX3_readsStatement_139 (by decide) ?_
    exact b218  z y0 H locs ls hP hS (lv_sub hl [1, 0] rfl) hf
  have b137 : ∀  (z : St) (H : Heap) (locs : List Loc) (ls : Array Slot), va_P D vwCl (wMo cI a z) H → va_S A s.heap H locs → lv_has ls 3 [(0, .ref (a 0))] → fX3_readsStatement_L137 N z = some r → W p l e rmX3_readsStatement s m ([.ref (a 0)] : List Value).toArray below meth c H locs 0 0 (MQ below (WQi sz D (wMo cI a σ) (wMo cI a (r.2)) r.1) ([.ref (a 0)] : List Value).toArray s 0 0 A) (F0 m 137 ls []) := by
    intro  z H locs ls hP hS hl hf
    unfold fX3_readsStatement_L137 at hf
    refine lv_iconst (v := (0 : Int32)) hx hb dX3_readsStatement_137 (by decide) ?_
    exact b138  z (0 : Int32) H locs ls hP hS (lv_sub hl [0] rfl) hf
  unfold fX3_readsStatement at hf
  refine lv_aload_n hx hb dX3_readsStatement_0 rfl (lv_at hl 0 rfl) ?_
  refine c_callV (As := []) (rest := []) ⟨hx, hb, hml, hown, hts⟩ hf (fun vq hq => mX3_here l D cI cJ a s.heap.size N σ vq hq) (cwV 0 hts gX3_readsStatement_X3_here rfl rfl rfl qX3_here ⟨Nat.le_of_ble_eq_true rfl, Nat.le_of_ble_eq_true rfl⟩) hK hP hS hA hP 3 rfl rfl rfl rfl hl.1 rfl (Nat.le_of_ble_eq_true rfl) dX3_readsStatement_1 ⟨Nat.le_refl _, Nat.le_refl _⟩ (fun v1 H locs hP hS hf => ?_)
  refine lv_istore_n (lv' := [(1, .int v1), (0, .ref (a 0))]) hx hb dX3_readsStatement_4 rfl hl (by decide) rfl (fun ls hl => ?_)
  refine lv_aload_n hx hb dX3_readsStatement_5 rfl (lv_at hl 1 rfl) ?_
  refine lv_dup hx hb dX3_readsStatement_6 rfl ?_
  refine va_get (D := D) (ci := 3) (v := .int (σ 0 10)) (C := RX3) (T := TX3) (N := 13) hx hb hts inX3 hown hK hP 0 rfl rfl 10 (by decide) ln1 (fun _ h9 => h9) rfl dX3_readsStatement_7 ?_
  refine lv_iconst (v := (1 : Int32)) hx hb dX3_readsStatement_10 (by decide) ?_
  refine lv_iadd hx hb dX3_readsStatement_11 ?_
  refine k_let hf (fun v2 hf => ?_)
  refine k_put (ci := 3) (C := RX3) (T := TX3) (N := 13) (ty := .int) (w := (fun z => wMo cI a z)) hx hb hts inX3 tyX3 tyX3_ok nmX3 hown hK hP hD hS 0 rfl rfl 10 (by decide) ln1 (fun _ h9 => h9) rfl (by decide +kernel) rfl rfl (Nat.le_of_ble_eq_true rfl) (cN := 0) hf rfl dX3_readsStatement_12 (fun z3 H locs hP hS hf => ?_)
  refine lv_iload_n hx hb dX3_readsStatement_15 rfl (lv_at hl 0 rfl) ?_
  refine sw_if hf (fun c11 hf => ?_) (fun c11 hf => ?_)
  · refine lv_tableIn (off := 153) (tgt := 169) hx hb dX3_readsStatement_16 (by rw [c11]; decide) (by rw [c11]; decide) (by rw [c11]; decide) (by decide) ?_
    refine lv_aload_n hx hb dX3_readsStatement_169 rfl (lv_at hl 1 rfl) ?_
    refine lv_iconst (v := (0 : Int32)) hx hb dX3_readsStatement_170 (by decide) ?_
    refine lv_iconst (v := (1 : Int32)) hx hb dX3_readsStatement_171 (by decide) ?_
    refine d_callV (As := [.int (0 : Int32), .int (1 : Int32)]) (rest := []) (w := (fun z => wMo cI a z)) (wc := (wMo cI a)) (put := (fun uq => uq)) (σ := z3) (τ0 := z3) ⟨hx, hb, hml, hown, hts⟩ hf (fun vq zq hq => mX3_readsNumber l D cI cJ a H.size N z3 (0 : Int32) (1 : Int32) (vq, zq) hq) (cwV 2 hts gX3_readsStatement_X3_readsNumber rfl rfl rfl qX3_readsNumber ⟨Nat.le_of_ble_eq_true rfl, Nat.le_of_ble_eq_true rfl⟩) hK hP hD hS hA ⟨hP, hD _, fun _ _ _ h => h⟩ 3 rfl rfl rfl rfl hl.1 rfl (Nat.le_of_ble_eq_true rfl) dX3_readsStatement_172 ⟨Nat.le_refl _, Nat.le_refl _⟩ (fun v5 z4 H locs hP hS hf => ?_)
    refine k_if_eq (tgt := 191) hx hb dX3_readsStatement_175 (by decide) hf (fun hf => ?_) (fun hf => ?_)
    · exact b191  z4 H locs ls hP hS (lv_sub hl [1] rfl) hf
    · refine lv_aload_n hx hb dX3_readsStatement_178 rfl (lv_at hl 1 rfl) ?_
      refine lv_iconst (v := (1 : Int32)) hx hb dX3_readsStatement_179 (by decide) ?_
      refine lv_iconst (v := (2 : Int32)) hx hb dX3_readsStatement_180 (by decide) ?_
      refine d_callV (As := [.int (1 : Int32), .int (2 : Int32)]) (rest := []) (w := (fun z => wMo cI a z)) (wc := (wMo cI a)) (put := (fun uq => uq)) (σ := z4) (τ0 := z4) ⟨hx, hb, hml, hown, hts⟩ hf (fun vq zq hq => mX3_readsNumber l D cI cJ a H.size N z4 (1 : Int32) (2 : Int32) (vq, zq) hq) (cwV 2 hts gX3_readsStatement_X3_readsNumber rfl rfl rfl qX3_readsNumber ⟨Nat.le_of_ble_eq_true rfl, Nat.le_of_ble_eq_true rfl⟩) hK hP hD hS hA ⟨hP, hD _, fun _ _ _ h => h⟩ 3 rfl rfl rfl rfl hl.1 rfl (Nat.le_of_ble_eq_true rfl) dX3_readsStatement_181 ⟨Nat.le_refl _, Nat.le_refl _⟩ (fun v10 z9 H locs hP hS hf => ?_)
      refine k_if_eq (tgt := 191) hx hb dX3_readsStatement_184 (by decide) hf (fun hf => ?_) (fun hf => ?_)
      · exact b191  z9 H locs ls hP hS (lv_sub hl [1] rfl) hf
      · refine lv_iconst (v := (1 : Int32)) hx hb dX3_readsStatement_187 (by decide) ?_
        refine lv_goto (tgt := 192) hx hb dX3_readsStatement_188 (by decide) ?_
        exact b192  z9 (1 : Int32) H locs ls hP hS (lv_sub hl [1] rfl) hf
  · have c11 := i32_ne c11 (n := 98) (by decide)
    refine sw_if hf (fun c14 hf => ?_) (fun c14 hf => ?_)
    · refine lv_tableIn (off := 180) (tgt := 196) hx hb dX3_readsStatement_16 (by rw [c14]; decide) (by rw [c14]; decide) (by rw [c14]; decide) (by decide) ?_
      refine lv_aload_n hx hb dX3_readsStatement_196 rfl (lv_at hl 1 rfl) ?_
      refine lv_iconst (v := (0 : Int32)) hx hb dX3_readsStatement_197 (by decide) ?_
      refine lv_iconst (v := (2 : Int32)) hx hb dX3_readsStatement_198 (by decide) ?_
      refine d_callV (As := [.int (0 : Int32), .int (2 : Int32)]) (rest := []) (w := (fun z => wMo cI a z)) (wc := (wMo cI a)) (put := (fun uq => uq)) (σ := z3) (τ0 := z3) ⟨hx, hb, hml, hown, hts⟩ hf (fun vq zq hq => mX3_readsNumber l D cI cJ a H.size N z3 (0 : Int32) (2 : Int32) (vq, zq) hq) (cwV 2 hts gX3_readsStatement_X3_readsNumber rfl rfl rfl qX3_readsNumber ⟨Nat.le_of_ble_eq_true rfl, Nat.le_of_ble_eq_true rfl⟩) hK hP hD hS hA ⟨hP, hD _, fun _ _ _ h => h⟩ 3 rfl rfl rfl rfl hl.1 rfl (Nat.le_of_ble_eq_true rfl) dX3_readsStatement_199 ⟨Nat.le_refl _, Nat.le_refl _⟩ (fun v13 z12 H locs hP hS hf => ?_)
      refine lv_istore_n (lv' := [(2, .int v13), (1, .int v1), (0, .ref (a 0))]) hx hb dX3_readsStatement_202 rfl hl (by decide) rfl (fun ls hl => ?_)
      refine lv_goto (tgt := 218) hx hb dX3_readsStatement_203 (by decide) ?_
      exact b218  z12 v13 H locs ls hP hS (lv_sub hl [2, 0] rfl) hf
    · have c14 := i32_ne c14 (n := 100) (by decide)
      refine sw_if hf (fun c17 hf => ?_) (fun c17 hf => ?_)
      · refine lv_tableIn (off := 180) (tgt := 196) hx hb dX3_readsStatement_16 (by rw [c17]; decide) (by rw [c17]; decide) (by rw [c17]; decide) (by decide) ?_
        refine lv_aload_n hx hb dX3_readsStatement_196 rfl (lv_at hl 1 rfl) ?_
        refine lv_iconst (v := (0 : Int32)) hx hb dX3_readsStatement_197 (by decide) ?_
        refine lv_iconst (v := (2 : Int32)) hx hb dX3_readsStatement_198 (by decide) ?_
        refine d_callV (As := [.int (0 : Int32), .int (2 : Int32)]) (rest := []) (w := (fun z => wMo cI a z)) (wc := (wMo cI a)) (put := (fun uq => uq)) (σ := z3) (τ0 := z3) ⟨hx, hb, hml, hown, hts⟩ hf (fun vq zq hq => mX3_readsNumber l D cI cJ a H.size N z3 (0 : Int32) (2 : Int32) (vq, zq) hq) (cwV 2 hts gX3_readsStatement_X3_readsNumber rfl rfl rfl qX3_readsNumber ⟨Nat.le_of_ble_eq_true rfl, Nat.le_of_ble_eq_true rfl⟩) hK hP hD hS hA ⟨hP, hD _, fun _ _ _ h => h⟩ 3 rfl rfl rfl rfl hl.1 rfl (Nat.le_of_ble_eq_true rfl) dX3_readsStatement_199 ⟨Nat.le_refl _, Nat.le_refl _⟩ (fun v16 z15 H locs hP hS hf => ?_)
        refine lv_istore_n (lv' := [(2, .int v16), (1, .int v1), (0, .ref (a 0))]) hx hb dX3_readsStatement_202 rfl hl (by decide) rfl (fun ls hl => ?_)
        refine lv_goto (tgt := 218) hx hb dX3_readsStatement_203 (by decide) ?_
        exact b218  z15 v16 H locs ls hP hS (lv_sub hl [2, 0] rfl) hf
      · have c17 := i32_ne c17 (n := 102) (by decide)
        refine sw_if hf (fun c22 hf => ?_) (fun c22 hf => ?_)
        · refine lv_tableIn (off := 126) (tgt := 142) hx hb dX3_readsStatement_16 (by rw [c22]; decide) (by rw [c22]; decide) (by rw [c22]; decide) (by decide) ?_
          refine lv_aload_n hx hb dX3_readsStatement_142 rfl (lv_at hl 1 rfl) ?_
          refine lv_iconst (v := (0 : Int32)) hx hb dX3_readsStatement_143 (by decide) ?_
          refine lv_iconst (v := (1 : Int32)) hx hb dX3_readsStatement_144 (by decide) ?_
          refine d_callV (As := [.int (0 : Int32), .int (1 : Int32)]) (rest := []) (w := (fun z => wMo cI a z)) (wc := (wMo cI a)) (put := (fun uq => uq)) (σ := z3) (τ0 := z3) ⟨hx, hb, hml, hown, hts⟩ hf (fun vq zq hq => mX3_readsNumber l D cI cJ a H.size N z3 (0 : Int32) (1 : Int32) (vq, zq) hq) (cwV 2 hts gX3_readsStatement_X3_readsNumber rfl rfl rfl qX3_readsNumber ⟨Nat.le_of_ble_eq_true rfl, Nat.le_of_ble_eq_true rfl⟩) hK hP hD hS hA ⟨hP, hD _, fun _ _ _ h => h⟩ 3 rfl rfl rfl rfl hl.1 rfl (Nat.le_of_ble_eq_true rfl) dX3_readsStatement_145 ⟨Nat.le_refl _, Nat.le_refl _⟩ (fun v19 z18 H locs hP hS hf => ?_)
          refine k_if_eq (tgt := 164) hx hb dX3_readsStatement_148 (by decide) hf (fun hf => ?_) (fun hf => ?_)
          · exact b164  z18 H locs ls hP hS (lv_sub hl [1] rfl) hf
          · refine lv_aload_n hx hb dX3_readsStatement_151 rfl (lv_at hl 1 rfl) ?_
            refine lv_iconst (v := (1 : Int32)) hx hb dX3_readsStatement_152 (by decide) ?_
            refine lv_iconst (v := (1 : Int32)) hx hb dX3_readsStatement_153 (by decide) ?_
            refine d_callV (As := [.int (1 : Int32), .int (1 : Int32)]) (rest := []) (w := (fun z => wMo cI a z)) (wc := (wMo cI a)) (put := (fun uq => uq)) (σ := z18) (τ0 := z18) ⟨hx, hb, hml, hown, hts⟩ hf (fun vq zq hq => mX3_readsNumber l D cI cJ a H.size N z18 (1 : Int32) (1 : Int32) (vq, zq) hq) (cwV 2 hts gX3_readsStatement_X3_readsNumber rfl rfl rfl qX3_readsNumber ⟨Nat.le_of_ble_eq_true rfl, Nat.le_of_ble_eq_true rfl⟩) hK hP hD hS hA ⟨hP, hD _, fun _ _ _ h => h⟩ 3 rfl rfl rfl rfl hl.1 rfl (Nat.le_of_ble_eq_true rfl) dX3_readsStatement_154 ⟨Nat.le_refl _, Nat.le_refl _⟩ (fun v21 z20 H locs hP hS hf => ?_)
            refine k_if_eq (tgt := 164) hx hb dX3_readsStatement_157 (by decide) hf (fun hf => ?_) (fun hf => ?_)
            · exact b164  z20 H locs ls hP hS (lv_sub hl [1] rfl) hf
            · refine lv_iconst (v := (1 : Int32)) hx hb dX3_readsStatement_160 (by decide) ?_
              refine lv_goto (tgt := 165) hx hb dX3_readsStatement_161 (by decide) ?_
              exact b165  z20 (1 : Int32) H locs ls hP hS (lv_sub hl [1] rfl) hf
        · have c22 := i32_ne c22 (n := 104) (by decide)
          refine sw_if hf (fun c25 hf => ?_) (fun c25 hf => ?_)
          · refine lv_tableIn (off := 180) (tgt := 196) hx hb dX3_readsStatement_16 (by rw [c25]; decide) (by rw [c25]; decide) (by rw [c25]; decide) (by decide) ?_
            refine lv_aload_n hx hb dX3_readsStatement_196 rfl (lv_at hl 1 rfl) ?_
            refine lv_iconst (v := (0 : Int32)) hx hb dX3_readsStatement_197 (by decide) ?_
            refine lv_iconst (v := (2 : Int32)) hx hb dX3_readsStatement_198 (by decide) ?_
            refine d_callV (As := [.int (0 : Int32), .int (2 : Int32)]) (rest := []) (w := (fun z => wMo cI a z)) (wc := (wMo cI a)) (put := (fun uq => uq)) (σ := z3) (τ0 := z3) ⟨hx, hb, hml, hown, hts⟩ hf (fun vq zq hq => mX3_readsNumber l D cI cJ a H.size N z3 (0 : Int32) (2 : Int32) (vq, zq) hq) (cwV 2 hts gX3_readsStatement_X3_readsNumber rfl rfl rfl qX3_readsNumber ⟨Nat.le_of_ble_eq_true rfl, Nat.le_of_ble_eq_true rfl⟩) hK hP hD hS hA ⟨hP, hD _, fun _ _ _ h => h⟩ 3 rfl rfl rfl rfl hl.1 rfl (Nat.le_of_ble_eq_true rfl) dX3_readsStatement_199 ⟨Nat.le_refl _, Nat.le_refl _⟩ (fun v24 z23 H locs hP hS hf => ?_)
            refine lv_istore_n (lv' := [(2, .int v24), (1, .int v1), (0, .ref (a 0))]) hx hb dX3_readsStatement_202 rfl hl (by decide) rfl (fun ls hl => ?_)
            refine lv_goto (tgt := 218) hx hb dX3_readsStatement_203 (by decide) ?_
            exact b218  z23 v24 H locs ls hP hS (lv_sub hl [2, 0] rfl) hf
          · have c25 := i32_ne c25 (n := 110) (by decide)
            refine sw_if hf (fun c32 hf => ?_) (fun c32 hf => ?_)
            · refine lv_tableIn (off := 92) (tgt := 108) hx hb dX3_readsStatement_16 (by rw [c32]; decide) (by rw [c32]; decide) (by rw [c32]; decide) (by decide) ?_
              refine lv_aload_n hx hb dX3_readsStatement_108 rfl (lv_at hl 1 rfl) ?_
              refine d_callV (As := []) (rest := []) (w := (fun z => wMo cI a z)) (wc := (wMo cI a)) (put := (fun uq => uq)) (σ := z3) (τ0 := z3) ⟨hx, hb, hml, hown, hts⟩ hf (fun vq zq hq => mX3_readsKind l D cI cJ a H.size N z3 (vq, zq) hq) (cwV 0 hts gX3_readsStatement_X3_readsKind rfl rfl rfl qX3_readsKind ⟨Nat.le_of_ble_eq_true rfl, Nat.le_of_ble_eq_true rfl⟩) hK hP hD hS hA ⟨hP, hD _, fun _ _ _ h => h⟩ 3 rfl rfl rfl rfl hl.1 rfl (Nat.le_of_ble_eq_true rfl) dX3_readsStatement_109 ⟨Nat.le_refl _, Nat.le_refl _⟩ (fun v27 z26 H locs hP hS hf => ?_)
              refine k_if_eq (tgt := 137) hx hb dX3_readsStatement_112 (by decide) hf (fun hf => ?_) (fun hf => ?_)
              · exact b137  z26 H locs ls hP hS (lv_sub hl [1] rfl) hf
              · refine lv_aload_n hx hb dX3_readsStatement_115 rfl (lv_at hl 1 rfl) ?_
                refine lv_iconst (v := (1 : Int32)) hx hb dX3_readsStatement_116 (by decide) ?_
                refine lv_iconst (v := (1 : Int32)) hx hb dX3_readsStatement_117 (by decide) ?_
                refine d_callV (As := [.int (1 : Int32), .int (1 : Int32)]) (rest := []) (w := (fun z => wMo cI a z)) (wc := (wMo cI a)) (put := (fun uq => uq)) (σ := z26) (τ0 := z26) ⟨hx, hb, hml, hown, hts⟩ hf (fun vq zq hq => mX3_readsNumber l D cI cJ a H.size N z26 (1 : Int32) (1 : Int32) (vq, zq) hq) (cwV 2 hts gX3_readsStatement_X3_readsNumber rfl rfl rfl qX3_readsNumber ⟨Nat.le_of_ble_eq_true rfl, Nat.le_of_ble_eq_true rfl⟩) hK hP hD hS hA ⟨hP, hD _, fun _ _ _ h => h⟩ 3 rfl rfl rfl rfl hl.1 rfl (Nat.le_of_ble_eq_true rfl) dX3_readsStatement_118 ⟨Nat.le_refl _, Nat.le_refl _⟩ (fun v29 z28 H locs hP hS hf => ?_)
                refine k_if_eq (tgt := 137) hx hb dX3_readsStatement_121 (by decide) hf (fun hf => ?_) (fun hf => ?_)
                · exact b137  z28 H locs ls hP hS (lv_sub hl [1] rfl) hf
                · refine lv_aload_n hx hb dX3_readsStatement_124 rfl (lv_at hl 1 rfl) ?_
                  refine lv_iconst (v := (2 : Int32)) hx hb dX3_readsStatement_125 (by decide) ?_
                  refine lv_iconst (v := (1 : Int32)) hx hb dX3_readsStatement_126 (by decide) ?_
                  refine d_callV (As := [.int (2 : Int32), .int (1 : Int32)]) (rest := []) (w := (fun z => wMo cI a z)) (wc := (wMo cI a)) (put := (fun uq => uq)) (σ := z28) (τ0 := z28) ⟨hx, hb, hml, hown, hts⟩ hf (fun vq zq hq => mX3_readsNumber l D cI cJ a H.size N z28 (2 : Int32) (1 : Int32) (vq, zq) hq) (cwV 2 hts gX3_readsStatement_X3_readsNumber rfl rfl rfl qX3_readsNumber ⟨Nat.le_of_ble_eq_true rfl, Nat.le_of_ble_eq_true rfl⟩) hK hP hD hS hA ⟨hP, hD _, fun _ _ _ h => h⟩ 3 rfl rfl rfl rfl hl.1 rfl (Nat.le_of_ble_eq_true rfl) dX3_readsStatement_127 ⟨Nat.le_refl _, Nat.le_refl _⟩ (fun v31 z30 H locs hP hS hf => ?_)
                  refine k_if_eq (tgt := 137) hx hb dX3_readsStatement_130 (by decide) hf (fun hf => ?_) (fun hf => ?_)
                  · exact b137  z30 H locs ls hP hS (lv_sub hl [1] rfl) hf
                  · refine lv_iconst (v := (1 : Int32)) hx hb dX3_readsStatement_133 (by decide) ?_
                    refine lv_goto (tgt := 138) hx hb dX3_readsStatement_134 (by decide) ?_
                    exact b138  z30 (1 : Int32) H locs ls hP hS (lv_sub hl [1] rfl) hf
            · have c32 := i32_ne c32 (n := 116) (by decide)
              refine sw_tab (off := 190) (tgt := 206) hx hb dX3_readsStatement_16 (by decide) (P := fun j => j ≠ 98 ∧ j ≠ 100 ∧ j ≠ 102 ∧ j ≠ 104 ∧ j ≠ 110 ∧ j ≠ 116) (by decide) (by omega) (by decide) ?_
              refine lv_aload_n hx hb dX3_readsStatement_206 rfl (lv_at hl 1 rfl) ?_
              refine lv_dup hx hb dX3_readsStatement_207 rfl ?_
              refine va_get (D := D) (ci := 3) (v := .int (z3 0 10)) (C := RX3) (T := TX3) (N := 13) hx hb hts inX3 hown hK hP 0 rfl rfl 10 (by decide) ln1 (fun _ h9 => h9) rfl dX3_readsStatement_208 ?_
              refine lv_iconst (v := (1 : Int32)) hx hb dX3_readsStatement_211 (by decide) ?_
              refine lv_isub hx hb dX3_readsStatement_212 ?_
              refine k_let hf (fun v33 hf => ?_)
              refine k_put (ci := 3) (C := RX3) (T := TX3) (N := 13) (ty := .int) (w := (fun z => wMo cI a z)) hx hb hts inX3 tyX3 tyX3_ok nmX3 hown hK hP hD hS 0 rfl rfl 10 (by decide) ln1 (fun _ h9 => h9) rfl (by decide +kernel) rfl rfl (Nat.le_of_ble_eq_true rfl) (cN := 0) hf rfl dX3_readsStatement_213 (fun z34 H locs hP hS hf => ?_)
              refine lv_iconst (v := (0 : Int32)) hx hb dX3_readsStatement_216 (by decide) ?_
              exact W_zret (fun z => wMo cI a z) hx hb hr hlk hP hS hAe hf dX3_readsStatement_217
def fX3_isDone (N : Nat) (σ : St) (p1 : Int32) : Option (Int32 × St) :=
    bo (rdI σ 8 3 (0 : Int32)) (fun v1 =>
    bo (rdI σ 8 3 (1 : Int32)) (fun v2 =>
    if p1 = (98 : Int32) then bo (fX3_isSide N v1) (fun v3 =>
    if v3 = 0 then bo (zr (0 : Int32)) (fun v => some (v, σ))
    else if v2 ≤ (50 : Int32) then bo (wrI σ 1 38 ((4 : Int32) + v1) v2) (fun z4 =>
    bo (zr (1 : Int32)) (fun v => some (v, z4)))
    else bo (zr (0 : Int32)) (fun v => some (v, σ)))
    else if p1 = (100 : Int32) then bo (fX3_isFloor N v1) (fun v6 =>
    if v6 = 0 then bo (zr (0 : Int32)) (fun v => some (v, σ))
    else bo (rdI σ 1 38 (3 : Int32)) (fun v7 =>
    lt_ ((v7 ^^^ ((1 : Int32) <<< (v1 &&& 31))) : Int32) (fun v9 =>
    bo (wrI σ 1 38 (3 : Int32) v9) (fun z8 =>
    bo (zr (1 : Int32)) (fun v => some (v, z8))))))
    else if p1 = (102 : Int32) then bo (fX3_isFloor N v1) (fun v11 =>
    if v11 = 0 then bo (zr (0 : Int32)) (fun v => some (v, σ))
    else bo (wrI σ 1 38 (2 : Int32) v1) (fun z12 =>
    bo (zr (1 : Int32)) (fun v => some (v, z12))))
    else if p1 = (104 : Int32) then bo (fX3_isThing N σ v1) (fun v14 =>
    if v14 = 0 then bo (zr (0 : Int32)) (fun v => some (v, σ))
    else if v2 ≤ (2 : Int32) then by_ (fX3_hangsIn N (sb [1] σ) v1 v2) (fun uq => pb [1] uq σ) (fun z15 =>
    bo (zr (1 : Int32)) (fun v => some (v, z15)))
    else bo (zr (0 : Int32)) (fun v => some (v, σ)))
    else if p1 = (116 : Int32) then bo (rdI σ 8 3 (2 : Int32)) (fun v17 =>
    if (2 : Int32) < v17 then bo (zr (0 : Int32)) (fun v => some (v, σ))
    else bo (rdI σ 1 38 (0 : Int32)) (fun v18 =>
    if v18 = (8 : Int32) then bo (zr (0 : Int32)) (fun v => some (v, σ))
    else bo (rdI σ 1 38 (0 : Int32)) (fun v19 =>
    bo (fX3_of N v19 (0 : Int32)) (fun v20 =>
    bo (wrI σ 1 38 v20 v1) (fun z21 =>
    bo (rdI z21 1 38 (0 : Int32)) (fun v22 =>
    bo (fX3_of N v22 (1 : Int32)) (fun v23 =>
    bo (wrI z21 1 38 v23 v2) (fun z24 =>
    bo (rdI z24 1 38 (0 : Int32)) (fun v25 =>
    bo (rdI z24 8 3 (2 : Int32)) (fun v26 =>
    by_ (fX3_hangsIn N (sb [1] z24) v25 v26) (fun uq => pb [1] uq z24) (fun z27 =>
    bo (rdI z27 1 38 (0 : Int32)) (fun v28 =>
    lt_ ((v28 + (1 : Int32)) : Int32) (fun v30 =>
    bo (wrI z27 1 38 (0 : Int32) v30) (fun z29 =>
    bo (zr (1 : Int32)) (fun v => some (v, z29))))))))))))))))
    else bo (fX3_isIn N v1 (1 : Int32) (60 : Int32)) (fun v32 =>
    if v32 = 0 then bo (zr (0 : Int32)) (fun v => some (v, σ))
    else bo (rdI σ 1 38 (1 : Int32)) (fun v33 =>
    if (v33 + v1) ≤ (999 : Int32) then by_ (fX3_daysOn N (sb [1] σ) v1) (fun uq => pb [1] uq σ) (fun z34 =>
    bo (zr (1 : Int32)) (fun v => some (v, z34)))
    else bo (zr (0 : Int32)) (fun v => some (v, σ))))))
abbrev rmX3_isDone : Room := { frames := 8, cells := 0, slots := 0, locals := 178 }
theorem qX3_isDone : yX3_isDone.cls = RX3 ∧ yX3_isDone.cls ≠ "java/lang/invoke/MethodHandle" ∧ yX3_isDone.cls ≠ "java/lang/invoke/VarHandle" ∧ (parseMethodDescriptor yX3_isDone.desc).map (fun d => d.parameters.length) = some 1 := by decide +kernel
set_option maxHeartbeats 400000 in
set_option maxRecDepth 100000 in
theorem mX3_isDone (l : Launch) (D : va_G) (cI cJ : ClassId) (a : Nat → Nat) (sz N : Nat) (σ : St) (p1 : Int32) (r : (Int32 × St)) (hf : fX3_isDone N σ p1 = some r) : Met l yX3_isDone wsX3_isDone rmX3_isDone (WPre ([.ref (a 0), .int p1] : List Value) sz D (tyIJ cI cJ) (wMo cI a σ)) (WQi sz D (wMo cI a σ) (wMo cI a (r.2)) r.1) 0 0 (va_A (wMo cI a σ) sz) := by
  refine W_start (cc := cX3_isDone) (maxL := 4) (ret := (some .boolean)) (by decide) rfl (Nat.le_of_ble_eq_true rfl) (fun p e s m below meth c ls A hx hb hr hml hown hts hlk hP hK hS hA hD0 hAe hl => ?_)
  have hD : ∀ z, va_D A ((fun z => wMo cI a z) z) := fun z => hD0.ad rfl
  have hown : s.vm.findClass RX3 = some m.cls := hown
  have hl : lv_has ls 4 [(0, .ref (a 0)), (1, .int p1)] := hl
  have ln1 := hts (Cond.fieldLink RX3 31 "HoistsAreSharedModel" "numbers" "[I") (List.mem_of_getElem? (i := 1) rfl)
  have inX3 : ∀ w ∈ u_ws RX3 TX3 13, w ∈ wsX3_isDone := fun _ h => List.mem_cons_of_mem _ (List.mem_append_right _ h)
  have ln3 := hts (Cond.fieldLink RX3 9 "HoistsAreSharedModel" "s" "[I") (List.mem_of_getElem? (i := 2) rfl)
  unfold fX3_isDone at hf
  refine lv_aload_n hx hb dX3_isDone_0 rfl (lv_at hl 0 rfl) ?_
  refine va_get (D := D) (ci := 3) (v := .ref (a 8)) (C := RX3) (T := TX3) (N := 13) hx hb hts inX3 hown hK hP 0 rfl rfl 11 (by decide) ln1 (fun _ h9 => h9) rfl dX3_isDone_1 ?_
  refine lv_iconst (v := (0 : Int32)) hx hb dX3_isDone_4 (by decide) ?_
  refine k_iald hx hb hK hP 8 0 hf rfl rfl dX3_isDone_5 (fun v1 hf => ?_)
  refine lv_istore_n (lv' := [(2, .int v1), (0, .ref (a 0)), (1, .int p1)]) hx hb dX3_isDone_6 rfl hl (by decide) rfl (fun ls hl => ?_)
  refine lv_aload_n hx hb dX3_isDone_7 rfl (lv_at hl 1 rfl) ?_
  refine va_get (D := D) (ci := 3) (v := .ref (a 8)) (C := RX3) (T := TX3) (N := 13) hx hb hts inX3 hown hK hP 0 rfl rfl 11 (by decide) ln1 (fun _ h9 => h9) rfl dX3_isDone_8 ?_
  refine lv_iconst (v := (1 : Int32)) hx hb dX3_isDone_11 (by decide) ?_
  refine k_iald hx hb hK hP 8 0 hf rfl rfl dX3_isDone_12 (fun v2 hf => ?_)
  refine lv_istore_n (lv' := [(3, .int v2), (2, .int v1), (0, .ref (a 0)), (1, .int p1)]) hx hb dX3_isDone_13 rfl hl (by decide) rfl (fun ls hl => ?_)
  refine lv_iload_n hx hb dX3_isDone_14 rfl (lv_at hl 3 rfl) ?_
  refine sw_if hf (fun c5 hf => ?_) (fun c5 hf => ?_)
  · refine lv_lookup (off := 161) (tgt := 176) hx hb dX3_isDone_15 (by decide) (by rw [c5]; decide) (by decide) ?_
    refine lv_iload_n hx hb dX3_isDone_176 rfl (lv_at hl 1 rfl) ?_
    refine c_callS (As := [.int v1]) (rest := []) ⟨hx, hb, hml, hown, hts⟩ hf (fun vq hq => mX3_isSide l D cI cJ s.heap.size N v1 vq hq) (va_cwS 1 hts gX3_isDone_X3_isSide rfl rfl rfl qX3_isSide ⟨Nat.le_of_ble_eq_true rfl, Nat.le_of_ble_eq_true rfl⟩) hK hP hS hA va_P_nil rfl hl.1 rfl (Nat.le_of_ble_eq_true rfl) dX3_isDone_177 ⟨Nat.le_refl _, Nat.le_refl _⟩ (fun v3 H locs hP hS hf => ?_)
    refine k_if_eq (tgt := 189) hx hb dX3_isDone_180 (by decide) hf (fun hf => ?_) (fun hf => ?_)
    · refine lv_iconst (v := (0 : Int32)) hx hb dX3_isDone_189 (by decide) ?_
      exact W_zret (fun z => wMo cI a z) hx hb hr hlk hP hS hAe hf dX3_isDone_190
    · refine lv_iload_n hx hb dX3_isDone_183 rfl (lv_at hl 0 rfl) ?_
      refine lv_bipush (v := (50 : Int32)) hx hb dX3_isDone_184 (by decide) ?_
      refine k_icmp_le (tgt := 191) hx hb dX3_isDone_186 (by decide) hf (fun hf => ?_) (fun hf => ?_)
      · refine lv_aload_n hx hb dX3_isDone_191 rfl (lv_at hl 2 rfl) ?_
        refine va_get (D := D) (ci := 3) (v := .ref (a 1)) (C := RX3) (T := TX3) (N := 13) hx hb hts inX3 hown hK hP 0 rfl rfl 0 (by decide) ln3 (fun _ h9 => h9) rfl dX3_isDone_192 ?_
        refine lv_iconst (v := (4 : Int32)) hx hb dX3_isDone_195 (by decide) ?_
        refine lv_iload_n hx hb dX3_isDone_196 rfl (lv_at hl 1 rfl) ?_
        refine lv_iadd hx hb dX3_isDone_197 ?_
        refine lv_iload_n hx hb dX3_isDone_198 rfl (lv_at hl 0 rfl) ?_
        refine k_iast (w := (fun z => wMo cI a z)) hx hb hK hP hD hS 1 0 hf rfl rfl (fun _ => rfl) dX3_isDone_199 (fun z4 H locs hP hS hf => ?_)
        refine lv_iconst (v := (1 : Int32)) hx hb dX3_isDone_200 (by decide) ?_
        exact W_zret (fun z => wMo cI a z) hx hb hr hlk hP hS hAe hf dX3_isDone_201
      · refine lv_iconst (v := (0 : Int32)) hx hb dX3_isDone_189 (by decide) ?_
        exact W_zret (fun z => wMo cI a z) hx hb hr hlk hP hS hAe hf dX3_isDone_190
  · have c5 := i32_ne c5 (n := 98) (by decide)
    refine sw_if hf (fun c10 hf => ?_) (fun c10 hf => ?_)
    · refine lv_lookup (off := 205) (tgt := 220) hx hb dX3_isDone_15 (by decide) (by rw [c10]; decide) (by decide) ?_
      refine lv_iload_n hx hb dX3_isDone_220 rfl (lv_at hl 1 rfl) ?_
      refine c_callS (As := [.int v1]) (rest := []) ⟨hx, hb, hml, hown, hts⟩ hf (fun vq hq => mX3_isFloor l D cI cJ s.heap.size N v1 vq hq) (va_cwS 1 hts gX3_isDone_X3_isFloor rfl rfl rfl qX3_isFloor ⟨Nat.le_of_ble_eq_true rfl, Nat.le_of_ble_eq_true rfl⟩) hK hP hS hA va_P_nil rfl hl.1 rfl (Nat.le_of_ble_eq_true rfl) dX3_isDone_221 ⟨Nat.le_refl _, Nat.le_refl _⟩ (fun v6 H locs hP hS hf => ?_)
      refine k_if_ne (tgt := 229) hx hb dX3_isDone_224 (by decide) hf (fun hf => ?_) (fun hf => ?_)
      · refine lv_aload_n hx hb dX3_isDone_229 rfl (lv_at hl 2 rfl) ?_
        refine va_get (D := D) (ci := 3) (v := .ref (a 1)) (C := RX3) (T := TX3) (N := 13) hx hb hts inX3 hown hK hP 0 rfl rfl 0 (by decide) ln3 (fun _ h9 => h9) rfl dX3_isDone_230 ?_
        refine lv_iconst (v := (3 : Int32)) hx hb dX3_isDone_233 (by decide) ?_
        refine lv_dup2_11 hx hb dX3_isDone_234 rfl rfl ?_
        refine k_iald hx hb hK hP 1 0 hf rfl rfl dX3_isDone_235 (fun v7 hf => ?_)
        refine lv_iconst (v := (1 : Int32)) hx hb dX3_isDone_236 (by decide) ?_
        refine lv_iload_n hx hb dX3_isDone_237 rfl (lv_at hl 1 rfl) ?_
        refine lv_ishl hx hb dX3_isDone_238 ?_
        refine lv_ixor hx hb dX3_isDone_239 ?_
        refine k_let hf (fun v9 hf => ?_)
        refine k_iast (w := (fun z => wMo cI a z)) hx hb hK hP hD hS 1 0 hf rfl rfl (fun _ => rfl) dX3_isDone_240 (fun z8 H locs hP hS hf => ?_)
        refine lv_iconst (v := (1 : Int32)) hx hb dX3_isDone_241 (by decide) ?_
        exact W_zret (fun z => wMo cI a z) hx hb hr hlk hP hS hAe hf dX3_isDone_242
      · refine lv_iconst (v := (0 : Int32)) hx hb dX3_isDone_227 (by decide) ?_
        exact W_zret (fun z => wMo cI a z) hx hb hr hlk hP hS hAe hf dX3_isDone_228
    · have c10 := i32_ne c10 (n := 100) (by decide)
      refine sw_if hf (fun c13 hf => ?_) (fun c13 hf => ?_)
      · refine lv_lookup (off := 187) (tgt := 202) hx hb dX3_isDone_15 (by decide) (by rw [c13]; decide) (by decide) ?_
        refine lv_iload_n hx hb dX3_isDone_202 rfl (lv_at hl 1 rfl) ?_
        refine c_callS (As := [.int v1]) (rest := []) ⟨hx, hb, hml, hown, hts⟩ hf (fun vq hq => mX3_isFloor l D cI cJ s.heap.size N v1 vq hq) (va_cwS 1 hts gX3_isDone_X3_isFloor rfl rfl rfl qX3_isFloor ⟨Nat.le_of_ble_eq_true rfl, Nat.le_of_ble_eq_true rfl⟩) hK hP hS hA va_P_nil rfl hl.1 rfl (Nat.le_of_ble_eq_true rfl) dX3_isDone_203 ⟨Nat.le_refl _, Nat.le_refl _⟩ (fun v11 H locs hP hS hf => ?_)
        refine k_if_ne (tgt := 211) hx hb dX3_isDone_206 (by decide) hf (fun hf => ?_) (fun hf => ?_)
        · refine lv_aload_n hx hb dX3_isDone_211 rfl (lv_at hl 2 rfl) ?_
          refine va_get (D := D) (ci := 3) (v := .ref (a 1)) (C := RX3) (T := TX3) (N := 13) hx hb hts inX3 hown hK hP 0 rfl rfl 0 (by decide) ln3 (fun _ h9 => h9) rfl dX3_isDone_212 ?_
          refine lv_iconst (v := (2 : Int32)) hx hb dX3_isDone_215 (by decide) ?_
          refine lv_iload_n hx hb dX3_isDone_216 rfl (lv_at hl 1 rfl) ?_
          refine k_iast (w := (fun z => wMo cI a z)) hx hb hK hP hD hS 1 0 hf rfl rfl (fun _ => rfl) dX3_isDone_217 (fun z12 H locs hP hS hf => ?_)
          refine lv_iconst (v := (1 : Int32)) hx hb dX3_isDone_218 (by decide) ?_
          exact W_zret (fun z => wMo cI a z) hx hb hr hlk hP hS hAe hf dX3_isDone_219
        · refine lv_iconst (v := (0 : Int32)) hx hb dX3_isDone_209 (by decide) ?_
          exact W_zret (fun z => wMo cI a z) hx hb hr hlk hP hS hAe hf dX3_isDone_210
      · have c13 := i32_ne c13 (n := 102) (by decide)
        refine sw_if hf (fun c16 hf => ?_) (fun c16 hf => ?_)
        · refine lv_lookup (off := 135) (tgt := 150) hx hb dX3_isDone_15 (by decide) (by rw [c16]; decide) (by decide) ?_
          refine lv_aload_n hx hb dX3_isDone_150 rfl (lv_at hl 2 rfl) ?_
          refine lv_iload_n hx hb dX3_isDone_151 rfl (lv_at hl 1 rfl) ?_
          refine c_callV (As := [.int v1]) (rest := []) ⟨hx, hb, hml, hown, hts⟩ hf (fun vq hq => mX3_isThing l D cI cJ a s.heap.size N σ v1 vq hq) (cwV 1 hts gX3_isDone_X3_isThing rfl rfl rfl qX3_isThing ⟨Nat.le_of_ble_eq_true rfl, Nat.le_of_ble_eq_true rfl⟩) hK hP hS hA hP 3 rfl rfl rfl rfl hl.1 rfl (Nat.le_of_ble_eq_true rfl) dX3_isDone_152 ⟨Nat.le_refl _, Nat.le_refl _⟩ (fun v14 H locs hP hS hf => ?_)
          refine k_if_eq (tgt := 163) hx hb dX3_isDone_155 (by decide) hf (fun hf => ?_) (fun hf => ?_)
          · refine lv_iconst (v := (0 : Int32)) hx hb dX3_isDone_163 (by decide) ?_
            exact W_zret (fun z => wMo cI a z) hx hb hr hlk hP hS hAe hf dX3_isDone_164
          · refine lv_iload_n hx hb dX3_isDone_158 rfl (lv_at hl 0 rfl) ?_
            refine lv_iconst (v := (2 : Int32)) hx hb dX3_isDone_159 (by decide) ?_
            refine k_icmp_le (tgt := 165) hx hb dX3_isDone_160 (by decide) hf (fun hf => ?_) (fun hf => ?_)
            · refine lv_aload_n hx hb dX3_isDone_165 rfl (lv_at hl 2 rfl) ?_
              refine va_get (D := D) (ci := 3) (v := .ref (a 1)) (C := RX3) (T := TX3) (N := 13) hx hb hts inX3 hown hK hP 0 rfl rfl 0 (by decide) ln3 (fun _ h9 => h9) rfl dX3_isDone_166 ?_
              refine lv_iload_n hx hb dX3_isDone_169 rfl (lv_at hl 1 rfl) ?_
              refine lv_iload_n hx hb dX3_isDone_170 rfl (lv_at hl 0 rfl) ?_
              refine d_callSv (As := [.ref ((sb [1] a) 0), .int v1, .int v2]) (rest := []) (w := (fun z => wMo cI a z)) (wc := (wAr cI (sb [1] a))) (put := (fun uq => pb [1] uq σ)) (σ := σ) (τ0 := (sb [1] σ)) ⟨hx, hb, hml, hown, hts⟩ hf (fun zq hq => mX3_hangsIn l D cI cJ (sb [1] a) H.size N (sb [1] σ) v1 v2 zq hq) (va_cwS 3 hts gX3_isDone_X3_hangsIn rfl rfl rfl qX3_hangsIn ⟨Nat.le_of_ble_eq_true rfl, Nat.le_of_ble_eq_true rfl⟩) hK hP hD hS hA (cmb_Mo_Ar_1 D cI a σ hP (hD _)) rfl hl.1 rfl (Nat.le_of_ble_eq_true rfl) dX3_isDone_171 ⟨Nat.le_refl _, Nat.le_refl _⟩ (fun z15 H locs hP hS hf => ?_)
              refine lv_iconst (v := (1 : Int32)) hx hb dX3_isDone_174 (by decide) ?_
              exact W_zret (fun z => wMo cI a z) hx hb hr hlk hP hS hAe hf dX3_isDone_175
            · refine lv_iconst (v := (0 : Int32)) hx hb dX3_isDone_163 (by decide) ?_
              exact W_zret (fun z => wMo cI a z) hx hb hr hlk hP hS hAe hf dX3_isDone_164
        · have c16 := i32_ne c16 (n := 104) (by decide)
          refine sw_if hf (fun c31 hf => ?_) (fun c31 hf => ?_)
          · refine lv_lookup (off := 49) (tgt := 64) hx hb dX3_isDone_15 (by decide) (by rw [c31]; decide) (by decide) ?_
            refine lv_aload_n hx hb dX3_isDone_64 rfl (lv_at hl 2 rfl) ?_
            refine va_get (D := D) (ci := 3) (v := .ref (a 8)) (C := RX3) (T := TX3) (N := 13) hx hb hts inX3 hown hK hP 0 rfl rfl 11 (by decide) ln1 (fun _ h9 => h9) rfl dX3_isDone_65 ?_
            refine lv_iconst (v := (2 : Int32)) hx hb dX3_isDone_68 (by decide) ?_
            refine k_iald hx hb hK hP 8 0 hf rfl rfl dX3_isDone_69 (fun v17 hf => ?_)
            refine lv_iconst (v := (2 : Int32)) hx hb dX3_isDone_70 (by decide) ?_
            refine k_icmp_gt (tgt := 85) hx hb dX3_isDone_71 (by decide) hf (fun hf => ?_) (fun hf => ?_)
            · refine lv_iconst (v := (0 : Int32)) hx hb dX3_isDone_85 (by decide) ?_
              exact W_zret (fun z => wMo cI a z) hx hb hr hlk hP hS hAe hf dX3_isDone_86
            · refine lv_aload_n hx hb dX3_isDone_74 rfl (lv_at hl 2 rfl) ?_
              refine va_get (D := D) (ci := 3) (v := .ref (a 1)) (C := RX3) (T := TX3) (N := 13) hx hb hts inX3 hown hK hP 0 rfl rfl 0 (by decide) ln3 (fun _ h9 => h9) rfl dX3_isDone_75 ?_
              refine lv_iconst (v := (0 : Int32)) hx hb dX3_isDone_78 (by decide) ?_
              refine k_iald hx hb hK hP 1 0 hf rfl rfl dX3_isDone_79 (fun v18 hf => ?_)
              refine lv_bipush (v := (8 : Int32)) hx hb dX3_isDone_80 (by decide) ?_
              refine k_icmp_ne (tgt := 87) hx hb dX3_isDone_82 (by decide) hf (fun hf => ?_) (fun hf => ?_)
              · refine lv_aload_n hx hb dX3_isDone_87 rfl (lv_at hl 2 rfl) ?_
                refine va_get (D := D) (ci := 3) (v := .ref (a 1)) (C := RX3) (T := TX3) (N := 13) hx hb hts inX3 hown hK hP 0 rfl rfl 0 (by decide) ln3 (fun _ h9 => h9) rfl dX3_isDone_88 ?_
                refine lv_aload_n hx hb dX3_isDone_91 rfl (lv_at hl 2 rfl) ?_
                refine va_get (D := D) (ci := 3) (v := .ref (a 1)) (C := RX3) (T := TX3) (N := 13) hx hb hts inX3 hown hK hP 0 rfl rfl 0 (by decide) ln3 (fun _ h9 => h9) rfl dX3_isDone_92 ?_
                refine lv_iconst (v := (0 : Int32)) hx hb dX3_isDone_95 (by decide) ?_
                refine k_iald hx hb hK hP 1 0 hf rfl rfl dX3_isDone_96 (fun v19 hf => ?_)
                refine lv_iconst (v := (0 : Int32)) hx hb dX3_isDone_97 (by decide) ?_
                refine c_callS (As := [.int v19, .int (0 : Int32)]) (rest := [.ref (a 1)]) ⟨hx, hb, hml, hown, hts⟩ hf (fun vq hq => mX3_of l D cI cJ s.heap.size N v19 (0 : Int32) vq hq) (va_cwS 2 hts gX3_isDone_X3_of rfl rfl rfl qX3_of ⟨Nat.le_of_ble_eq_true rfl, Nat.le_of_ble_eq_true rfl⟩) hK hP hS hA va_P_nil rfl hl.1 rfl (Nat.le_of_ble_eq_true rfl) dX3_isDone_98 ⟨Nat.le_refl _, Nat.le_refl _⟩ (fun v20 H locs hP hS hf => ?_)
                refine lv_iload_n hx hb dX3_isDone_101 rfl (lv_at hl 1 rfl) ?_
                refine k_iast (w := (fun z => wMo cI a z)) hx hb hK hP hD hS 1 0 hf rfl rfl (fun _ => rfl) dX3_isDone_102 (fun z21 H locs hP hS hf => ?_)
                refine lv_aload_n hx hb dX3_isDone_103 rfl (lv_at hl 2 rfl) ?_
                refine va_get (D := D) (ci := 3) (v := .ref (a 1)) (C := RX3) (T := TX3) (N := 13) hx hb hts inX3 hown hK hP 0 rfl rfl 0 (by decide) ln3 (fun _ h9 => h9) rfl dX3_isDone_104 ?_
                refine lv_aload_n hx hb dX3_isDone_107 rfl (lv_at hl 2 rfl) ?_
                refine va_get (D := D) (ci := 3) (v := .ref (a 1)) (C := RX3) (T := TX3) (N := 13) hx hb hts inX3 hown hK hP 0 rfl rfl 0 (by decide) ln3 (fun _ h9 => h9) rfl dX3_isDone_108 ?_
                refine lv_iconst (v := (0 : Int32)) hx hb dX3_isDone_111 (by decide) ?_
                refine k_iald hx hb hK hP 1 0 hf rfl rfl dX3_isDone_112 (fun v22 hf => ?_)
                refine lv_iconst (v := (1 : Int32)) hx hb dX3_isDone_113 (by decide) ?_
                refine c_callS (As := [.int v22, .int (1 : Int32)]) (rest := [.ref (a 1)]) ⟨hx, hb, hml, hown, hts⟩ hf (fun vq hq => mX3_of l D cI cJ H.size N v22 (1 : Int32) vq hq) (va_cwS 2 hts gX3_isDone_X3_of rfl rfl rfl qX3_of ⟨Nat.le_of_ble_eq_true rfl, Nat.le_of_ble_eq_true rfl⟩) hK hP hS hA va_P_nil rfl hl.1 rfl (Nat.le_of_ble_eq_true rfl) dX3_isDone_114 ⟨Nat.le_refl _, Nat.le_refl _⟩ (fun v23 H locs hP hS hf => ?_)
                refine lv_iload_n hx hb dX3_isDone_117 rfl (lv_at hl 0 rfl) ?_
                refine k_iast (w := (fun z => wMo cI a z)) hx hb hK hP hD hS 1 0 hf rfl rfl (fun _ => rfl) dX3_isDone_118 (fun z24 H locs hP hS hf => ?_)
                refine lv_aload_n hx hb dX3_isDone_119 rfl (lv_at hl 2 rfl) ?_
                refine va_get (D := D) (ci := 3) (v := .ref (a 1)) (C := RX3) (T := TX3) (N := 13) hx hb hts inX3 hown hK hP 0 rfl rfl 0 (by decide) ln3 (fun _ h9 => h9) rfl dX3_isDone_120 ?_
                refine lv_aload_n hx hb dX3_isDone_123 rfl (lv_at hl 2 rfl) ?_
                refine va_get (D := D) (ci := 3) (v := .ref (a 1)) (C := RX3) (T := TX3) (N := 13) hx hb hts inX3 hown hK hP 0 rfl rfl 0 (by decide) ln3 (fun _ h9 => h9) rfl dX3_isDone_124 ?_
                refine lv_iconst (v := (0 : Int32)) hx hb dX3_isDone_127 (by decide) ?_
                refine k_iald hx hb hK hP 1 0 hf rfl rfl dX3_isDone_128 (fun v25 hf => ?_)
                refine lv_aload_n hx hb dX3_isDone_129 rfl (lv_at hl 2 rfl) ?_
                refine va_get (D := D) (ci := 3) (v := .ref (a 8)) (C := RX3) (T := TX3) (N := 13) hx hb hts inX3 hown hK hP 0 rfl rfl 11 (by decide) ln1 (fun _ h9 => h9) rfl dX3_isDone_130 ?_
                refine lv_iconst (v := (2 : Int32)) hx hb dX3_isDone_133 (by decide) ?_
                refine k_iald hx hb hK hP 8 0 hf rfl rfl dX3_isDone_134 (fun v26 hf => ?_)
                refine d_callSv (As := [.ref ((sb [1] a) 0), .int v25, .int v26]) (rest := []) (w := (fun z => wMo cI a z)) (wc := (wAr cI (sb [1] a))) (put := (fun uq => pb [1] uq z24)) (σ := z24) (τ0 := (sb [1] z24)) ⟨hx, hb, hml, hown, hts⟩ hf (fun zq hq => mX3_hangsIn l D cI cJ (sb [1] a) H.size N (sb [1] z24) v25 v26 zq hq) (va_cwS 3 hts gX3_isDone_X3_hangsIn rfl rfl rfl qX3_hangsIn ⟨Nat.le_of_ble_eq_true rfl, Nat.le_of_ble_eq_true rfl⟩) hK hP hD hS hA (cmb_Mo_Ar_1 D cI a z24 hP (hD _)) rfl hl.1 rfl (Nat.le_of_ble_eq_true rfl) dX3_isDone_135 ⟨Nat.le_refl _, Nat.le_refl _⟩ (fun z27 H locs hP hS hf => ?_)
                refine lv_aload_n hx hb dX3_isDone_138 rfl (lv_at hl 2 rfl) ?_
                refine va_get (D := D) (ci := 3) (v := .ref (a 1)) (C := RX3) (T := TX3) (N := 13) hx hb hts inX3 hown hK hP 0 rfl rfl 0 (by decide) ln3 (fun _ h9 => h9) rfl dX3_isDone_139 ?_
                refine lv_iconst (v := (0 : Int32)) hx hb dX3_isDone_142 (by decide) ?_
                refine lv_dup2_11 hx hb dX3_isDone_143 rfl rfl ?_
                refine k_iald hx hb hK hP 1 0 hf rfl rfl dX3_isDone_144 (fun v28 hf => ?_)
                refine lv_iconst (v := (1 : Int32)) hx hb dX3_isDone_145 (by decide) ?_
                refine lv_iadd hx hb dX3_isDone_146 ?_
                refine k_let hf (fun v30 hf => ?_)
                refine k_iast (w := (fun z => wMo cI a z)) hx hb hK hP hD hS 1 0 hf rfl rfl (fun _ => rfl) dX3_isDone_147 (fun z29 H locs hP hS hf => ?_)
                refine lv_iconst (v := (1 : Int32)) hx hb dX3_isDone_148 (by decide) ?_
                exact W_zret (fun z => wMo cI a z) hx hb hr hlk hP hS hAe hf dX3_isDone_149
              · refine lv_iconst (v := (0 : Int32)) hx hb dX3_isDone_85 (by decide) ?_
                exact W_zret (fun z => wMo cI a z) hx hb hr hlk hP hS hAe hf dX3_isDone_86
          · have c31 := i32_ne c31 (n := 116) (by decide)
            refine lv_lookup (off := 228) (tgt := 243) hx hb dX3_isDone_15 (by decide) (by simp [Op.lookupswitch.offset, c5.symm, c10.symm, c13.symm, c16.symm, c31.symm]) (by decide) ?_
            refine lv_iload_n hx hb dX3_isDone_243 rfl (lv_at hl 1 rfl) ?_
            refine lv_iconst (v := (1 : Int32)) hx hb dX3_isDone_244 (by decide) ?_
            refine lv_bipush (v := (60 : Int32)) hx hb dX3_isDone_245 (by decide) ?_
            refine c_callS (As := [.int v1, .int (1 : Int32), .int (60 : Int32)]) (rest := []) ⟨hx, hb, hml, hown, hts⟩ hf (fun vq hq => mX3_isIn l D cI cJ s.heap.size N v1 (1 : Int32) (60 : Int32) vq hq) (va_cwS 3 hts gX3_isDone_X3_isIn rfl rfl rfl qX3_isIn ⟨Nat.le_of_ble_eq_true rfl, Nat.le_of_ble_eq_true rfl⟩) hK hP hS hA va_P_nil rfl hl.1 rfl (Nat.le_of_ble_eq_true rfl) dX3_isDone_247 ⟨Nat.le_refl _, Nat.le_refl _⟩ (fun v32 H locs hP hS hf => ?_)
            refine k_if_eq (tgt := 267) hx hb dX3_isDone_250 (by decide) hf (fun hf => ?_) (fun hf => ?_)
            · refine lv_iconst (v := (0 : Int32)) hx hb dX3_isDone_267 (by decide) ?_
              exact W_zret (fun z => wMo cI a z) hx hb hr hlk hP hS hAe hf dX3_isDone_268
            · refine lv_aload_n hx hb dX3_isDone_253 rfl (lv_at hl 2 rfl) ?_
              refine va_get (D := D) (ci := 3) (v := .ref (a 1)) (C := RX3) (T := TX3) (N := 13) hx hb hts inX3 hown hK hP 0 rfl rfl 0 (by decide) ln3 (fun _ h9 => h9) rfl dX3_isDone_254 ?_
              refine lv_iconst (v := (1 : Int32)) hx hb dX3_isDone_257 (by decide) ?_
              refine k_iald hx hb hK hP 1 0 hf rfl rfl dX3_isDone_258 (fun v33 hf => ?_)
              refine lv_iload_n hx hb dX3_isDone_259 rfl (lv_at hl 1 rfl) ?_
              refine lv_iadd hx hb dX3_isDone_260 ?_
              refine lv_sipush (v := (999 : Int32)) hx hb dX3_isDone_261 (by decide) ?_
              refine k_icmp_le (tgt := 269) hx hb dX3_isDone_264 (by decide) hf (fun hf => ?_) (fun hf => ?_)
              · refine lv_aload_n hx hb dX3_isDone_269 rfl (lv_at hl 2 rfl) ?_
                refine va_get (D := D) (ci := 3) (v := .ref (a 1)) (C := RX3) (T := TX3) (N := 13) hx hb hts inX3 hown hK hP 0 rfl rfl 0 (by decide) ln3 (fun _ h9 => h9) rfl dX3_isDone_270 ?_
                refine lv_iload_n hx hb dX3_isDone_273 rfl (lv_at hl 1 rfl) ?_
                refine d_callSv (As := [.ref ((sb [1] a) 0), .int v1]) (rest := []) (w := (fun z => wMo cI a z)) (wc := (wAr cI (sb [1] a))) (put := (fun uq => pb [1] uq σ)) (σ := σ) (τ0 := (sb [1] σ)) ⟨hx, hb, hml, hown, hts⟩ hf (fun zq hq => mX3_daysOn l D cI cJ (sb [1] a) H.size N (sb [1] σ) v1 zq hq) (va_cwS 2 hts gX3_isDone_X3_daysOn rfl rfl rfl qX3_daysOn ⟨Nat.le_of_ble_eq_true rfl, Nat.le_of_ble_eq_true rfl⟩) hK hP hD hS hA (cmb_Mo_Ar_1 D cI a σ hP (hD _)) rfl hl.1 rfl (Nat.le_of_ble_eq_true rfl) dX3_isDone_274 ⟨Nat.le_refl _, Nat.le_refl _⟩ (fun z34 H locs hP hS hf => ?_)
                refine lv_iconst (v := (1 : Int32)) hx hb dX3_isDone_277 (by decide) ?_
                exact W_zret (fun z => wMo cI a z) hx hb hr hlk hP hS hAe hf dX3_isDone_278
              · refine lv_iconst (v := (0 : Int32)) hx hb dX3_isDone_267 (by decide) ?_
                exact W_zret (fun z => wMo cI a z) hx hb hr hlk hP hS hAe hf dX3_isDone_268
def fX3_hoist_L128 (N : Nat)  (z : St) (x1 : Int32) (x2 : Int32) : Option (Int32 × St) :=
    lt_ (up2 z 0 8 (0 : Int32)) (fun z7 =>
    if x2 = (-9 : Int32) then some (x1, z7)
    else some (x2, z7))
def fX3_hoist_L62 (N : Nat)  : Nat → St → Int32 → Int32 → Option (Int32 × St)
  | 0, _, _, _ => none
  | n + 1, z, x1, x2 =>
    if x2 = (-9 : Int32) then if (z 0 8) ≤ (z 0 10) then fX3_hoist_L128 N  z x1 x2
    else bo (fX3_here N z) (fun v8 =>
    bx (fX3_readsStatement N z) (fun uq => uq) (fun v10 z9 =>
    bx (fX3_isDone N z9 v8) (fun uq => uq) (fun v12 z11 =>
    if v12 = 0 then lt_ (((-2000 : Int32) - (z 0 10)) : Int32) (fun v13 =>
    by_ (fX3_copies N (sb [4, 1] z11)) (fun uq => pb [4, 1] uq z11) (fun z14 =>
    (fX3_hoist_L62 N n) z14 x1 v13))
    else (fX3_hoist_L62 N n) z11 x1 x2)))
    else fX3_hoist_L128 N  z x1 x2
def fX3_hoist_L46 (N : Nat)  (z : St) (x1 : Int32) (x2 : Int32) : Option (Int32 × St) :=
    by_ (fX3_copies N (sb [1, 4] z)) (fun uq => pb [1, 4] uq z) (fun z5 =>
    lt_ (up2 z5 0 10 (0 : Int32)) (fun z6 =>
    fX3_hoist_L62 N  N z6 x1 x2))
def fX3_hoist_L26 (N : Nat) (k10 : St → Int32 → Int32 → Option (Int32 × St)) (z : St) (x1 : Int32) (x2 : Int32) : Option (Int32 × St) :=
    lt_ (x1 + (1 : Int32) : Int32) (fun v4 =>
    if x2 = (-9 : Int32) then if (z 0 10) < (z 0 8) then k10 z v4 x2
    else fX3_hoist_L46 N  z v4 x2
    else fX3_hoist_L46 N  z v4 x2)
def fX3_hoist_L10 (N : Nat)  : Nat → St → Int32 → Int32 → Option (Int32 × St)
  | 0, _, _, _ => none
  | n + 1, z, x1, x2 =>
    bx (fX3_readsStatement N z) (fun uq => uq) (fun v3 z2 =>
    if v3 = 0 then lt_ (((-1000 : Int32) - (z2 0 10)) : Int32) (fun v15 =>
    fX3_hoist_L26 N (fX3_hoist_L10 N n) z2 x1 v15)
    else fX3_hoist_L26 N (fX3_hoist_L10 N n) z2 x1 x2)
def fX3_hoist (N : Nat) (σ : St)  : Option (Int32 × St) :=
    lt_ (up2 σ 0 10 (0 : Int32)) (fun z1 =>
    fX3_hoist_L10 N  N z1 (0 : Int32) (-9 : Int32))
abbrev rmX3_hoist : Room := { frames := 9, cells := 0, slots := 0, locals := 201 }
theorem qX3_hoist : yX3_hoist.cls = RX3 ∧ yX3_hoist.cls ≠ "java/lang/invoke/MethodHandle" ∧ yX3_hoist.cls ≠ "java/lang/invoke/VarHandle" ∧ (parseMethodDescriptor yX3_hoist.desc).map (fun d => d.parameters.length) = some 0 := by decide +kernel
set_option maxHeartbeats 400000 in
set_option maxRecDepth 100000 in
theorem mX3_hoist (l : Launch) (D : va_G) (cI cJ : ClassId) (a : Nat → Nat) (sz N : Nat) (σ : St)  (r : (Int32 × St)) (hf : fX3_hoist N σ = some r) : Met l yX3_hoist wsX3_hoist rmX3_hoist (WPre ([.ref (a 0)] : List Value) sz D (tyIJ cI cJ) (wMo cI a σ)) (WQi sz D (wMo cI a σ) (wMo cI a (r.2)) r.1) 0 0 (va_A (wMo cI a σ) sz) := by
  refine W_start (cc := cX3_hoist) (maxL := 6) (ret := (some .int)) (by decide) rfl (Nat.le_of_ble_eq_true rfl) (fun p e s m below meth c ls A hx hb hr hml hown hts hlk hP hK hS hA hD0 hAe hl => ?_)
  have hD : ∀ z, va_D A ((fun z => wMo cI a z) z) := fun z => hD0.ad rfl
  have hown : s.vm.findClass RX3 = some m.cls := hown
  have hl : lv_has ls 6 [(0, .ref (a 0))] := hl
  have ln1 := hts (Cond.fieldLink RX3 90 "HoistsAreSharedModel" "place" "I") (List.mem_of_getElem? (i := 1) rfl)
  have inX3 : ∀ w ∈ u_ws RX3 TX3 13, w ∈ wsX3_hoist := fun _ h => List.mem_cons_of_mem _ (List.mem_append_right _ h)
  have ln3 := hts (Cond.fieldLink RX3 9 "HoistsAreSharedModel" "s" "[I") (List.mem_of_getElem? (i := 3) rfl)
  have ln4 := hts (Cond.fieldLink RX3 19 "HoistsAreSharedModel" "was" "[I") (List.mem_of_getElem? (i := 4) rfl)
  have ln5 := hts (Cond.fieldLink RX3 86 "HoistsAreSharedModel" "letterMany" "I") (List.mem_of_getElem? (i := 2) rfl)
  have b128 : ∀  (z : St) (x1 : Int32) (x2 : Int32) (H : Heap) (locs : List Loc) (ls : Array Slot), va_P D vwCl (wMo cI a z) H → va_S A s.heap H locs → lv_has ls 6 [(0, .ref (a 0)), (1, .int x1), (2, .int x2)] → fX3_hoist_L128 N z x1 x2 = some r → W p l e rmX3_hoist s m ([.ref (a 0)] : List Value).toArray below meth c H locs 0 0 (MQ below (WQi sz D (wMo cI a σ) (wMo cI a (r.2)) r.1) ([.ref (a 0)] : List Value).toArray s 0 0 A) (F0 m 128 ls []) := by
    intro  z x1 x2 H locs ls hP hS hl hf
    unfold fX3_hoist_L128 at hf
    refine lv_aload_n hx hb dX3_hoist_128 rfl (lv_at hl 0 rfl) ?_
    refine lv_iconst (v := (0 : Int32)) hx hb dX3_hoist_129 (by decide) ?_
    refine k_put (ci := 3) (C := RX3) (T := TX3) (N := 13) (ty := .int) (w := (fun z => wMo cI a z)) hx hb hts inX3 tyX3 tyX3_ok nmX3 hown hK hP hD hS 0 rfl rfl 8 (by decide) ln5 (fun _ h9 => h9) rfl (by decide +kernel) rfl rfl (Nat.le_of_ble_eq_true rfl) (cN := 0) hf rfl dX3_hoist_130 (fun z7 H locs hP hS hf => ?_)
    refine lv_iload_n hx hb dX3_hoist_133 rfl (lv_at hl 2 rfl) ?_
    refine lv_bipush (v := (-9 : Int32)) hx hb dX3_hoist_134 (by decide) ?_
    refine k_icmp_ne (tgt := 143) hx hb dX3_hoist_136 (by decide) hf (fun hf => ?_) (fun hf => ?_)
    · refine lv_iload_n hx hb dX3_hoist_143 rfl (lv_at hl 2 rfl) ?_
      exact W_iret (fun z => wMo cI a z) hx hb hr hlk hP hS hAe hf dX3_hoist_144
    · refine lv_iload_n hx hb dX3_hoist_139 rfl (lv_at hl 1 rfl) ?_
      refine lv_goto (tgt := 144) hx hb dX3_hoist_140 (by decide) ?_
      exact W_iret (fun z => wMo cI a z) hx hb hr hlk hP hS hAe hf dX3_hoist_144
  have b62 : ∀  (n : Nat) (z : St) (x1 : Int32) (x2 : Int32) (H : Heap) (locs : List Loc) (ls : Array Slot), va_P D vwCl (wMo cI a z) H → va_S A s.heap H locs → lv_has ls 6 [(0, .ref (a 0)), (1, .int x1), (2, .int x2)] → fX3_hoist_L62 N n z x1 x2 = some r → W p l e rmX3_hoist s m ([.ref (a 0)] : List Value).toArray below meth c H locs 0 0 (MQ below (WQi sz D (wMo cI a σ) (wMo cI a (r.2)) r.1) ([.ref (a 0)] : List Value).toArray s 0 0 A) (F0 m 62 ls []) := by
    intro n
    induction n with
    | zero => intro z x1 x2 H locs ls hP hS hl hf; cases hf
    | succ n ih =>
      intro z x1 x2 H locs ls hP hS hl hf
      rw [fX3_hoist_L62] at hf
      refine lv_iload_n hx hb dX3_hoist_62 rfl (lv_at hl 2 rfl) ?_
      refine lv_bipush (v := (-9 : Int32)) hx hb dX3_hoist_63 (by decide) ?_
      refine k_icmp_ne (tgt := 128) hx hb dX3_hoist_65 (by decide) hf (fun hf => ?_) (fun hf => ?_)
      · exact b128  z x1 x2 H locs ls hP hS (lv_sub hl [0, 1, 2] rfl) hf
      · refine lv_aload_n hx hb dX3_hoist_68 rfl (lv_at hl 0 rfl) ?_
        refine va_get (D := D) (ci := 3) (v := .int (z 0 10)) (C := RX3) (T := TX3) (N := 13) hx hb hts inX3 hown hK hP 0 rfl rfl 10 (by decide) ln1 (fun _ h9 => h9) rfl dX3_hoist_69 ?_
        refine lv_aload_n hx hb dX3_hoist_72 rfl (lv_at hl 0 rfl) ?_
        refine va_get (D := D) (ci := 3) (v := .int (z 0 8)) (C := RX3) (T := TX3) (N := 13) hx hb hts inX3 hown hK hP 0 rfl rfl 8 (by decide) ln5 (fun _ h9 => h9) rfl dX3_hoist_73 ?_
        refine k_icmp_ge (tgt := 128) hx hb dX3_hoist_76 (by decide) hf (fun hf => ?_) (fun hf => ?_)
        · exact b128  z x1 x2 H locs ls hP hS (lv_sub hl [0, 1, 2] rfl) hf
        · refine lv_aload_n hx hb dX3_hoist_79 rfl (lv_at hl 0 rfl) ?_
          refine va_get (D := D) (ci := 3) (v := .int (z 0 10)) (C := RX3) (T := TX3) (N := 13) hx hb hts inX3 hown hK hP 0 rfl rfl 10 (by decide) ln1 (fun _ h9 => h9) rfl dX3_hoist_80 ?_
          refine lv_istore_n (lv' := [(3, .int (z 0 10)), (0, .ref (a 0)), (1, .int x1), (2, .int x2)]) hx hb dX3_hoist_83 rfl hl (by decide) rfl (fun ls hl => ?_)
          refine lv_aload_n hx hb dX3_hoist_84 rfl (lv_at hl 1 rfl) ?_
          refine c_callV (As := []) (rest := []) ⟨hx, hb, hml, hown, hts⟩ hf (fun vq hq => mX3_here l D cI cJ a H.size N z vq hq) (cwV 0 hts gX3_hoist_X3_here rfl rfl rfl qX3_here ⟨Nat.le_of_ble_eq_true rfl, Nat.le_of_ble_eq_true rfl⟩) hK hP hS hA hP 3 rfl rfl rfl rfl hl.1 rfl (Nat.le_of_ble_eq_true rfl) dX3_hoist_85 ⟨Nat.le_refl _, Nat.le_refl _⟩ (fun v8 H locs hP hS hf => ?_)
          refine lv_istore (lv' := [(4, .int v8), (3, .int (z 0 10)), (0, .ref (a 0)), (1, .int x1), (2, .int x2)]) hx hb dX3_hoist_88 hl (by decide) rfl (fun ls hl => ?_)
          refine lv_aload_n hx hb dX3_hoist_90 rfl (lv_at hl 2 rfl) ?_
          refine d_callV (As := []) (rest := []) (w := (fun z => wMo cI a z)) (wc := (wMo cI a)) (put := (fun uq => uq)) (σ := z) (τ0 := z) ⟨hx, hb, hml, hown, hts⟩ hf (fun vq zq hq => mX3_readsStatement l D cI cJ a H.size N z (vq, zq) hq) (cwV 0 hts gX3_hoist_X3_readsStatement rfl rfl rfl qX3_readsStatement ⟨Nat.le_of_ble_eq_true rfl, Nat.le_of_ble_eq_true rfl⟩) hK hP hD hS hA ⟨hP, hD _, fun _ _ _ h => h⟩ 3 rfl rfl rfl rfl hl.1 rfl (Nat.le_of_ble_eq_true rfl) dX3_hoist_91 ⟨Nat.le_refl _, Nat.le_refl _⟩ (fun v10 z9 H locs hP hS hf => ?_)
          refine lv_istore (lv' := [(5, .int v10), (4, .int v8), (3, .int (z 0 10)), (0, .ref (a 0)), (1, .int x1), (2, .int x2)]) hx hb dX3_hoist_94 hl (by decide) rfl (fun ls hl => ?_)
          refine lv_aload_n hx hb dX3_hoist_96 rfl (lv_at hl 3 rfl) ?_
          refine lv_iload hx hb dX3_hoist_97 (lv_at hl 1 rfl) ?_
          refine d_callV (As := [.int v8]) (rest := []) (w := (fun z => wMo cI a z)) (wc := (wMo cI a)) (put := (fun uq => uq)) (σ := z9) (τ0 := z9) ⟨hx, hb, hml, hown, hts⟩ hf (fun vq zq hq => mX3_isDone l D cI cJ a H.size N z9 v8 (vq, zq) hq) (cwV 1 hts gX3_hoist_X3_isDone rfl rfl rfl qX3_isDone ⟨Nat.le_of_ble_eq_true rfl, Nat.le_of_ble_eq_true rfl⟩) hK hP hD hS hA ⟨hP, hD _, fun _ _ _ h => h⟩ 3 rfl rfl rfl rfl hl.1 rfl (Nat.le_of_ble_eq_true rfl) dX3_hoist_99 ⟨Nat.le_refl _, Nat.le_refl _⟩ (fun v12 z11 H locs hP hS hf => ?_)
          refine k_if_eq (tgt := 108) hx hb dX3_hoist_102 (by decide) hf (fun hf => ?_) (fun hf => ?_)
          · refine lv_sipush (v := (-2000 : Int32)) hx hb dX3_hoist_108 (by decide) ?_
            refine lv_iload_n hx hb dX3_hoist_111 rfl (lv_at hl 2 rfl) ?_
            refine lv_isub hx hb dX3_hoist_112 ?_
            refine k_let hf (fun v13 hf => ?_)
            refine lv_istore_n (lv' := [(2, .int v13), (5, .int v10), (4, .int v8), (3, .int (z 0 10)), (0, .ref (a 0)), (1, .int x1)]) hx hb dX3_hoist_113 rfl hl (by decide) rfl (fun ls hl => ?_)
            refine lv_aload_n hx hb dX3_hoist_114 rfl (lv_at hl 4 rfl) ?_
            refine va_get (D := D) (ci := 3) (v := .ref (a 4)) (C := RX3) (T := TX3) (N := 13) hx hb hts inX3 hown hK hP 0 rfl rfl 3 (by decide) ln4 (fun _ h9 => h9) rfl dX3_hoist_115 ?_
            refine lv_aload_n hx hb dX3_hoist_118 rfl (lv_at hl 4 rfl) ?_
            refine va_get (D := D) (ci := 3) (v := .ref (a 1)) (C := RX3) (T := TX3) (N := 13) hx hb hts inX3 hown hK hP 0 rfl rfl 0 (by decide) ln3 (fun _ h9 => h9) rfl dX3_hoist_119 ?_
            refine d_callSv (As := [.ref ((sb [4, 1] a) 0), .ref ((sb [4, 1] a) 1)]) (rest := []) (w := (fun z => wMo cI a z)) (wc := (wAr2 cI (sb [4, 1] a))) (put := (fun uq => pb [4, 1] uq z11)) (σ := z11) (τ0 := (sb [4, 1] z11)) ⟨hx, hb, hml, hown, hts⟩ hf (fun zq hq => mX3_copies l D cI cJ (sb [4, 1] a) H.size N (sb [4, 1] z11) zq hq) (va_cwS 2 hts gX3_hoist_X3_copies rfl rfl rfl qX3_copies ⟨Nat.le_of_ble_eq_true rfl, Nat.le_of_ble_eq_true rfl⟩) hK hP hD hS hA (cmb_Mo_Ar2_4_1 D cI a z11 hP (hD _)) rfl hl.1 rfl (Nat.le_of_ble_eq_true rfl) dX3_hoist_122 ⟨Nat.le_refl _, Nat.le_refl _⟩ (fun z14 H locs hP hS hf => ?_)
            refine lv_goto (tgt := 62) hx hb dX3_hoist_125 (by decide) ?_
            exact ih z14 x1 v13 H locs ls hP hS (lv_sub hl [4, 5, 0] rfl) hf
          · refine lv_goto (tgt := 62) hx hb dX3_hoist_105 (by decide) ?_
            exact ih z11 x1 x2 H locs ls hP hS (lv_sub hl [3, 4, 5] rfl) hf
  have b46 : ∀  (z : St) (x1 : Int32) (x2 : Int32) (H : Heap) (locs : List Loc) (ls : Array Slot), va_P D vwCl (wMo cI a z) H → va_S A s.heap H locs → lv_has ls 6 [(0, .ref (a 0)), (1, .int x1), (2, .int x2)] → fX3_hoist_L46 N z x1 x2 = some r → W p l e rmX3_hoist s m ([.ref (a 0)] : List Value).toArray below meth c H locs 0 0 (MQ below (WQi sz D (wMo cI a σ) (wMo cI a (r.2)) r.1) ([.ref (a 0)] : List Value).toArray s 0 0 A) (F0 m 46 ls []) := by
    intro  z x1 x2 H locs ls hP hS hl hf
    unfold fX3_hoist_L46 at hf
    refine lv_aload_n hx hb dX3_hoist_46 rfl (lv_at hl 0 rfl) ?_
    refine va_get (D := D) (ci := 3) (v := .ref (a 1)) (C := RX3) (T := TX3) (N := 13) hx hb hts inX3 hown hK hP 0 rfl rfl 0 (by decide) ln3 (fun _ h9 => h9) rfl dX3_hoist_47 ?_
    refine lv_aload_n hx hb dX3_hoist_50 rfl (lv_at hl 0 rfl) ?_
    refine va_get (D := D) (ci := 3) (v := .ref (a 4)) (C := RX3) (T := TX3) (N := 13) hx hb hts inX3 hown hK hP 0 rfl rfl 3 (by decide) ln4 (fun _ h9 => h9) rfl dX3_hoist_51 ?_
    refine d_callSv (As := [.ref ((sb [1, 4] a) 0), .ref ((sb [1, 4] a) 1)]) (rest := []) (w := (fun z => wMo cI a z)) (wc := (wAr2 cI (sb [1, 4] a))) (put := (fun uq => pb [1, 4] uq z)) (σ := z) (τ0 := (sb [1, 4] z)) ⟨hx, hb, hml, hown, hts⟩ hf (fun zq hq => mX3_copies l D cI cJ (sb [1, 4] a) H.size N (sb [1, 4] z) zq hq) (va_cwS 2 hts gX3_hoist_X3_copies rfl rfl rfl qX3_copies ⟨Nat.le_of_ble_eq_true rfl, Nat.le_of_ble_eq_true rfl⟩) hK hP hD hS hA (cmb_Mo_Ar2_1_4 D cI a z hP (hD _)) rfl hl.1 rfl (Nat.le_of_ble_eq_true rfl) dX3_hoist_54 ⟨Nat.le_refl _, Nat.le_refl _⟩ (fun z5 H locs hP hS hf => ?_)
    refine lv_aload_n hx hb dX3_hoist_57 rfl (lv_at hl 0 rfl) ?_
    refine lv_iconst (v := (0 : Int32)) hx hb dX3_hoist_58 (by decide) ?_
    refine k_put (ci := 3) (C := RX3) (T := TX3) (N := 13) (ty := .int) (w := (fun z => wMo cI a z)) hx hb hts inX3 tyX3 tyX3_ok nmX3 hown hK hP hD hS 0 rfl rfl 10 (by decide) ln1 (fun _ h9 => h9) rfl (by decide +kernel) rfl rfl (Nat.le_of_ble_eq_true rfl) (cN := 0) hf rfl dX3_hoist_59 (fun z6 H locs hP hS hf => ?_)
    exact b62  N z6 x1 x2 H locs ls hP hS (lv_sub hl [0, 1, 2] rfl) hf
  have b26 : ∀ (k10 : St → Int32 → Int32 → Option (Int32 × St)) (hk10 : (∀ (z : St) (x1 : Int32) (x2 : Int32) (H : Heap) (locs : List Loc) (ls : Array Slot), va_P D vwCl (wMo cI a z) H → va_S A s.heap H locs → lv_has ls 6 [(0, .ref (a 0)), (1, .int x1), (2, .int x2)] → k10 z x1 x2 = some r → W p l e rmX3_hoist s m ([.ref (a 0)] : List Value).toArray below meth c H locs 0 0 (MQ below (WQi sz D (wMo cI a σ) (wMo cI a (r.2)) r.1) ([.ref (a 0)] : List Value).toArray s 0 0 A) (F0 m 10 ls []))) (z : St) (x1 : Int32) (x2 : Int32) (H : Heap) (locs : List Loc) (ls : Array Slot), va_P D vwCl (wMo cI a z) H → va_S A s.heap H locs → lv_has ls 6 [(0, .ref (a 0)), (1, .int x1), (2, .int x2)] → fX3_hoist_L26 N k10 z x1 x2 = some r → W p l e rmX3_hoist s m ([.ref (a 0)] : List Value).toArray below meth c H locs 0 0 (MQ below (WQi sz D (wMo cI a σ) (wMo cI a (r.2)) r.1) ([.ref (a 0)] : List Value).toArray s 0 0 A) (F0 m 26 ls []) := by
    intro k10 hk10 z x1 x2 H locs ls hP hS hl hf
    unfold fX3_hoist_L26 at hf
    refine k_iinc (d := (1 : Int32)) (lv' := fun v4 => [(1, .int v4), (0, .ref (a 0)), (2, .int x2)]) hx hb dX3_hoist_26 hl (k := 1) rfl (by decide) (by decide) (fun _ => rfl) hf (fun v4 ls hl hf => ?_)
    refine lv_iload_n hx hb dX3_hoist_29 rfl (lv_at hl 2 rfl) ?_
    refine lv_bipush (v := (-9 : Int32)) hx hb dX3_hoist_30 (by decide) ?_
    refine k_icmp_ne (tgt := 46) hx hb dX3_hoist_32 (by decide) hf (fun hf => ?_) (fun hf => ?_)
    · exact b46  z v4 x2 H locs ls hP hS (lv_sub hl [1, 0, 2] rfl) hf
    · refine lv_aload_n hx hb dX3_hoist_35 rfl (lv_at hl 1 rfl) ?_
      refine va_get (D := D) (ci := 3) (v := .int (z 0 10)) (C := RX3) (T := TX3) (N := 13) hx hb hts inX3 hown hK hP 0 rfl rfl 10 (by decide) ln1 (fun _ h9 => h9) rfl dX3_hoist_36 ?_
      refine lv_aload_n hx hb dX3_hoist_39 rfl (lv_at hl 1 rfl) ?_
      refine va_get (D := D) (ci := 3) (v := .int (z 0 8)) (C := RX3) (T := TX3) (N := 13) hx hb hts inX3 hown hK hP 0 rfl rfl 8 (by decide) ln5 (fun _ h9 => h9) rfl dX3_hoist_40 ?_
      refine k_icmp_lt (tgt := 10) hx hb dX3_hoist_43 (by decide) hf (fun hf => ?_) (fun hf => ?_)
      · exact hk10 z v4 x2 H locs ls hP hS (lv_sub hl [1, 0, 2] rfl) hf
      · exact b46  z v4 x2 H locs ls hP hS (lv_sub hl [1, 0, 2] rfl) hf
  have b10 : ∀  (n : Nat) (z : St) (x1 : Int32) (x2 : Int32) (H : Heap) (locs : List Loc) (ls : Array Slot), va_P D vwCl (wMo cI a z) H → va_S A s.heap H locs → lv_has ls 6 [(0, .ref (a 0)), (1, .int x1), (2, .int x2)] → fX3_hoist_L10 N n z x1 x2 = some r → W p l e rmX3_hoist s m ([.ref (a 0)] : List Value).toArray below meth c H locs 0 0 (MQ below (WQi sz D (wMo cI a σ) (wMo cI a (r.2)) r.1) ([.ref (a 0)] : List Value).toArray s 0 0 A) (F0 m 10 ls []) := by
    intro n
    induction n with
    | zero => intro z x1 x2 H locs ls hP hS hl hf; cases hf
    | succ n ih =>
      intro z x1 x2 H locs ls hP hS hl hf
      rw [fX3_hoist_L10] at hf
      refine lv_aload_n hx hb dX3_hoist_10 rfl (lv_at hl 0 rfl) ?_
      refine d_callV (As := []) (rest := []) (w := (fun z => wMo cI a z)) (wc := (wMo cI a)) (put := (fun uq => uq)) (σ := z) (τ0 := z) ⟨hx, hb, hml, hown, hts⟩ hf (fun vq zq hq => mX3_readsStatement l D cI cJ a H.size N z (vq, zq) hq) (cwV 0 hts gX3_hoist_X3_readsStatement rfl rfl rfl qX3_readsStatement ⟨Nat.le_of_ble_eq_true rfl, Nat.le_of_ble_eq_true rfl⟩) hK hP hD hS hA ⟨hP, hD _, fun _ _ _ h => h⟩ 3 rfl rfl rfl rfl hl.1 rfl (Nat.le_of_ble_eq_true rfl) dX3_hoist_11 ⟨Nat.le_refl _, Nat.le_refl _⟩ (fun v3 z2 H locs hP hS hf => ?_)
      refine k_if_ne (tgt := 26) hx hb dX3_hoist_14 (by decide) hf (fun hf => ?_) (fun hf => ?_)
      · exact b26 (fX3_hoist_L10 N n) ih z2 x1 x2 H locs ls hP hS (lv_sub hl [0, 1, 2] rfl) hf
      · refine lv_sipush (v := (-1000 : Int32)) hx hb dX3_hoist_17 (by decide) ?_
        refine lv_aload_n hx hb dX3_hoist_20 rfl (lv_at hl 0 rfl) ?_
        refine va_get (D := D) (ci := 3) (v := .int (z2 0 10)) (C := RX3) (T := TX3) (N := 13) hx hb hts inX3 hown hK hP 0 rfl rfl 10 (by decide) ln1 (fun _ h9 => h9) rfl dX3_hoist_21 ?_
        refine lv_isub hx hb dX3_hoist_24 ?_
        refine k_let hf (fun v15 hf => ?_)
        refine lv_istore_n (lv' := [(2, .int v15), (0, .ref (a 0)), (1, .int x1)]) hx hb dX3_hoist_25 rfl hl (by decide) rfl (fun ls hl => ?_)
        exact b26 (fX3_hoist_L10 N n) ih z2 x1 v15 H locs ls hP hS (lv_sub hl [1, 2, 0] rfl) hf
  unfold fX3_hoist at hf
  refine lv_aload_n hx hb dX3_hoist_0 rfl (lv_at hl 0 rfl) ?_
  refine lv_iconst (v := (0 : Int32)) hx hb dX3_hoist_1 (by decide) ?_
  refine k_put (ci := 3) (C := RX3) (T := TX3) (N := 13) (ty := .int) (w := (fun z => wMo cI a z)) hx hb hts inX3 tyX3 tyX3_ok nmX3 hown hK hP hD hS 0 rfl rfl 10 (by decide) ln1 (fun _ h9 => h9) rfl (by decide +kernel) rfl rfl (Nat.le_of_ble_eq_true rfl) (cN := 0) hf rfl dX3_hoist_2 (fun z1 H locs hP hS hf => ?_)
  refine lv_iconst (v := (0 : Int32)) hx hb dX3_hoist_5 (by decide) ?_
  refine lv_istore_n (lv' := [(1, .int (0 : Int32)), (0, .ref (a 0))]) hx hb dX3_hoist_6 rfl hl (by decide) rfl (fun ls hl => ?_)
  refine lv_bipush (v := (-9 : Int32)) hx hb dX3_hoist_7 (by decide) ?_
  refine lv_istore_n (lv' := [(2, .int (-9 : Int32)), (1, .int (0 : Int32)), (0, .ref (a 0))]) hx hb dX3_hoist_9 rfl hl (by decide) rfl (fun ls hl => ?_)
  exact b10  N z1 (0 : Int32) (-9 : Int32) H locs ls hP hS (lv_sub hl [2, 1, 0] rfl) hf
def fX3_thing (N : Nat) (σ : St) (p1 : Int32) (p2 : Int32) : Option (Int32 × St) :=
    bo (fX3_isThing N σ p1) (fun v1 =>
    if v1 = 0 then bx (fX3_no N σ (-1 : Int32)) (fun uq => uq) (fun v9 z8 =>
    some (v9, z8))
    else bo (fX3_isIn N p2 (0 : Int32) (3 : Int32)) (fun v2 =>
    if v2 = 0 then if p2 = (4 : Int32) then bo (fX3_weighs N (sb [1] σ) p1) (fun v5 =>
    some (v5, σ))
    else bx (fX3_no N σ (-2 : Int32)) (fun uq => uq) (fun v4 z3 =>
    some (v4, z3))
    else bo (fX3_of N p1 p2) (fun v6 =>
    bo (rdI σ 1 38 v6) (fun v7 =>
    some (v7, σ)))))
abbrev rmX3_thing : Room := { frames := 4, cells := 0, slots := 0, locals := 89 }
theorem qX3_thing : yX3_thing.cls = RX3 ∧ yX3_thing.cls ≠ "java/lang/invoke/MethodHandle" ∧ yX3_thing.cls ≠ "java/lang/invoke/VarHandle" ∧ (parseMethodDescriptor yX3_thing.desc).map (fun d => d.parameters.length) = some 2 := by decide +kernel
set_option maxHeartbeats 400000 in
set_option maxRecDepth 100000 in
theorem mX3_thing (l : Launch) (D : va_G) (cI cJ : ClassId) (a : Nat → Nat) (sz N : Nat) (σ : St) (p1 : Int32) (p2 : Int32) (r : (Int32 × St)) (hf : fX3_thing N σ p1 p2 = some r) : Met l yX3_thing wsX3_thing rmX3_thing (WPre ([.ref (a 0), .int p1, .int p2] : List Value) sz D (tyIJ cI cJ) (wMo cI a σ)) (WQi sz D (wMo cI a σ) (wMo cI a (r.2)) r.1) 0 0 (va_A (wMo cI a σ) sz) := by
  refine W_start (cc := cX3_thing) (maxL := 3) (ret := (some .int)) (by decide) rfl (Nat.le_of_ble_eq_true rfl) (fun p e s m below meth c ls A hx hb hr hml hown hts hlk hP hK hS hA hD0 hAe hl => ?_)
  have hD : ∀ z, va_D A ((fun z => wMo cI a z) z) := fun z => hD0.ad rfl
  have hown : s.vm.findClass RX3 = some m.cls := hown
  have hl : lv_has ls 3 [(0, .ref (a 0)), (1, .int p1), (2, .int p2)] := hl
  have ln1 := hts (Cond.fieldLink RX3 9 "HoistsAreSharedModel" "s" "[I") (List.mem_of_getElem? (i := 1) rfl)
  have inX3 : ∀ w ∈ u_ws RX3 TX3 13, w ∈ wsX3_thing := fun _ h => List.mem_cons_of_mem _ (List.mem_append_right _ h)
  unfold fX3_thing at hf
  refine lv_aload_n hx hb dX3_thing_0 rfl (lv_at hl 0 rfl) ?_
  refine lv_iload_n hx hb dX3_thing_1 rfl (lv_at hl 1 rfl) ?_
  refine c_callV (As := [.int p1]) (rest := []) ⟨hx, hb, hml, hown, hts⟩ hf (fun vq hq => mX3_isThing l D cI cJ a s.heap.size N σ p1 vq hq) (cwV 1 hts gX3_thing_X3_isThing rfl rfl rfl qX3_isThing ⟨Nat.le_of_ble_eq_true rfl, Nat.le_of_ble_eq_true rfl⟩) hK hP hS hA hP 3 rfl rfl rfl rfl hl.1 rfl (Nat.le_of_ble_eq_true rfl) dX3_thing_2 ⟨Nat.le_refl _, Nat.le_refl _⟩ (fun v1 H locs hP hS hf => ?_)
  refine k_if_ne (tgt := 14) hx hb dX3_thing_5 (by decide) hf (fun hf => ?_) (fun hf => ?_)
  · refine lv_iload_n hx hb dX3_thing_14 rfl (lv_at hl 2 rfl) ?_
    refine lv_iconst (v := (0 : Int32)) hx hb dX3_thing_15 (by decide) ?_
    refine lv_iconst (v := (3 : Int32)) hx hb dX3_thing_16 (by decide) ?_
    refine c_callS (As := [.int p2, .int (0 : Int32), .int (3 : Int32)]) (rest := []) ⟨hx, hb, hml, hown, hts⟩ hf (fun vq hq => mX3_isIn l D cI cJ H.size N p2 (0 : Int32) (3 : Int32) vq hq) (va_cwS 3 hts gX3_thing_X3_isIn rfl rfl rfl qX3_isIn ⟨Nat.le_of_ble_eq_true rfl, Nat.le_of_ble_eq_true rfl⟩) hK hP hS hA va_P_nil rfl hl.1 rfl (Nat.le_of_ble_eq_true rfl) dX3_thing_17 ⟨Nat.le_refl _, Nat.le_refl _⟩ (fun v2 H locs hP hS hf => ?_)
    refine k_if_eq (tgt := 36) hx hb dX3_thing_20 (by decide) hf (fun hf => ?_) (fun hf => ?_)
    · refine lv_iload_n hx hb dX3_thing_36 rfl (lv_at hl 2 rfl) ?_
      refine lv_iconst (v := (4 : Int32)) hx hb dX3_thing_37 (by decide) ?_
      refine k_icmp_ne (tgt := 52) hx hb dX3_thing_38 (by decide) hf (fun hf => ?_) (fun hf => ?_)
      · refine lv_aload_n hx hb dX3_thing_52 rfl (lv_at hl 0 rfl) ?_
        refine lv_bipush (v := (-2 : Int32)) hx hb dX3_thing_53 (by decide) ?_
        refine d_callV (As := [.int (-2 : Int32)]) (rest := []) (w := (fun z => wMo cI a z)) (wc := (wMo cI a)) (put := (fun uq => uq)) (σ := σ) (τ0 := σ) ⟨hx, hb, hml, hown, hts⟩ hf (fun vq zq hq => mX3_no l D cI cJ a H.size N σ (-2 : Int32) (vq, zq) hq) (cwV 1 hts gX3_thing_X3_no rfl rfl rfl qX3_no ⟨Nat.le_of_ble_eq_true rfl, Nat.le_of_ble_eq_true rfl⟩) hK hP hD hS hA ⟨hP, hD _, fun _ _ _ h => h⟩ 3 rfl rfl rfl rfl hl.1 rfl (Nat.le_of_ble_eq_true rfl) dX3_thing_55 ⟨Nat.le_refl _, Nat.le_refl _⟩ (fun v4 z3 H locs hP hS hf => ?_)
        exact W_iret (fun z => wMo cI a z) hx hb hr hlk hP hS hAe hf dX3_thing_58
      · refine lv_aload_n hx hb dX3_thing_41 rfl (lv_at hl 0 rfl) ?_
        refine va_get (D := D) (ci := 3) (v := .ref (a 1)) (C := RX3) (T := TX3) (N := 13) hx hb hts inX3 hown hK hP 0 rfl rfl 0 (by decide) ln1 (fun _ h9 => h9) rfl dX3_thing_42 ?_
        refine lv_iload_n hx hb dX3_thing_45 rfl (lv_at hl 1 rfl) ?_
        refine c_callS (As := [.ref ((sb [1] a) 0), .int p1]) (rest := []) ⟨hx, hb, hml, hown, hts⟩ hf (fun vq hq => mX3_weighs l D cI cJ (sb [1] a) H.size N (sb [1] σ) p1 vq hq) (va_cwS 2 hts gX3_thing_X3_weighs rfl rfl rfl qX3_weighs ⟨Nat.le_of_ble_eq_true rfl, Nat.le_of_ble_eq_true rfl⟩) hK hP hS hA (cmr_Mo_Ar_1 D cI a σ hP) rfl hl.1 rfl (Nat.le_of_ble_eq_true rfl) dX3_thing_46 ⟨Nat.le_refl _, Nat.le_refl _⟩ (fun v5 H locs hP hS hf => ?_)
        refine lv_goto (tgt := 58) hx hb dX3_thing_49 (by decide) ?_
        exact W_iret (fun z => wMo cI a z) hx hb hr hlk hP hS hAe hf dX3_thing_58
    · refine lv_aload_n hx hb dX3_thing_23 rfl (lv_at hl 0 rfl) ?_
      refine va_get (D := D) (ci := 3) (v := .ref (a 1)) (C := RX3) (T := TX3) (N := 13) hx hb hts inX3 hown hK hP 0 rfl rfl 0 (by decide) ln1 (fun _ h9 => h9) rfl dX3_thing_24 ?_
      refine lv_iload_n hx hb dX3_thing_27 rfl (lv_at hl 1 rfl) ?_
      refine lv_iload_n hx hb dX3_thing_28 rfl (lv_at hl 2 rfl) ?_
      refine c_callS (As := [.int p1, .int p2]) (rest := [.ref (a 1)]) ⟨hx, hb, hml, hown, hts⟩ hf (fun vq hq => mX3_of l D cI cJ H.size N p1 p2 vq hq) (va_cwS 2 hts gX3_thing_X3_of rfl rfl rfl qX3_of ⟨Nat.le_of_ble_eq_true rfl, Nat.le_of_ble_eq_true rfl⟩) hK hP hS hA va_P_nil rfl hl.1 rfl (Nat.le_of_ble_eq_true rfl) dX3_thing_29 ⟨Nat.le_refl _, Nat.le_refl _⟩ (fun v6 H locs hP hS hf => ?_)
      refine k_iald hx hb hK hP 1 0 hf rfl rfl dX3_thing_32 (fun v7 hf => ?_)
      refine lv_goto (tgt := 58) hx hb dX3_thing_33 (by decide) ?_
      exact W_iret (fun z => wMo cI a z) hx hb hr hlk hP hS hAe hf dX3_thing_58
  · refine lv_aload_n hx hb dX3_thing_8 rfl (lv_at hl 0 rfl) ?_
    refine lv_iconst (v := (-1 : Int32)) hx hb dX3_thing_9 (by decide) ?_
    refine d_callV (As := [.int (-1 : Int32)]) (rest := []) (w := (fun z => wMo cI a z)) (wc := (wMo cI a)) (put := (fun uq => uq)) (σ := σ) (τ0 := σ) ⟨hx, hb, hml, hown, hts⟩ hf (fun vq zq hq => mX3_no l D cI cJ a H.size N σ (-1 : Int32) (vq, zq) hq) (cwV 1 hts gX3_thing_X3_no rfl rfl rfl qX3_no ⟨Nat.le_of_ble_eq_true rfl, Nat.le_of_ble_eq_true rfl⟩) hK hP hD hS hA ⟨hP, hD _, fun _ _ _ h => h⟩ 3 rfl rfl rfl rfl hl.1 rfl (Nat.le_of_ble_eq_true rfl) dX3_thing_10 ⟨Nat.le_refl _, Nat.le_refl _⟩ (fun v9 z8 H locs hP hS hf => ?_)
    exact W_iret (fun z => wMo cI a z) hx hb hr hlk hP hS hAe hf dX3_thing_13
def fX3_onSide_L36 (N : Nat) (σ : St) (k4 : Int32 → Int32 → Int32 → Option Int32) (x1 : Int32) (x3 : Int32) (y0 : Int32) (y1 : Int32) : Option Int32 :=
    lt_ ((y1 ||| y0) : Int32) (fun v4 =>
    lt_ (x3 + (1 : Int32) : Int32) (fun v5 =>
    k4 x1 v4 v5))
def fX3_onSide_L4 (N : Nat) (σ : St)  : Nat → Int32 → Int32 → Int32 → Option Int32
  | 0, _, _, _ => none
  | n + 1, x1, x2, x3 =>
    bo (rdI σ 1 38 (0 : Int32)) (fun v1 =>
    if v1 ≤ x3 then some x2
    else bo (fX3_of N x3 (2 : Int32)) (fun v2 =>
    bo (rdI σ 1 38 v2) (fun v3 =>
    if v3 = x1 then fX3_onSide_L36 N σ (fX3_onSide_L4 N σ n) x1 x3 ((1 : Int32) <<< (x3 &&& 31)) x2
    else fX3_onSide_L36 N σ (fX3_onSide_L4 N σ n) x1 x3 (0 : Int32) x2)))
def fX3_onSide (N : Nat) (σ : St) (p1 : Int32) : Option Int32 :=
    fX3_onSide_L4 N σ  N p1 (0 : Int32) (0 : Int32)
abbrev rmX3_onSide : Room := { frames := 1, cells := 0, slots := 0, locals := 21 }
theorem qX3_onSide : yX3_onSide.cls = RX3 ∧ yX3_onSide.cls ≠ "java/lang/invoke/MethodHandle" ∧ yX3_onSide.cls ≠ "java/lang/invoke/VarHandle" ∧ (parseMethodDescriptor yX3_onSide.desc).map (fun d => d.parameters.length) = some 1 := by decide +kernel
set_option maxHeartbeats 400000 in
set_option maxRecDepth 100000 in
theorem mX3_onSide (l : Launch) (D : va_G) (cI cJ : ClassId) (a : Nat → Nat) (sz N : Nat) (σ : St) (p1 : Int32) (r : Int32) (hf : fX3_onSide N σ p1 = some r) : Met l yX3_onSide wsX3_onSide rmX3_onSide (RPre ([.ref (a 0), .int p1] : List Value) sz D (tyIJ cI cJ) (wMo cI a σ)) (RQi sz r) 0 0 (fr0 sz) := by
  refine R_start (cc := cX3_onSide) (maxL := 4) (ret := (some .int)) (by decide) rfl (Nat.le_of_ble_eq_true rfl) (fun p e s m below meth c ls hx hb hr hml hown hts hlk hP hK hS hA hsz hl => ?_)
  have hown : s.vm.findClass RX3 = some m.cls := hown
  have hl : lv_has ls 4 [(0, .ref (a 0)), (1, .int p1)] := hl
  have ln1 := hts (Cond.fieldLink RX3 9 "HoistsAreSharedModel" "s" "[I") (List.mem_of_getElem? (i := 1) rfl)
  have inX3 : ∀ w ∈ u_ws RX3 TX3 13, w ∈ wsX3_onSide := fun _ h => List.mem_cons_of_mem _ (List.mem_append_right _ h)
  have b36 : ∀ (k4 : Int32 → Int32 → Int32 → Option Int32) (hk4 : (∀ (x1 : Int32) (x2 : Int32) (x3 : Int32) (H : Heap) (locs : List Loc) (ls : Array Slot), va_P D vwCl (wMo cI a σ) H → va_S (fr0 s.heap.size) s.heap H locs → lv_has ls 4 [(0, .ref (a 0)), (1, .int x1), (2, .int x2), (3, .int x3)] → k4 x1 x2 x3 = some r → W p l e rmX3_onSide s m ([.ref (a 0), .int p1] : List Value).toArray below meth c H locs 0 0 (MQ below (RQi sz r) ([.ref (a 0), .int p1] : List Value).toArray s 0 0 (fr0 sz)) (F0 m 4 ls []))) (x1 : Int32) (x3 : Int32) (y0 : Int32) (y1 : Int32) (H : Heap) (locs : List Loc) (ls : Array Slot), va_P D vwCl (wMo cI a σ) H → va_S (fr0 s.heap.size) s.heap H locs → lv_has ls 4 [(0, .ref (a 0)), (1, .int x1), (3, .int x3)] → fX3_onSide_L36 N σ k4 x1 x3 y0 y1 = some r → W p l e rmX3_onSide s m ([.ref (a 0), .int p1] : List Value).toArray below meth c H locs 0 0 (MQ below (RQi sz r) ([.ref (a 0), .int p1] : List Value).toArray s 0 0 (fr0 sz)) (F0 m 36 ls [.int y0, .int y1]) := by
    intro k4 hk4 x1 x3 y0 y1 H locs ls hP hS hl hf
    unfold fX3_onSide_L36 at hf
    refine lv_ior hx hb dX3_onSide_36 ?_
    refine k_let hf (fun v4 hf => ?_)
    refine lv_istore_n (lv' := [(2, .int v4), (0, .ref (a 0)), (1, .int x1), (3, .int x3)]) hx hb dX3_onSide_37 rfl hl (by decide) rfl (fun ls hl => ?_)
    refine k_iinc (d := (1 : Int32)) (lv' := fun v5 => [(3, .int v5), (2, .int v4), (0, .ref (a 0)), (1, .int x1)]) hx hb dX3_onSide_38 hl (k := 3) rfl (by decide) (by decide) (fun _ => rfl) hf (fun v5 ls hl hf => ?_)
    refine lv_goto (tgt := 4) hx hb dX3_onSide_41 (by decide) ?_
    exact hk4 x1 v4 v5 H locs ls hP hS (lv_sub hl [2, 3, 1, 0] rfl) hf
  have b4 : ∀  (n : Nat) (x1 : Int32) (x2 : Int32) (x3 : Int32) (H : Heap) (locs : List Loc) (ls : Array Slot), va_P D vwCl (wMo cI a σ) H → va_S (fr0 s.heap.size) s.heap H locs → lv_has ls 4 [(0, .ref (a 0)), (1, .int x1), (2, .int x2), (3, .int x3)] → fX3_onSide_L4 N σ n x1 x2 x3 = some r → W p l e rmX3_onSide s m ([.ref (a 0), .int p1] : List Value).toArray below meth c H locs 0 0 (MQ below (RQi sz r) ([.ref (a 0), .int p1] : List Value).toArray s 0 0 (fr0 sz)) (F0 m 4 ls []) := by
    intro n
    induction n with
    | zero => intro x1 x2 x3 H locs ls hP hS hl hf; cases hf
    | succ n ih =>
      intro x1 x2 x3 H locs ls hP hS hl hf
      rw [fX3_onSide_L4] at hf
      refine lv_iload_n hx hb dX3_onSide_4 rfl (lv_at hl 3 rfl) ?_
      refine lv_aload_n hx hb dX3_onSide_5 rfl (lv_at hl 0 rfl) ?_
      refine va_get (D := D) (ci := 3) (v := .ref (a 1)) (C := RX3) (T := TX3) (N := 13) hx hb hts inX3 hown hK hP 0 rfl rfl 0 (by decide) ln1 (fun _ h9 => h9) rfl dX3_onSide_6 ?_
      refine lv_iconst (v := (0 : Int32)) hx hb dX3_onSide_9 (by decide) ?_
      refine k_iald hx hb hK hP 1 0 hf rfl rfl dX3_onSide_10 (fun v1 hf => ?_)
      refine k_icmp_ge (tgt := 44) hx hb dX3_onSide_11 (by decide) hf (fun hf => ?_) (fun hf => ?_)
      · refine lv_iload_n hx hb dX3_onSide_44 rfl (lv_at hl 2 rfl) ?_
        exact R_iret hx hb hr hlk hS hsz hf dX3_onSide_45
      · refine lv_iload_n hx hb dX3_onSide_14 rfl (lv_at hl 2 rfl) ?_
        refine lv_aload_n hx hb dX3_onSide_15 rfl (lv_at hl 0 rfl) ?_
        refine va_get (D := D) (ci := 3) (v := .ref (a 1)) (C := RX3) (T := TX3) (N := 13) hx hb hts inX3 hown hK hP 0 rfl rfl 0 (by decide) ln1 (fun _ h9 => h9) rfl dX3_onSide_16 ?_
        refine lv_iload_n hx hb dX3_onSide_19 rfl (lv_at hl 3 rfl) ?_
        refine lv_iconst (v := (2 : Int32)) hx hb dX3_onSide_20 (by decide) ?_
        refine c_callS (As := [.int x3, .int (2 : Int32)]) (rest := [.ref (a 1), .int x2]) ⟨hx, hb, hml, hown, hts⟩ hf (fun vq hq => mX3_of l D cI cJ H.size N x3 (2 : Int32) vq hq) (va_cwS 2 hts gX3_onSide_X3_of rfl rfl rfl qX3_of ⟨Nat.le_of_ble_eq_true rfl, Nat.le_of_ble_eq_true rfl⟩) hK hP hS hA va_P_nil rfl hl.1 rfl (Nat.le_of_ble_eq_true rfl) dX3_onSide_21 ⟨Nat.le_refl _, Nat.le_refl _⟩ (fun v2 H locs hP hS hf => ?_)
        refine k_iald hx hb hK hP 1 0 hf rfl rfl dX3_onSide_24 (fun v3 hf => ?_)
        refine lv_iload_n hx hb dX3_onSide_25 rfl (lv_at hl 1 rfl) ?_
        refine k_icmp_ne (tgt := 35) hx hb dX3_onSide_26 (by decide) hf (fun hf => ?_) (fun hf => ?_)
        · refine lv_iconst (v := (0 : Int32)) hx hb dX3_onSide_35 (by decide) ?_
          exact b36 (fX3_onSide_L4 N σ n) ih x1 x3 (0 : Int32) x2 H locs ls hP hS (lv_sub hl [0, 1, 3] rfl) hf
        · refine lv_iconst (v := (1 : Int32)) hx hb dX3_onSide_29 (by decide) ?_
          refine lv_iload_n hx hb dX3_onSide_30 rfl (lv_at hl 3 rfl) ?_
          refine lv_ishl hx hb dX3_onSide_31 ?_
          refine lv_goto (tgt := 36) hx hb dX3_onSide_32 (by decide) ?_
          exact b36 (fX3_onSide_L4 N σ n) ih x1 x3 ((1 : Int32) <<< (x3 &&& 31)) x2 H locs ls hP hS (lv_sub hl [0, 1, 3] rfl) hf
  unfold fX3_onSide at hf
  refine lv_iconst (v := (0 : Int32)) hx hb dX3_onSide_0 (by decide) ?_
  refine lv_istore_n (lv' := [(2, .int (0 : Int32)), (0, .ref (a 0)), (1, .int p1)]) hx hb dX3_onSide_1 rfl hl (by decide) rfl (fun ls hl => ?_)
  refine lv_iconst (v := (0 : Int32)) hx hb dX3_onSide_2 (by decide) ?_
  refine lv_istore_n (lv' := [(3, .int (0 : Int32)), (2, .int (0 : Int32)), (0, .ref (a 0)), (1, .int p1)]) hx hb dX3_onSide_3 rfl hl (by decide) rfl (fun ls hl => ?_)
  exact b4  N p1 (0 : Int32) (0 : Int32) s.heap [] ls hP hS (lv_sub hl [2, 3, 1, 0] rfl) hf
def fX3_nearestDoor_L45 (N : Nat) (σ : St) (k5 : Int32 → Int32 → Int32 → Option Int32) (x1 : Int32) (x2 : Int32) (x3 : Int32) : Option Int32 :=
    lt_ (x3 + (1 : Int32) : Int32) (fun v3 =>
    k5 x1 x2 v3)
def fX3_nearestDoor_L43 (N : Nat) (σ : St) (k5 : Int32 → Int32 → Int32 → Option Int32) (x1 : Int32) (x3 : Int32) : Option Int32 :=
    fX3_nearestDoor_L45 N σ k5 x1 x3 x3
def fX3_nearestDoor_L5 (N : Nat) (σ : St)  : Nat → Int32 → Int32 → Int32 → Option Int32
  | 0, _, _, _ => none
  | n + 1, x1, x2, x3 =>
    if (20 : Int32) < x3 then some x2
    else bo (rdI σ 1 38 (3 : Int32)) (fun v1 =>
    bo (fX3_has N v1 x3) (fun v2 =>
    if v2 = 0 then fX3_nearestDoor_L45 N σ (fX3_nearestDoor_L5 N σ n) x1 x2 x3
    else if x2 < 0 then fX3_nearestDoor_L43 N σ (fX3_nearestDoor_L5 N σ n) x1 x3
    else bo (fX3_sized N (x3 - x1)) (fun v4 =>
    bo (fX3_sized N (x2 - x1)) (fun v5 =>
    if v5 ≤ v4 then fX3_nearestDoor_L45 N σ (fX3_nearestDoor_L5 N σ n) x1 x2 x3
    else fX3_nearestDoor_L43 N σ (fX3_nearestDoor_L5 N σ n) x1 x3))))
def fX3_nearestDoor (N : Nat) (σ : St) (p1 : Int32) : Option Int32 :=
    fX3_nearestDoor_L5 N σ  N p1 (-9 : Int32) (0 : Int32)
abbrev rmX3_nearestDoor : Room := { frames := 1, cells := 0, slots := 0, locals := 21 }
theorem qX3_nearestDoor : yX3_nearestDoor.cls = RX3 ∧ yX3_nearestDoor.cls ≠ "java/lang/invoke/MethodHandle" ∧ yX3_nearestDoor.cls ≠ "java/lang/invoke/VarHandle" ∧ (parseMethodDescriptor yX3_nearestDoor.desc).map (fun d => d.parameters.length) = some 1 := by decide +kernel
set_option maxHeartbeats 400000 in
set_option maxRecDepth 100000 in
theorem mX3_nearestDoor (l : Launch) (D : va_G) (cI cJ : ClassId) (a : Nat → Nat) (sz N : Nat) (σ : St) (p1 : Int32) (r : Int32) (hf : fX3_nearestDoor N σ p1 = some r) : Met l yX3_nearestDoor wsX3_nearestDoor rmX3_nearestDoor (RPre ([.ref (a 0), .int p1] : List Value) sz D (tyIJ cI cJ) (wMo cI a σ)) (RQi sz r) 0 0 (fr0 sz) := by
  refine R_start (cc := cX3_nearestDoor) (maxL := 4) (ret := (some .int)) (by decide) rfl (Nat.le_of_ble_eq_true rfl) (fun p e s m below meth c ls hx hb hr hml hown hts hlk hP hK hS hA hsz hl => ?_)
  have hown : s.vm.findClass RX3 = some m.cls := hown
  have hl : lv_has ls 4 [(0, .ref (a 0)), (1, .int p1)] := hl
  have ln1 := hts (Cond.fieldLink RX3 9 "HoistsAreSharedModel" "s" "[I") (List.mem_of_getElem? (i := 1) rfl)
  have inX3 : ∀ w ∈ u_ws RX3 TX3 13, w ∈ wsX3_nearestDoor := fun _ h => List.mem_cons_of_mem _ (List.mem_append_right _ h)
  have b45 : ∀ (k5 : Int32 → Int32 → Int32 → Option Int32) (hk5 : (∀ (x1 : Int32) (x2 : Int32) (x3 : Int32) (H : Heap) (locs : List Loc) (ls : Array Slot), va_P D vwCl (wMo cI a σ) H → va_S (fr0 s.heap.size) s.heap H locs → lv_has ls 4 [(0, .ref (a 0)), (1, .int x1), (2, .int x2), (3, .int x3)] → k5 x1 x2 x3 = some r → W p l e rmX3_nearestDoor s m ([.ref (a 0), .int p1] : List Value).toArray below meth c H locs 0 0 (MQ below (RQi sz r) ([.ref (a 0), .int p1] : List Value).toArray s 0 0 (fr0 sz)) (F0 m 5 ls []))) (x1 : Int32) (x2 : Int32) (x3 : Int32) (H : Heap) (locs : List Loc) (ls : Array Slot), va_P D vwCl (wMo cI a σ) H → va_S (fr0 s.heap.size) s.heap H locs → lv_has ls 4 [(0, .ref (a 0)), (1, .int x1), (2, .int x2), (3, .int x3)] → fX3_nearestDoor_L45 N σ k5 x1 x2 x3 = some r → W p l e rmX3_nearestDoor s m ([.ref (a 0), .int p1] : List Value).toArray below meth c H locs 0 0 (MQ below (RQi sz r) ([.ref (a 0), .int p1] : List Value).toArray s 0 0 (fr0 sz)) (F0 m 45 ls []) := by
    intro k5 hk5 x1 x2 x3 H locs ls hP hS hl hf
    unfold fX3_nearestDoor_L45 at hf
    refine k_iinc (d := (1 : Int32)) (lv' := fun v3 => [(3, .int v3), (0, .ref (a 0)), (1, .int x1), (2, .int x2)]) hx hb dX3_nearestDoor_45 hl (k := 3) rfl (by decide) (by decide) (fun _ => rfl) hf (fun v3 ls hl hf => ?_)
    refine lv_goto (tgt := 5) hx hb dX3_nearestDoor_48 (by decide) ?_
    exact hk5 x1 x2 v3 H locs ls hP hS (lv_sub hl [1, 2, 3, 0] rfl) hf
  have b43 : ∀ (k5 : Int32 → Int32 → Int32 → Option Int32) (hk5 : (∀ (x1 : Int32) (x2 : Int32) (x3 : Int32) (H : Heap) (locs : List Loc) (ls : Array Slot), va_P D vwCl (wMo cI a σ) H → va_S (fr0 s.heap.size) s.heap H locs → lv_has ls 4 [(0, .ref (a 0)), (1, .int x1), (2, .int x2), (3, .int x3)] → k5 x1 x2 x3 = some r → W p l e rmX3_nearestDoor s m ([.ref (a 0), .int p1] : List Value).toArray below meth c H locs 0 0 (MQ below (RQi sz r) ([.ref (a 0), .int p1] : List Value).toArray s 0 0 (fr0 sz)) (F0 m 5 ls []))) (x1 : Int32) (x3 : Int32) (H : Heap) (locs : List Loc) (ls : Array Slot), va_P D vwCl (wMo cI a σ) H → va_S (fr0 s.heap.size) s.heap H locs → lv_has ls 4 [(0, .ref (a 0)), (1, .int x1), (3, .int x3)] → fX3_nearestDoor_L43 N σ k5 x1 x3 = some r → W p l e rmX3_nearestDoor s m ([.ref (a 0), .int p1] : List Value).toArray below meth c H locs 0 0 (MQ below (RQi sz r) ([.ref (a 0), .int p1] : List Value).toArray s 0 0 (fr0 sz)) (F0 m 43 ls []) := by
    intro k5 hk5 x1 x3 H locs ls hP hS hl hf
    unfold fX3_nearestDoor_L43 at hf
    refine lv_iload_n hx hb dX3_nearestDoor_43 rfl (lv_at hl 2 rfl) ?_
    refine lv_istore_n (lv' := [(2, .int x3), (0, .ref (a 0)), (1, .int x1), (3, .int x3)]) hx hb dX3_nearestDoor_44 rfl hl (by decide) rfl (fun ls hl => ?_)
    exact b45 k5 hk5 x1 x3 x3 H locs ls hP hS (lv_sub hl [1, 2, 0, 3] rfl) hf
  have b5 : ∀  (n : Nat) (x1 : Int32) (x2 : Int32) (x3 : Int32) (H : Heap) (locs : List Loc) (ls : Array Slot), va_P D vwCl (wMo cI a σ) H → va_S (fr0 s.heap.size) s.heap H locs → lv_has ls 4 [(0, .ref (a 0)), (1, .int x1), (2, .int x2), (3, .int x3)] → fX3_nearestDoor_L5 N σ n x1 x2 x3 = some r → W p l e rmX3_nearestDoor s m ([.ref (a 0), .int p1] : List Value).toArray below meth c H locs 0 0 (MQ below (RQi sz r) ([.ref (a 0), .int p1] : List Value).toArray s 0 0 (fr0 sz)) (F0 m 5 ls []) := by
    intro n
    induction n with
    | zero => intro x1 x2 x3 H locs ls hP hS hl hf; cases hf
    | succ n ih =>
      intro x1 x2 x3 H locs ls hP hS hl hf
      rw [fX3_nearestDoor_L5] at hf
      refine lv_iload_n hx hb dX3_nearestDoor_5 rfl (lv_at hl 3 rfl) ?_
      refine lv_bipush (v := (20 : Int32)) hx hb dX3_nearestDoor_6 (by decide) ?_
      refine k_icmp_gt (tgt := 51) hx hb dX3_nearestDoor_8 (by decide) hf (fun hf => ?_) (fun hf => ?_)
      · refine lv_iload_n hx hb dX3_nearestDoor_51 rfl (lv_at hl 2 rfl) ?_
        exact R_iret hx hb hr hlk hS hsz hf dX3_nearestDoor_52
      · refine lv_aload_n hx hb dX3_nearestDoor_11 rfl (lv_at hl 0 rfl) ?_
        refine va_get (D := D) (ci := 3) (v := .ref (a 1)) (C := RX3) (T := TX3) (N := 13) hx hb hts inX3 hown hK hP 0 rfl rfl 0 (by decide) ln1 (fun _ h9 => h9) rfl dX3_nearestDoor_12 ?_
        refine lv_iconst (v := (3 : Int32)) hx hb dX3_nearestDoor_15 (by decide) ?_
        refine k_iald hx hb hK hP 1 0 hf rfl rfl dX3_nearestDoor_16 (fun v1 hf => ?_)
        refine lv_iload_n hx hb dX3_nearestDoor_17 rfl (lv_at hl 3 rfl) ?_
        refine c_callS (As := [.int v1, .int x3]) (rest := []) ⟨hx, hb, hml, hown, hts⟩ hf (fun vq hq => mX3_has l D cI cJ H.size N v1 x3 vq hq) (va_cwS 2 hts gX3_nearestDoor_X3_has rfl rfl rfl qX3_has ⟨Nat.le_of_ble_eq_true rfl, Nat.le_of_ble_eq_true rfl⟩) hK hP hS hA va_P_nil rfl hl.1 rfl (Nat.le_of_ble_eq_true rfl) dX3_nearestDoor_18 ⟨Nat.le_refl _, Nat.le_refl _⟩ (fun v2 H locs hP hS hf => ?_)
        refine k_if_eq (tgt := 45) hx hb dX3_nearestDoor_21 (by decide) hf (fun hf => ?_) (fun hf => ?_)
        · exact b45 (fX3_nearestDoor_L5 N σ n) ih x1 x2 x3 H locs ls hP hS (lv_sub hl [0, 1, 2, 3] rfl) hf
        · refine lv_iload_n hx hb dX3_nearestDoor_24 rfl (lv_at hl 2 rfl) ?_
          refine k_if_lt (tgt := 43) hx hb dX3_nearestDoor_25 (by decide) hf (fun hf => ?_) (fun hf => ?_)
          · exact b43 (fX3_nearestDoor_L5 N σ n) ih x1 x3 H locs ls hP hS (lv_sub hl [0, 1, 3] rfl) hf
          · refine lv_iload_n hx hb dX3_nearestDoor_28 rfl (lv_at hl 3 rfl) ?_
            refine lv_iload_n hx hb dX3_nearestDoor_29 rfl (lv_at hl 1 rfl) ?_
            refine lv_isub hx hb dX3_nearestDoor_30 ?_
            refine c_callS (As := [.int (x3 - x1)]) (rest := []) ⟨hx, hb, hml, hown, hts⟩ hf (fun vq hq => mX3_sized l D cI cJ H.size N (x3 - x1) vq hq) (va_cwS 1 hts gX3_nearestDoor_X3_sized rfl rfl rfl qX3_sized ⟨Nat.le_of_ble_eq_true rfl, Nat.le_of_ble_eq_true rfl⟩) hK hP hS hA va_P_nil rfl hl.1 rfl (Nat.le_of_ble_eq_true rfl) dX3_nearestDoor_31 ⟨Nat.le_refl _, Nat.le_refl _⟩ (fun v4 H locs hP hS hf => ?_)
            refine lv_iload_n hx hb dX3_nearestDoor_34 rfl (lv_at hl 2 rfl) ?_
            refine lv_iload_n hx hb dX3_nearestDoor_35 rfl (lv_at hl 1 rfl) ?_
            refine lv_isub hx hb dX3_nearestDoor_36 ?_
            refine c_callS (As := [.int (x2 - x1)]) (rest := [.int v4]) ⟨hx, hb, hml, hown, hts⟩ hf (fun vq hq => mX3_sized l D cI cJ H.size N (x2 - x1) vq hq) (va_cwS 1 hts gX3_nearestDoor_X3_sized rfl rfl rfl qX3_sized ⟨Nat.le_of_ble_eq_true rfl, Nat.le_of_ble_eq_true rfl⟩) hK hP hS hA va_P_nil rfl hl.1 rfl (Nat.le_of_ble_eq_true rfl) dX3_nearestDoor_37 ⟨Nat.le_refl _, Nat.le_refl _⟩ (fun v5 H locs hP hS hf => ?_)
            refine k_icmp_ge (tgt := 45) hx hb dX3_nearestDoor_40 (by decide) hf (fun hf => ?_) (fun hf => ?_)
            · exact b45 (fX3_nearestDoor_L5 N σ n) ih x1 x2 x3 H locs ls hP hS (lv_sub hl [0, 1, 2, 3] rfl) hf
            · exact b43 (fX3_nearestDoor_L5 N σ n) ih x1 x3 H locs ls hP hS (lv_sub hl [0, 1, 3] rfl) hf
  unfold fX3_nearestDoor at hf
  refine lv_bipush (v := (-9 : Int32)) hx hb dX3_nearestDoor_0 (by decide) ?_
  refine lv_istore_n (lv' := [(2, .int (-9 : Int32)), (0, .ref (a 0)), (1, .int p1)]) hx hb dX3_nearestDoor_2 rfl hl (by decide) rfl (fun ls hl => ?_)
  refine lv_iconst (v := (0 : Int32)) hx hb dX3_nearestDoor_3 (by decide) ?_
  refine lv_istore_n (lv' := [(3, .int (0 : Int32)), (2, .int (-9 : Int32)), (0, .ref (a 0)), (1, .int p1)]) hx hb dX3_nearestDoor_4 rfl hl (by decide) rfl (fun ls hl => ?_)
  exact b5  N p1 (-9 : Int32) (0 : Int32) s.heap [] ls hP hS (lv_sub hl [2, 3, 1, 0] rfl) hf
def fX3_side (N : Nat) (σ : St) (p1 : Int32) (p2 : Int32) : Option (Int32 × St) :=
    bo (fX3_isSide N p1) (fun v1 =>
    if v1 = 0 then bx (fX3_no N σ (-1 : Int32)) (fun uq => uq) (fun v17 z16 =>
    some (v17, z16))
    else bo (fX3_floorOf N (sb [1] σ) p1) (fun v2 =>
    bo (fX3_nearestDoor N σ v2) (fun v3 =>
    if p2 = (0 : Int32) then some (v2, σ)
    else if p2 = (1 : Int32) then bo (rdI σ 1 38 ((4 : Int32) + p1)) (fun v5 =>
    some (v5, σ))
    else if p2 = (2 : Int32) then bo (fX3_weight N (sb [1] σ) p1) (fun v7 =>
    some (v7, σ))
    else if p2 = (3 : Int32) then bo (fX3_onSide N σ p1) (fun v9 =>
    some (v9, σ))
    else if p2 = (4 : Int32) then some (v3, σ)
    else if p2 = (5 : Int32) then if 0 ≤ v3 then bo (fX3_sized N (v3 - v2)) (fun v12 =>
    some (v12, σ))
    else some ((-9 : Int32), σ)
    else bx (fX3_no N σ (-2 : Int32)) (fun uq => uq) (fun v15 z14 =>
    some (v15, z14)))))
abbrev rmX3_side : Room := { frames := 5, cells := 0, slots := 0, locals := 112 }
theorem qX3_side : yX3_side.cls = RX3 ∧ yX3_side.cls ≠ "java/lang/invoke/MethodHandle" ∧ yX3_side.cls ≠ "java/lang/invoke/VarHandle" ∧ (parseMethodDescriptor yX3_side.desc).map (fun d => d.parameters.length) = some 2 := by decide +kernel
set_option maxHeartbeats 400000 in
set_option maxRecDepth 100000 in
theorem mX3_side (l : Launch) (D : va_G) (cI cJ : ClassId) (a : Nat → Nat) (sz N : Nat) (σ : St) (p1 : Int32) (p2 : Int32) (r : (Int32 × St)) (hf : fX3_side N σ p1 p2 = some r) : Met l yX3_side wsX3_side rmX3_side (WPre ([.ref (a 0), .int p1, .int p2] : List Value) sz D (tyIJ cI cJ) (wMo cI a σ)) (WQi sz D (wMo cI a σ) (wMo cI a (r.2)) r.1) 0 0 (va_A (wMo cI a σ) sz) := by
  refine W_start (cc := cX3_side) (maxL := 5) (ret := (some .int)) (by decide) rfl (Nat.le_of_ble_eq_true rfl) (fun p e s m below meth c ls A hx hb hr hml hown hts hlk hP hK hS hA hD0 hAe hl => ?_)
  have hD : ∀ z, va_D A ((fun z => wMo cI a z) z) := fun z => hD0.ad rfl
  have hown : s.vm.findClass RX3 = some m.cls := hown
  have hl : lv_has ls 5 [(0, .ref (a 0)), (1, .int p1), (2, .int p2)] := hl
  have ln1 := hts (Cond.fieldLink RX3 9 "HoistsAreSharedModel" "s" "[I") (List.mem_of_getElem? (i := 1) rfl)
  have inX3 : ∀ w ∈ u_ws RX3 TX3 13, w ∈ wsX3_side := fun _ h => List.mem_cons_of_mem _ (List.mem_append_right _ h)
  unfold fX3_side at hf
  refine lv_iload_n hx hb dX3_side_0 rfl (lv_at hl 1 rfl) ?_
  refine c_callS (As := [.int p1]) (rest := []) ⟨hx, hb, hml, hown, hts⟩ hf (fun vq hq => mX3_isSide l D cI cJ s.heap.size N p1 vq hq) (va_cwS 1 hts gX3_side_X3_isSide rfl rfl rfl qX3_isSide ⟨Nat.le_of_ble_eq_true rfl, Nat.le_of_ble_eq_true rfl⟩) hK hP hS hA va_P_nil rfl hl.1 rfl (Nat.le_of_ble_eq_true rfl) dX3_side_1 ⟨Nat.le_refl _, Nat.le_refl _⟩ (fun v1 H locs hP hS hf => ?_)
  refine k_if_ne (tgt := 13) hx hb dX3_side_4 (by decide) hf (fun hf => ?_) (fun hf => ?_)
  · refine lv_aload_n hx hb dX3_side_13 rfl (lv_at hl 0 rfl) ?_
    refine va_get (D := D) (ci := 3) (v := .ref (a 1)) (C := RX3) (T := TX3) (N := 13) hx hb hts inX3 hown hK hP 0 rfl rfl 0 (by decide) ln1 (fun _ h9 => h9) rfl dX3_side_14 ?_
    refine lv_iload_n hx hb dX3_side_17 rfl (lv_at hl 1 rfl) ?_
    refine c_callS (As := [.ref ((sb [1] a) 0), .int p1]) (rest := []) ⟨hx, hb, hml, hown, hts⟩ hf (fun vq hq => mX3_floorOf l D cI cJ (sb [1] a) H.size N (sb [1] σ) p1 vq hq) (va_cwS 2 hts gX3_side_X3_floorOf rfl rfl rfl qX3_floorOf ⟨Nat.le_of_ble_eq_true rfl, Nat.le_of_ble_eq_true rfl⟩) hK hP hS hA (cmr_Mo_Ar_1 D cI a σ hP) rfl hl.1 rfl (Nat.le_of_ble_eq_true rfl) dX3_side_18 ⟨Nat.le_refl _, Nat.le_refl _⟩ (fun v2 H locs hP hS hf => ?_)
    refine lv_istore_n (lv' := [(3, .int v2), (0, .ref (a 0)), (1, .int p1), (2, .int p2)]) hx hb dX3_side_21 rfl hl (by decide) rfl (fun ls hl => ?_)
    refine lv_aload_n hx hb dX3_side_22 rfl (lv_at hl 1 rfl) ?_
    refine lv_iload_n hx hb dX3_side_23 rfl (lv_at hl 0 rfl) ?_
    refine c_callV (As := [.int v2]) (rest := []) ⟨hx, hb, hml, hown, hts⟩ hf (fun vq hq => mX3_nearestDoor l D cI cJ a H.size N σ v2 vq hq) (cwV 1 hts gX3_side_X3_nearestDoor rfl rfl rfl qX3_nearestDoor ⟨Nat.le_of_ble_eq_true rfl, Nat.le_of_ble_eq_true rfl⟩) hK hP hS hA hP 3 rfl rfl rfl rfl hl.1 rfl (Nat.le_of_ble_eq_true rfl) dX3_side_24 ⟨Nat.le_refl _, Nat.le_refl _⟩ (fun v3 H locs hP hS hf => ?_)
    refine lv_istore (lv' := [(4, .int v3), (3, .int v2), (0, .ref (a 0)), (1, .int p1), (2, .int p2)]) hx hb dX3_side_27 hl (by decide) rfl (fun ls hl => ?_)
    refine lv_iload_n hx hb dX3_side_29 rfl (lv_at hl 4 rfl) ?_
    refine sw_if hf (fun c4 hf => ?_) (fun c4 hf => ?_)
    · refine lv_tableIn (off := 38) (tgt := 68) hx hb dX3_side_30 (by rw [c4]; decide) (by rw [c4]; decide) (by rw [c4]; decide) (by decide) ?_
      refine lv_iload_n hx hb dX3_side_68 rfl (lv_at hl 1 rfl) ?_
      exact W_iret (fun z => wMo cI a z) hx hb hr hlk hP hS hAe hf dX3_side_69
    · have c4 := i32_ne c4 (n := 0) (by decide)
      refine sw_if hf (fun c6 hf => ?_) (fun c6 hf => ?_)
      · refine lv_tableIn (off := 40) (tgt := 70) hx hb dX3_side_30 (by rw [c6]; decide) (by rw [c6]; decide) (by rw [c6]; decide) (by decide) ?_
        refine lv_aload_n hx hb dX3_side_70 rfl (lv_at hl 2 rfl) ?_
        refine va_get (D := D) (ci := 3) (v := .ref (a 1)) (C := RX3) (T := TX3) (N := 13) hx hb hts inX3 hown hK hP 0 rfl rfl 0 (by decide) ln1 (fun _ h9 => h9) rfl dX3_side_71 ?_
        refine lv_iconst (v := (4 : Int32)) hx hb dX3_side_74 (by decide) ?_
        refine lv_iload_n hx hb dX3_side_75 rfl (lv_at hl 3 rfl) ?_
        refine lv_iadd hx hb dX3_side_76 ?_
        refine k_iald hx hb hK hP 1 0 hf rfl rfl dX3_side_77 (fun v5 hf => ?_)
        exact W_iret (fun z => wMo cI a z) hx hb hr hlk hP hS hAe hf dX3_side_78
      · have c6 := i32_ne c6 (n := 1) (by decide)
        refine sw_if hf (fun c8 hf => ?_) (fun c8 hf => ?_)
        · refine lv_tableIn (off := 49) (tgt := 79) hx hb dX3_side_30 (by rw [c8]; decide) (by rw [c8]; decide) (by rw [c8]; decide) (by decide) ?_
          refine lv_aload_n hx hb dX3_side_79 rfl (lv_at hl 2 rfl) ?_
          refine va_get (D := D) (ci := 3) (v := .ref (a 1)) (C := RX3) (T := TX3) (N := 13) hx hb hts inX3 hown hK hP 0 rfl rfl 0 (by decide) ln1 (fun _ h9 => h9) rfl dX3_side_80 ?_
          refine lv_iload_n hx hb dX3_side_83 rfl (lv_at hl 3 rfl) ?_
          refine c_callS (As := [.ref ((sb [1] a) 0), .int p1]) (rest := []) ⟨hx, hb, hml, hown, hts⟩ hf (fun vq hq => mX3_weight l D cI cJ (sb [1] a) H.size N (sb [1] σ) p1 vq hq) (va_cwS 2 hts gX3_side_X3_weight rfl rfl rfl qX3_weight ⟨Nat.le_of_ble_eq_true rfl, Nat.le_of_ble_eq_true rfl⟩) hK hP hS hA (cmr_Mo_Ar_1 D cI a σ hP) rfl hl.1 rfl (Nat.le_of_ble_eq_true rfl) dX3_side_84 ⟨Nat.le_refl _, Nat.le_refl _⟩ (fun v7 H locs hP hS hf => ?_)
          exact W_iret (fun z => wMo cI a z) hx hb hr hlk hP hS hAe hf dX3_side_87
        · have c8 := i32_ne c8 (n := 2) (by decide)
          refine sw_if hf (fun c10 hf => ?_) (fun c10 hf => ?_)
          · refine lv_tableIn (off := 58) (tgt := 88) hx hb dX3_side_30 (by rw [c10]; decide) (by rw [c10]; decide) (by rw [c10]; decide) (by decide) ?_
            refine lv_aload_n hx hb dX3_side_88 rfl (lv_at hl 2 rfl) ?_
            refine lv_iload_n hx hb dX3_side_89 rfl (lv_at hl 3 rfl) ?_
            refine c_callV (As := [.int p1]) (rest := []) ⟨hx, hb, hml, hown, hts⟩ hf (fun vq hq => mX3_onSide l D cI cJ a H.size N σ p1 vq hq) (cwV 1 hts gX3_side_X3_onSide rfl rfl rfl qX3_onSide ⟨Nat.le_of_ble_eq_true rfl, Nat.le_of_ble_eq_true rfl⟩) hK hP hS hA hP 3 rfl rfl rfl rfl hl.1 rfl (Nat.le_of_ble_eq_true rfl) dX3_side_90 ⟨Nat.le_refl _, Nat.le_refl _⟩ (fun v9 H locs hP hS hf => ?_)
            exact W_iret (fun z => wMo cI a z) hx hb hr hlk hP hS hAe hf dX3_side_93
          · have c10 := i32_ne c10 (n := 3) (by decide)
            refine sw_if hf (fun c11 hf => ?_) (fun c11 hf => ?_)
            · refine lv_tableIn (off := 64) (tgt := 94) hx hb dX3_side_30 (by rw [c11]; decide) (by rw [c11]; decide) (by rw [c11]; decide) (by decide) ?_
              refine lv_iload hx hb dX3_side_94 (lv_at hl 0 rfl) ?_
              exact W_iret (fun z => wMo cI a z) hx hb hr hlk hP hS hAe hf dX3_side_96
            · have c11 := i32_ne c11 (n := 4) (by decide)
              refine sw_if hf (fun c13 hf => ?_) (fun c13 hf => ?_)
              · refine lv_tableIn (off := 67) (tgt := 97) hx hb dX3_side_30 (by rw [c13]; decide) (by rw [c13]; decide) (by rw [c13]; decide) (by decide) ?_
                refine lv_iload hx hb dX3_side_97 (lv_at hl 0 rfl) ?_
                refine k_if_ge (tgt := 107) hx hb dX3_side_99 (by decide) hf (fun hf => ?_) (fun hf => ?_)
                · refine lv_iload hx hb dX3_side_107 (lv_at hl 0 rfl) ?_
                  refine lv_iload_n hx hb dX3_side_109 rfl (lv_at hl 1 rfl) ?_
                  refine lv_isub hx hb dX3_side_110 ?_
                  refine c_callS (As := [.int (v3 - v2)]) (rest := []) ⟨hx, hb, hml, hown, hts⟩ hf (fun vq hq => mX3_sized l D cI cJ H.size N (v3 - v2) vq hq) (va_cwS 1 hts gX3_side_X3_sized rfl rfl rfl qX3_sized ⟨Nat.le_of_ble_eq_true rfl, Nat.le_of_ble_eq_true rfl⟩) hK hP hS hA va_P_nil rfl hl.1 rfl (Nat.le_of_ble_eq_true rfl) dX3_side_111 ⟨Nat.le_refl _, Nat.le_refl _⟩ (fun v12 H locs hP hS hf => ?_)
                  exact W_iret (fun z => wMo cI a z) hx hb hr hlk hP hS hAe hf dX3_side_114
                · refine lv_bipush (v := (-9 : Int32)) hx hb dX3_side_102 (by decide) ?_
                  refine lv_goto (tgt := 114) hx hb dX3_side_104 (by decide) ?_
                  exact W_iret (fun z => wMo cI a z) hx hb hr hlk hP hS hAe hf dX3_side_114
              · have c13 := i32_ne c13 (n := 5) (by decide)
                refine lv_tableOut (tgt := 115) hx hb dX3_side_30 (by omega) (by decide) ?_
                refine lv_aload_n hx hb dX3_side_115 rfl (lv_at hl 2 rfl) ?_
                refine lv_bipush (v := (-2 : Int32)) hx hb dX3_side_116 (by decide) ?_
                refine d_callV (As := [.int (-2 : Int32)]) (rest := []) (w := (fun z => wMo cI a z)) (wc := (wMo cI a)) (put := (fun uq => uq)) (σ := σ) (τ0 := σ) ⟨hx, hb, hml, hown, hts⟩ hf (fun vq zq hq => mX3_no l D cI cJ a H.size N σ (-2 : Int32) (vq, zq) hq) (cwV 1 hts gX3_side_X3_no rfl rfl rfl qX3_no ⟨Nat.le_of_ble_eq_true rfl, Nat.le_of_ble_eq_true rfl⟩) hK hP hD hS hA ⟨hP, hD _, fun _ _ _ h => h⟩ 3 rfl rfl rfl rfl hl.1 rfl (Nat.le_of_ble_eq_true rfl) dX3_side_118 ⟨Nat.le_refl _, Nat.le_refl _⟩ (fun v15 z14 H locs hP hS hf => ?_)
                exact W_iret (fun z => wMo cI a z) hx hb hr hlk hP hS hAe hf dX3_side_121
  · refine lv_aload_n hx hb dX3_side_7 rfl (lv_at hl 0 rfl) ?_
    refine lv_iconst (v := (-1 : Int32)) hx hb dX3_side_8 (by decide) ?_
    refine d_callV (As := [.int (-1 : Int32)]) (rest := []) (w := (fun z => wMo cI a z)) (wc := (wMo cI a)) (put := (fun uq => uq)) (σ := σ) (τ0 := σ) ⟨hx, hb, hml, hown, hts⟩ hf (fun vq zq hq => mX3_no l D cI cJ a H.size N σ (-1 : Int32) (vq, zq) hq) (cwV 1 hts gX3_side_X3_no rfl rfl rfl qX3_no ⟨Nat.le_of_ble_eq_true rfl, Nat.le_of_ble_eq_true rfl⟩) hK hP hD hS hA ⟨hP, hD _, fun _ _ _ h => h⟩ 3 rfl rfl rfl rfl hl.1 rfl (Nat.le_of_ble_eq_true rfl) dX3_side_9 ⟨Nat.le_refl _, Nat.le_refl _⟩ (fun v17 z16 H locs hP hS hf => ?_)
    exact W_iret (fun z => wMo cI a z) hx hb hr hlk hP hS hAe hf dX3_side_12
def fX3_hangs (N : Nat) (σ : St) (p1 : Int32) (p2 : Int32) : Option (Int32 × St) :=
    bo (fX3_isThing N σ p1) (fun v1 =>
    if v1 = 0 then bx (fX3_no N σ (-1 : Int32)) (fun uq => uq) (fun v9 z8 =>
    some (v9, z8))
    else bo (fX3_isIn N p2 (0 : Int32) (2 : Int32)) (fun v2 =>
    if v2 = 0 then bx (fX3_no N σ (-2 : Int32)) (fun uq => uq) (fun v7 z6 =>
    some (v7, z6))
    else bo (fX3_of N p1 (2 : Int32)) (fun v3 =>
    bo (rdI σ 1 38 v3) (fun v4 =>
    by_ (fX3_hangsIn N (sb [1] σ) p1 p2) (fun uq => pb [1] uq σ) (fun z5 =>
    some (v4, z5))))))
abbrev rmX3_hangs : Room := { frames := 2, cells := 0, slots := 0, locals := 43 }
theorem qX3_hangs : yX3_hangs.cls = RX3 ∧ yX3_hangs.cls ≠ "java/lang/invoke/MethodHandle" ∧ yX3_hangs.cls ≠ "java/lang/invoke/VarHandle" ∧ (parseMethodDescriptor yX3_hangs.desc).map (fun d => d.parameters.length) = some 2 := by decide +kernel
set_option maxHeartbeats 400000 in
set_option maxRecDepth 100000 in
theorem mX3_hangs (l : Launch) (D : va_G) (cI cJ : ClassId) (a : Nat → Nat) (sz N : Nat) (σ : St) (p1 : Int32) (p2 : Int32) (r : (Int32 × St)) (hf : fX3_hangs N σ p1 p2 = some r) : Met l yX3_hangs wsX3_hangs rmX3_hangs (WPre ([.ref (a 0), .int p1, .int p2] : List Value) sz D (tyIJ cI cJ) (wMo cI a σ)) (WQi sz D (wMo cI a σ) (wMo cI a (r.2)) r.1) 0 0 (va_A (wMo cI a σ) sz) := by
  refine W_start (cc := cX3_hangs) (maxL := 4) (ret := (some .int)) (by decide) rfl (Nat.le_of_ble_eq_true rfl) (fun p e s m below meth c ls A hx hb hr hml hown hts hlk hP hK hS hA hD0 hAe hl => ?_)
  have hD : ∀ z, va_D A ((fun z => wMo cI a z) z) := fun z => hD0.ad rfl
  have hown : s.vm.findClass RX3 = some m.cls := hown
  have hl : lv_has ls 4 [(0, .ref (a 0)), (1, .int p1), (2, .int p2)] := hl
  have ln1 := hts (Cond.fieldLink RX3 9 "HoistsAreSharedModel" "s" "[I") (List.mem_of_getElem? (i := 1) rfl)
  have inX3 : ∀ w ∈ u_ws RX3 TX3 13, w ∈ wsX3_hangs := fun _ h => List.mem_cons_of_mem _ (List.mem_append_right _ h)
  unfold fX3_hangs at hf
  refine lv_aload_n hx hb dX3_hangs_0 rfl (lv_at hl 0 rfl) ?_
  refine lv_iload_n hx hb dX3_hangs_1 rfl (lv_at hl 1 rfl) ?_
  refine c_callV (As := [.int p1]) (rest := []) ⟨hx, hb, hml, hown, hts⟩ hf (fun vq hq => mX3_isThing l D cI cJ a s.heap.size N σ p1 vq hq) (cwV 1 hts gX3_hangs_X3_isThing rfl rfl rfl qX3_isThing ⟨Nat.le_of_ble_eq_true rfl, Nat.le_of_ble_eq_true rfl⟩) hK hP hS hA hP 3 rfl rfl rfl rfl hl.1 rfl (Nat.le_of_ble_eq_true rfl) dX3_hangs_2 ⟨Nat.le_refl _, Nat.le_refl _⟩ (fun v1 H locs hP hS hf => ?_)
  refine k_if_ne (tgt := 14) hx hb dX3_hangs_5 (by decide) hf (fun hf => ?_) (fun hf => ?_)
  · refine lv_iload_n hx hb dX3_hangs_14 rfl (lv_at hl 2 rfl) ?_
    refine lv_iconst (v := (0 : Int32)) hx hb dX3_hangs_15 (by decide) ?_
    refine lv_iconst (v := (2 : Int32)) hx hb dX3_hangs_16 (by decide) ?_
    refine c_callS (As := [.int p2, .int (0 : Int32), .int (2 : Int32)]) (rest := []) ⟨hx, hb, hml, hown, hts⟩ hf (fun vq hq => mX3_isIn l D cI cJ H.size N p2 (0 : Int32) (2 : Int32) vq hq) (va_cwS 3 hts gX3_hangs_X3_isIn rfl rfl rfl qX3_isIn ⟨Nat.le_of_ble_eq_true rfl, Nat.le_of_ble_eq_true rfl⟩) hK hP hS hA va_P_nil rfl hl.1 rfl (Nat.le_of_ble_eq_true rfl) dX3_hangs_17 ⟨Nat.le_refl _, Nat.le_refl _⟩ (fun v2 H locs hP hS hf => ?_)
    refine k_if_ne (tgt := 30) hx hb dX3_hangs_20 (by decide) hf (fun hf => ?_) (fun hf => ?_)
    · refine lv_aload_n hx hb dX3_hangs_30 rfl (lv_at hl 0 rfl) ?_
      refine va_get (D := D) (ci := 3) (v := .ref (a 1)) (C := RX3) (T := TX3) (N := 13) hx hb hts inX3 hown hK hP 0 rfl rfl 0 (by decide) ln1 (fun _ h9 => h9) rfl dX3_hangs_31 ?_
      refine lv_iload_n hx hb dX3_hangs_34 rfl (lv_at hl 1 rfl) ?_
      refine lv_iconst (v := (2 : Int32)) hx hb dX3_hangs_35 (by decide) ?_
      refine c_callS (As := [.int p1, .int (2 : Int32)]) (rest := [.ref (a 1)]) ⟨hx, hb, hml, hown, hts⟩ hf (fun vq hq => mX3_of l D cI cJ H.size N p1 (2 : Int32) vq hq) (va_cwS 2 hts gX3_hangs_X3_of rfl rfl rfl qX3_of ⟨Nat.le_of_ble_eq_true rfl, Nat.le_of_ble_eq_true rfl⟩) hK hP hS hA va_P_nil rfl hl.1 rfl (Nat.le_of_ble_eq_true rfl) dX3_hangs_36 ⟨Nat.le_refl _, Nat.le_refl _⟩ (fun v3 H locs hP hS hf => ?_)
      refine k_iald hx hb hK hP 1 0 hf rfl rfl dX3_hangs_39 (fun v4 hf => ?_)
      refine lv_istore_n (lv' := [(3, .int v4), (0, .ref (a 0)), (1, .int p1), (2, .int p2)]) hx hb dX3_hangs_40 rfl hl (by decide) rfl (fun ls hl => ?_)
      refine lv_aload_n hx hb dX3_hangs_41 rfl (lv_at hl 1 rfl) ?_
      refine va_get (D := D) (ci := 3) (v := .ref (a 1)) (C := RX3) (T := TX3) (N := 13) hx hb hts inX3 hown hK hP 0 rfl rfl 0 (by decide) ln1 (fun _ h9 => h9) rfl dX3_hangs_42 ?_
      refine lv_iload_n hx hb dX3_hangs_45 rfl (lv_at hl 2 rfl) ?_
      refine lv_iload_n hx hb dX3_hangs_46 rfl (lv_at hl 3 rfl) ?_
      refine d_callSv (As := [.ref ((sb [1] a) 0), .int p1, .int p2]) (rest := []) (w := (fun z => wMo cI a z)) (wc := (wAr cI (sb [1] a))) (put := (fun uq => pb [1] uq σ)) (σ := σ) (τ0 := (sb [1] σ)) ⟨hx, hb, hml, hown, hts⟩ hf (fun zq hq => mX3_hangsIn l D cI cJ (sb [1] a) H.size N (sb [1] σ) p1 p2 zq hq) (va_cwS 3 hts gX3_hangs_X3_hangsIn rfl rfl rfl qX3_hangsIn ⟨Nat.le_of_ble_eq_true rfl, Nat.le_of_ble_eq_true rfl⟩) hK hP hD hS hA (cmb_Mo_Ar_1 D cI a σ hP (hD _)) rfl hl.1 rfl (Nat.le_of_ble_eq_true rfl) dX3_hangs_47 ⟨Nat.le_refl _, Nat.le_refl _⟩ (fun z5 H locs hP hS hf => ?_)
      refine lv_iload_n hx hb dX3_hangs_50 rfl (lv_at hl 0 rfl) ?_
      exact W_iret (fun z => wMo cI a z) hx hb hr hlk hP hS hAe hf dX3_hangs_51
    · refine lv_aload_n hx hb dX3_hangs_23 rfl (lv_at hl 0 rfl) ?_
      refine lv_bipush (v := (-2 : Int32)) hx hb dX3_hangs_24 (by decide) ?_
      refine d_callV (As := [.int (-2 : Int32)]) (rest := []) (w := (fun z => wMo cI a z)) (wc := (wMo cI a)) (put := (fun uq => uq)) (σ := σ) (τ0 := σ) ⟨hx, hb, hml, hown, hts⟩ hf (fun vq zq hq => mX3_no l D cI cJ a H.size N σ (-2 : Int32) (vq, zq) hq) (cwV 1 hts gX3_hangs_X3_no rfl rfl rfl qX3_no ⟨Nat.le_of_ble_eq_true rfl, Nat.le_of_ble_eq_true rfl⟩) hK hP hD hS hA ⟨hP, hD _, fun _ _ _ h => h⟩ 3 rfl rfl rfl rfl hl.1 rfl (Nat.le_of_ble_eq_true rfl) dX3_hangs_26 ⟨Nat.le_refl _, Nat.le_refl _⟩ (fun v7 z6 H locs hP hS hf => ?_)
      exact W_iret (fun z => wMo cI a z) hx hb hr hlk hP hS hAe hf dX3_hangs_29
  · refine lv_aload_n hx hb dX3_hangs_8 rfl (lv_at hl 0 rfl) ?_
    refine lv_iconst (v := (-1 : Int32)) hx hb dX3_hangs_9 (by decide) ?_
    refine d_callV (As := [.int (-1 : Int32)]) (rest := []) (w := (fun z => wMo cI a z)) (wc := (wMo cI a)) (put := (fun uq => uq)) (σ := σ) (τ0 := σ) ⟨hx, hb, hml, hown, hts⟩ hf (fun vq zq hq => mX3_no l D cI cJ a H.size N σ (-1 : Int32) (vq, zq) hq) (cwV 1 hts gX3_hangs_X3_no rfl rfl rfl qX3_no ⟨Nat.le_of_ble_eq_true rfl, Nat.le_of_ble_eq_true rfl⟩) hK hP hD hS hA ⟨hP, hD _, fun _ _ _ h => h⟩ 3 rfl rfl rfl rfl hl.1 rfl (Nat.le_of_ble_eq_true rfl) dX3_hangs_10 ⟨Nat.le_refl _, Nat.le_refl _⟩ (fun v9 z8 H locs hP hS hf => ?_)
    exact W_iret (fun z => wMo cI a z) hx hb hr hlk hP hS hAe hf dX3_hangs_13
def fX3_wrongBy (N : Nat) (p1 : Int32) (p2 : Int32) (p3 : Int32) : Option Int32 :=
    if p2 ≤ p1 then if p1 ≤ p3 then some (0 : Int32)
    else some (-6 : Int32)
    else some (-4 : Int32)
abbrev rmX3_wrongBy : Room := { frames := 0, cells := 0, slots := 0, locals := 0 }
theorem qX3_wrongBy : yX3_wrongBy.cls ≠ "java/lang/invoke/MethodHandle" ∧ yX3_wrongBy.cls ≠ "java/lang/invoke/VarHandle" ∧ (parseMethodDescriptor yX3_wrongBy.desc).map (fun d => d.parameters.length) = some 3 := by decide +kernel
set_option maxHeartbeats 400000 in
set_option maxRecDepth 100000 in
theorem mX3_wrongBy (l : Launch) (D : va_G) (cI cJ : ClassId) (sz N : Nat) (p1 : Int32) (p2 : Int32) (p3 : Int32) (r : Int32) (hf : fX3_wrongBy N p1 p2 p3 = some r) : Met l yX3_wrongBy wsX3_wrongBy rmX3_wrongBy (RPre ([.int p1, .int p2, .int p3] : List Value) sz D (tyIJ cI cJ) (wNo)) (RQi sz r) 0 0 (fr0 sz) := by
  refine R_start (cc := cX3_wrongBy) (maxL := 3) (ret := (some .int)) (by decide) rfl (Nat.le_of_ble_eq_true rfl) (fun p e s m below meth c ls hx hb hr hml hown hts hlk hP hK hS hA hsz hl => ?_)
  have hown : s.vm.findClass RX3 = some m.cls := hown
  have hl : lv_has ls 3 [(0, .int p1), (1, .int p2), (2, .int p3)] := hl
  unfold fX3_wrongBy at hf
  refine lv_iload_n hx hb dX3_wrongBy_0 rfl (lv_at hl 0 rfl) ?_
  refine lv_iload_n hx hb dX3_wrongBy_1 rfl (lv_at hl 1 rfl) ?_
  refine k_icmp_ge (tgt := 10) hx hb dX3_wrongBy_2 (by decide) hf (fun hf => ?_) (fun hf => ?_)
  · refine lv_iload_n hx hb dX3_wrongBy_10 rfl (lv_at hl 0 rfl) ?_
    refine lv_iload_n hx hb dX3_wrongBy_11 rfl (lv_at hl 2 rfl) ?_
    refine k_icmp_le (tgt := 20) hx hb dX3_wrongBy_12 (by decide) hf (fun hf => ?_) (fun hf => ?_)
    · refine lv_iconst (v := (0 : Int32)) hx hb dX3_wrongBy_20 (by decide) ?_
      exact R_iret hx hb hr hlk hS hsz hf dX3_wrongBy_21
    · refine lv_bipush (v := (-6 : Int32)) hx hb dX3_wrongBy_15 (by decide) ?_
      refine lv_goto (tgt := 21) hx hb dX3_wrongBy_17 (by decide) ?_
      exact R_iret hx hb hr hlk hS hsz hf dX3_wrongBy_21
  · refine lv_bipush (v := (-4 : Int32)) hx hb dX3_wrongBy_5 (by decide) ?_
    refine lv_goto (tgt := 21) hx hb dX3_wrongBy_7 (by decide) ?_
    exact R_iret hx hb hr hlk hS hsz hf dX3_wrongBy_21
def fX3_sets (N : Nat) (σ : St) (p1 : Int32) (p2 : Int32) : Option (Int32 × St) :=
    bo (rdI σ 1 38 p1) (fun v1 =>
    bo (wrI σ 1 38 p1 p2) (fun z2 =>
    some (v1, z2)))
abbrev rmX3_sets : Room := { frames := 0, cells := 0, slots := 0, locals := 0 }
theorem qX3_sets : yX3_sets.cls = RX3 ∧ yX3_sets.cls ≠ "java/lang/invoke/MethodHandle" ∧ yX3_sets.cls ≠ "java/lang/invoke/VarHandle" ∧ (parseMethodDescriptor yX3_sets.desc).map (fun d => d.parameters.length) = some 2 := by decide +kernel
set_option maxHeartbeats 400000 in
set_option maxRecDepth 100000 in
theorem mX3_sets (l : Launch) (D : va_G) (cI cJ : ClassId) (a : Nat → Nat) (sz N : Nat) (σ : St) (p1 : Int32) (p2 : Int32) (r : (Int32 × St)) (hf : fX3_sets N σ p1 p2 = some r) : Met l yX3_sets wsX3_sets rmX3_sets (WPre ([.ref (a 0), .int p1, .int p2] : List Value) sz D (tyIJ cI cJ) (wMo cI a σ)) (WQi sz D (wMo cI a σ) (wMo cI a (r.2)) r.1) 0 0 (va_A (wMo cI a σ) sz) := by
  refine W_start (cc := cX3_sets) (maxL := 4) (ret := (some .int)) (by decide) rfl (Nat.le_of_ble_eq_true rfl) (fun p e s m below meth c ls A hx hb hr hml hown hts hlk hP hK hS hA hD0 hAe hl => ?_)
  have hD : ∀ z, va_D A ((fun z => wMo cI a z) z) := fun z => hD0.ad rfl
  have hown : s.vm.findClass RX3 = some m.cls := hown
  have hl : lv_has ls 4 [(0, .ref (a 0)), (1, .int p1), (2, .int p2)] := hl
  have ln1 := hts (Cond.fieldLink RX3 9 "HoistsAreSharedModel" "s" "[I") (List.mem_of_getElem? (i := 1) rfl)
  have inX3 : ∀ w ∈ u_ws RX3 TX3 13, w ∈ wsX3_sets := fun _ h => List.mem_cons_of_mem _ (List.mem_append_right _ h)
  unfold fX3_sets at hf
  refine lv_aload_n hx hb dX3_sets_0 rfl (lv_at hl 0 rfl) ?_
  refine va_get (D := D) (ci := 3) (v := .ref (a 1)) (C := RX3) (T := TX3) (N := 13) hx hb hts inX3 hown hK hP 0 rfl rfl 0 (by decide) ln1 (fun _ h9 => h9) rfl dX3_sets_1 ?_
  refine lv_iload_n hx hb dX3_sets_4 rfl (lv_at hl 1 rfl) ?_
  refine k_iald hx hb hK hP 1 0 hf rfl rfl dX3_sets_5 (fun v1 hf => ?_)
  refine lv_istore_n (lv' := [(3, .int v1), (0, .ref (a 0)), (1, .int p1), (2, .int p2)]) hx hb dX3_sets_6 rfl hl (by decide) rfl (fun ls hl => ?_)
  refine lv_aload_n hx hb dX3_sets_7 rfl (lv_at hl 1 rfl) ?_
  refine va_get (D := D) (ci := 3) (v := .ref (a 1)) (C := RX3) (T := TX3) (N := 13) hx hb hts inX3 hown hK hP 0 rfl rfl 0 (by decide) ln1 (fun _ h9 => h9) rfl dX3_sets_8 ?_
  refine lv_iload_n hx hb dX3_sets_11 rfl (lv_at hl 2 rfl) ?_
  refine lv_iload_n hx hb dX3_sets_12 rfl (lv_at hl 3 rfl) ?_
  refine k_iast (w := (fun z => wMo cI a z)) hx hb hK hP hD hS 1 0 hf rfl rfl (fun _ => rfl) dX3_sets_13 (fun z2 H locs hP hS hf => ?_)
  refine lv_iload_n hx hb dX3_sets_14 rfl (lv_at hl 0 rfl) ?_
  exact W_iret (fun z => wMo cI a z) hx hb hr hlk hP hS hAe hf dX3_sets_15
def fX3_loads_L18 (N : Nat)  (z : St) (x1 : Int32) (x2 : Int32) (y0 : Int32) : Option (Int32 × St) :=
    if y0 = 0 then bx (fX3_sets N z ((4 : Int32) + x1) x2) (fun uq => uq) (fun v3 z2 =>
    some (v3, z2))
    else bx (fX3_no N z y0) (fun uq => uq) (fun v5 z4 =>
    some (v5, z4))
def fX3_loads (N : Nat) (σ : St) (p1 : Int32) (p2 : Int32) : Option (Int32 × St) :=
    bo (fX3_isSide N p1) (fun v1 =>
    if v1 = 0 then fX3_loads_L18 N  σ p1 p2 (-1 : Int32)
    else bo (fX3_wrongBy N p2 (0 : Int32) (50 : Int32)) (fun v6 =>
    fX3_loads_L18 N  σ p1 p2 v6))
abbrev rmX3_loads : Room := { frames := 2, cells := 0, slots := 0, locals := 42 }
theorem qX3_loads : yX3_loads.cls = RX3 ∧ yX3_loads.cls ≠ "java/lang/invoke/MethodHandle" ∧ yX3_loads.cls ≠ "java/lang/invoke/VarHandle" ∧ (parseMethodDescriptor yX3_loads.desc).map (fun d => d.parameters.length) = some 2 := by decide +kernel
set_option maxHeartbeats 400000 in
set_option maxRecDepth 100000 in
theorem mX3_loads (l : Launch) (D : va_G) (cI cJ : ClassId) (a : Nat → Nat) (sz N : Nat) (σ : St) (p1 : Int32) (p2 : Int32) (r : (Int32 × St)) (hf : fX3_loads N σ p1 p2 = some r) : Met l yX3_loads wsX3_loads rmX3_loads (WPre ([.ref (a 0), .int p1, .int p2] : List Value) sz D (tyIJ cI cJ) (wMo cI a σ)) (WQi sz D (wMo cI a σ) (wMo cI a (r.2)) r.1) 0 0 (va_A (wMo cI a σ) sz) := by
  refine W_start (cc := cX3_loads) (maxL := 4) (ret := (some .int)) (by decide) rfl (Nat.le_of_ble_eq_true rfl) (fun p e s m below meth c ls A hx hb hr hml hown hts hlk hP hK hS hA hD0 hAe hl => ?_)
  have hD : ∀ z, va_D A ((fun z => wMo cI a z) z) := fun z => hD0.ad rfl
  have hown : s.vm.findClass RX3 = some m.cls := hown
  have hl : lv_has ls 4 [(0, .ref (a 0)), (1, .int p1), (2, .int p2)] := hl
  have b18 : ∀  (z : St) (x1 : Int32) (x2 : Int32) (y0 : Int32) (H : Heap) (locs : List Loc) (ls : Array Slot), va_P D vwCl (wMo cI a z) H → va_S A s.heap H locs → lv_has ls 4 [(0, .ref (a 0)), (1, .int x1), (2, .int x2)] → fX3_loads_L18 N z x1 x2 y0 = some r → W p l e rmX3_loads s m ([.ref (a 0), .int p1, .int p2] : List Value).toArray below meth c H locs 0 0 (MQ below (WQi sz D (wMo cI a σ) (wMo cI a (r.2)) r.1) ([.ref (a 0), .int p1, .int p2] : List Value).toArray s 0 0 A) (F0 m 18 ls [.int y0]) := by
    intro  z x1 x2 y0 H locs ls hP hS hl hf
    unfold fX3_loads_L18 at hf
    refine lv_istore_n (lv' := [(3, .int y0), (0, .ref (a 0)), (1, .int x1), (2, .int x2)]) hx hb dX3_loads_18 rfl hl (by decide) rfl (fun ls hl => ?_)
    refine lv_iload_n hx hb dX3_loads_19 rfl (lv_at hl 0 rfl) ?_
    refine k_if_eq (tgt := 31) hx hb dX3_loads_20 (by decide) hf (fun hf => ?_) (fun hf => ?_)
    · refine lv_aload_n hx hb dX3_loads_31 rfl (lv_at hl 1 rfl) ?_
      refine lv_iconst (v := (4 : Int32)) hx hb dX3_loads_32 (by decide) ?_
      refine lv_iload_n hx hb dX3_loads_33 rfl (lv_at hl 2 rfl) ?_
      refine lv_iadd hx hb dX3_loads_34 ?_
      refine lv_iload_n hx hb dX3_loads_35 rfl (lv_at hl 3 rfl) ?_
      refine d_callV (As := [.int ((4 : Int32) + x1), .int x2]) (rest := []) (w := (fun z => wMo cI a z)) (wc := (wMo cI a)) (put := (fun uq => uq)) (σ := z) (τ0 := z) ⟨hx, hb, hml, hown, hts⟩ hf (fun vq zq hq => mX3_sets l D cI cJ a H.size N z ((4 : Int32) + x1) x2 (vq, zq) hq) (cwV 2 hts gX3_loads_X3_sets rfl rfl rfl qX3_sets ⟨Nat.le_of_ble_eq_true rfl, Nat.le_of_ble_eq_true rfl⟩) hK hP hD hS hA ⟨hP, hD _, fun _ _ _ h => h⟩ 3 rfl rfl rfl rfl hl.1 rfl (Nat.le_of_ble_eq_true rfl) dX3_loads_36 ⟨Nat.le_refl _, Nat.le_refl _⟩ (fun v3 z2 H locs hP hS hf => ?_)
      exact W_iret (fun z => wMo cI a z) hx hb hr hlk hP hS hAe hf dX3_loads_39
    · refine lv_aload_n hx hb dX3_loads_23 rfl (lv_at hl 1 rfl) ?_
      refine lv_iload_n hx hb dX3_loads_24 rfl (lv_at hl 0 rfl) ?_
      refine d_callV (As := [.int y0]) (rest := []) (w := (fun z => wMo cI a z)) (wc := (wMo cI a)) (put := (fun uq => uq)) (σ := z) (τ0 := z) ⟨hx, hb, hml, hown, hts⟩ hf (fun vq zq hq => mX3_no l D cI cJ a H.size N z y0 (vq, zq) hq) (cwV 1 hts gX3_loads_X3_no rfl rfl rfl qX3_no ⟨Nat.le_of_ble_eq_true rfl, Nat.le_of_ble_eq_true rfl⟩) hK hP hD hS hA ⟨hP, hD _, fun _ _ _ h => h⟩ 3 rfl rfl rfl rfl hl.1 rfl (Nat.le_of_ble_eq_true rfl) dX3_loads_25 ⟨Nat.le_refl _, Nat.le_refl _⟩ (fun v5 z4 H locs hP hS hf => ?_)
      refine lv_goto (tgt := 39) hx hb dX3_loads_28 (by decide) ?_
      exact W_iret (fun z => wMo cI a z) hx hb hr hlk hP hS hAe hf dX3_loads_39
  unfold fX3_loads at hf
  refine lv_iload_n hx hb dX3_loads_0 rfl (lv_at hl 1 rfl) ?_
  refine c_callS (As := [.int p1]) (rest := []) ⟨hx, hb, hml, hown, hts⟩ hf (fun vq hq => mX3_isSide l D cI cJ s.heap.size N p1 vq hq) (va_cwS 1 hts gX3_loads_X3_isSide rfl rfl rfl qX3_isSide ⟨Nat.le_of_ble_eq_true rfl, Nat.le_of_ble_eq_true rfl⟩) hK hP hS hA va_P_nil rfl hl.1 rfl (Nat.le_of_ble_eq_true rfl) dX3_loads_1 ⟨Nat.le_refl _, Nat.le_refl _⟩ (fun v1 H locs hP hS hf => ?_)
  refine k_if_eq (tgt := 17) hx hb dX3_loads_4 (by decide) hf (fun hf => ?_) (fun hf => ?_)
  · refine lv_iconst (v := (-1 : Int32)) hx hb dX3_loads_17 (by decide) ?_
    exact b18  σ p1 p2 (-1 : Int32) H locs ls hP hS (lv_sub hl [0, 1, 2] rfl) hf
  · refine lv_iload_n hx hb dX3_loads_7 rfl (lv_at hl 2 rfl) ?_
    refine lv_iconst (v := (0 : Int32)) hx hb dX3_loads_8 (by decide) ?_
    refine lv_bipush (v := (50 : Int32)) hx hb dX3_loads_9 (by decide) ?_
    refine c_callS (As := [.int p2, .int (0 : Int32), .int (50 : Int32)]) (rest := []) ⟨hx, hb, hml, hown, hts⟩ hf (fun vq hq => mX3_wrongBy l D cI cJ H.size N p2 (0 : Int32) (50 : Int32) vq hq) (va_cwS 3 hts gX3_loads_X3_wrongBy rfl rfl rfl qX3_wrongBy ⟨Nat.le_of_ble_eq_true rfl, Nat.le_of_ble_eq_true rfl⟩) hK hP hS hA va_P_nil rfl hl.1 rfl (Nat.le_of_ble_eq_true rfl) dX3_loads_11 ⟨Nat.le_refl _, Nat.le_refl _⟩ (fun v6 H locs hP hS hf => ?_)
    refine lv_goto (tgt := 18) hx hb dX3_loads_14 (by decide) ?_
    exact b18  σ p1 p2 v6 H locs ls hP hS (lv_sub hl [0, 1, 2] rfl) hf
def fX3_lifts (N : Nat) (σ : St) (p1 : Int32) : Option (Int32 × St) :=
    bo (fX3_isFloor N p1) (fun v1 =>
    if v1 = 0 then bx (fX3_no N σ (-1 : Int32)) (fun uq => uq) (fun v3 z2 =>
    some (v3, z2))
    else bx (fX3_sets N σ (2 : Int32) p1) (fun uq => uq) (fun v5 z4 =>
    some (v5, z4)))
abbrev rmX3_lifts : Room := { frames := 2, cells := 0, slots := 0, locals := 42 }
theorem qX3_lifts : yX3_lifts.cls = RX3 ∧ yX3_lifts.cls ≠ "java/lang/invoke/MethodHandle" ∧ yX3_lifts.cls ≠ "java/lang/invoke/VarHandle" ∧ (parseMethodDescriptor yX3_lifts.desc).map (fun d => d.parameters.length) = some 1 := by decide +kernel
set_option maxHeartbeats 400000 in
set_option maxRecDepth 100000 in
theorem mX3_lifts (l : Launch) (D : va_G) (cI cJ : ClassId) (a : Nat → Nat) (sz N : Nat) (σ : St) (p1 : Int32) (r : (Int32 × St)) (hf : fX3_lifts N σ p1 = some r) : Met l yX3_lifts wsX3_lifts rmX3_lifts (WPre ([.ref (a 0), .int p1] : List Value) sz D (tyIJ cI cJ) (wMo cI a σ)) (WQi sz D (wMo cI a σ) (wMo cI a (r.2)) r.1) 0 0 (va_A (wMo cI a σ) sz) := by
  refine W_start (cc := cX3_lifts) (maxL := 2) (ret := (some .int)) (by decide) rfl (Nat.le_of_ble_eq_true rfl) (fun p e s m below meth c ls A hx hb hr hml hown hts hlk hP hK hS hA hD0 hAe hl => ?_)
  have hD : ∀ z, va_D A ((fun z => wMo cI a z) z) := fun z => hD0.ad rfl
  have hown : s.vm.findClass RX3 = some m.cls := hown
  have hl : lv_has ls 2 [(0, .ref (a 0)), (1, .int p1)] := hl
  unfold fX3_lifts at hf
  refine lv_iload_n hx hb dX3_lifts_0 rfl (lv_at hl 1 rfl) ?_
  refine c_callS (As := [.int p1]) (rest := []) ⟨hx, hb, hml, hown, hts⟩ hf (fun vq hq => mX3_isFloor l D cI cJ s.heap.size N p1 vq hq) (va_cwS 1 hts gX3_lifts_X3_isFloor rfl rfl rfl qX3_isFloor ⟨Nat.le_of_ble_eq_true rfl, Nat.le_of_ble_eq_true rfl⟩) hK hP hS hA va_P_nil rfl hl.1 rfl (Nat.le_of_ble_eq_true rfl) dX3_lifts_1 ⟨Nat.le_refl _, Nat.le_refl _⟩ (fun v1 H locs hP hS hf => ?_)
  refine k_if_eq (tgt := 16) hx hb dX3_lifts_4 (by decide) hf (fun hf => ?_) (fun hf => ?_)
  · refine lv_aload_n hx hb dX3_lifts_16 rfl (lv_at hl 0 rfl) ?_
    refine lv_iconst (v := (-1 : Int32)) hx hb dX3_lifts_17 (by decide) ?_
    refine d_callV (As := [.int (-1 : Int32)]) (rest := []) (w := (fun z => wMo cI a z)) (wc := (wMo cI a)) (put := (fun uq => uq)) (σ := σ) (τ0 := σ) ⟨hx, hb, hml, hown, hts⟩ hf (fun vq zq hq => mX3_no l D cI cJ a H.size N σ (-1 : Int32) (vq, zq) hq) (cwV 1 hts gX3_lifts_X3_no rfl rfl rfl qX3_no ⟨Nat.le_of_ble_eq_true rfl, Nat.le_of_ble_eq_true rfl⟩) hK hP hD hS hA ⟨hP, hD _, fun _ _ _ h => h⟩ 3 rfl rfl rfl rfl hl.1 rfl (Nat.le_of_ble_eq_true rfl) dX3_lifts_18 ⟨Nat.le_refl _, Nat.le_refl _⟩ (fun v3 z2 H locs hP hS hf => ?_)
    exact W_iret (fun z => wMo cI a z) hx hb hr hlk hP hS hAe hf dX3_lifts_21
  · refine lv_aload_n hx hb dX3_lifts_7 rfl (lv_at hl 0 rfl) ?_
    refine lv_iconst (v := (2 : Int32)) hx hb dX3_lifts_8 (by decide) ?_
    refine lv_iload_n hx hb dX3_lifts_9 rfl (lv_at hl 1 rfl) ?_
    refine d_callV (As := [.int (2 : Int32), .int p1]) (rest := []) (w := (fun z => wMo cI a z)) (wc := (wMo cI a)) (put := (fun uq => uq)) (σ := σ) (τ0 := σ) ⟨hx, hb, hml, hown, hts⟩ hf (fun vq zq hq => mX3_sets l D cI cJ a H.size N σ (2 : Int32) p1 (vq, zq) hq) (cwV 2 hts gX3_lifts_X3_sets rfl rfl rfl qX3_sets ⟨Nat.le_of_ble_eq_true rfl, Nat.le_of_ble_eq_true rfl⟩) hK hP hD hS hA ⟨hP, hD _, fun _ _ _ h => h⟩ 3 rfl rfl rfl rfl hl.1 rfl (Nat.le_of_ble_eq_true rfl) dX3_lifts_10 ⟨Nat.le_refl _, Nat.le_refl _⟩ (fun v5 z4 H locs hP hS hf => ?_)
    refine lv_goto (tgt := 21) hx hb dX3_lifts_13 (by decide) ?_
    exact W_iret (fun z => wMo cI a z) hx hb hr hlk hP hS hAe hf dX3_lifts_21
def fX3_doors (N : Nat) (σ : St) (p1 : Int32) : Option (Int32 × St) :=
    bo (fX3_isFloor N p1) (fun v1 =>
    if v1 = 0 then bx (fX3_no N σ (-1 : Int32)) (fun uq => uq) (fun v7 z6 =>
    some (v7, z6))
    else bo (rdI σ 1 38 (3 : Int32)) (fun v2 =>
    lt_ ((v2 ^^^ ((1 : Int32) <<< (p1 &&& 31))) : Int32) (fun v4 =>
    bo (wrI σ 1 38 (3 : Int32) v4) (fun z3 =>
    bo (rdI z3 1 38 (3 : Int32)) (fun v5 =>
    some (((v5 >>> (p1 &&& 31)) &&& (1 : Int32)), z3))))))
abbrev rmX3_doors : Room := { frames := 2, cells := 0, slots := 0, locals := 42 }
theorem qX3_doors : yX3_doors.cls = RX3 ∧ yX3_doors.cls ≠ "java/lang/invoke/MethodHandle" ∧ yX3_doors.cls ≠ "java/lang/invoke/VarHandle" ∧ (parseMethodDescriptor yX3_doors.desc).map (fun d => d.parameters.length) = some 1 := by decide +kernel
set_option maxHeartbeats 400000 in
set_option maxRecDepth 100000 in
theorem mX3_doors (l : Launch) (D : va_G) (cI cJ : ClassId) (a : Nat → Nat) (sz N : Nat) (σ : St) (p1 : Int32) (r : (Int32 × St)) (hf : fX3_doors N σ p1 = some r) : Met l yX3_doors wsX3_doors rmX3_doors (WPre ([.ref (a 0), .int p1] : List Value) sz D (tyIJ cI cJ) (wMo cI a σ)) (WQi sz D (wMo cI a σ) (wMo cI a (r.2)) r.1) 0 0 (va_A (wMo cI a σ) sz) := by
  refine W_start (cc := cX3_doors) (maxL := 2) (ret := (some .int)) (by decide) rfl (Nat.le_of_ble_eq_true rfl) (fun p e s m below meth c ls A hx hb hr hml hown hts hlk hP hK hS hA hD0 hAe hl => ?_)
  have hD : ∀ z, va_D A ((fun z => wMo cI a z) z) := fun z => hD0.ad rfl
  have hown : s.vm.findClass RX3 = some m.cls := hown
  have hl : lv_has ls 2 [(0, .ref (a 0)), (1, .int p1)] := hl
  have ln1 := hts (Cond.fieldLink RX3 9 "HoistsAreSharedModel" "s" "[I") (List.mem_of_getElem? (i := 1) rfl)
  have inX3 : ∀ w ∈ u_ws RX3 TX3 13, w ∈ wsX3_doors := fun _ h => List.mem_cons_of_mem _ (List.mem_append_right _ h)
  unfold fX3_doors at hf
  refine lv_iload_n hx hb dX3_doors_0 rfl (lv_at hl 1 rfl) ?_
  refine c_callS (As := [.int p1]) (rest := []) ⟨hx, hb, hml, hown, hts⟩ hf (fun vq hq => mX3_isFloor l D cI cJ s.heap.size N p1 vq hq) (va_cwS 1 hts gX3_doors_X3_isFloor rfl rfl rfl qX3_isFloor ⟨Nat.le_of_ble_eq_true rfl, Nat.le_of_ble_eq_true rfl⟩) hK hP hS hA va_P_nil rfl hl.1 rfl (Nat.le_of_ble_eq_true rfl) dX3_doors_1 ⟨Nat.le_refl _, Nat.le_refl _⟩ (fun v1 H locs hP hS hf => ?_)
  refine k_if_ne (tgt := 13) hx hb dX3_doors_4 (by decide) hf (fun hf => ?_) (fun hf => ?_)
  · refine lv_aload_n hx hb dX3_doors_13 rfl (lv_at hl 0 rfl) ?_
    refine va_get (D := D) (ci := 3) (v := .ref (a 1)) (C := RX3) (T := TX3) (N := 13) hx hb hts inX3 hown hK hP 0 rfl rfl 0 (by decide) ln1 (fun _ h9 => h9) rfl dX3_doors_14 ?_
    refine lv_iconst (v := (3 : Int32)) hx hb dX3_doors_17 (by decide) ?_
    refine lv_dup2_11 hx hb dX3_doors_18 rfl rfl ?_
    refine k_iald hx hb hK hP 1 0 hf rfl rfl dX3_doors_19 (fun v2 hf => ?_)
    refine lv_iconst (v := (1 : Int32)) hx hb dX3_doors_20 (by decide) ?_
    refine lv_iload_n hx hb dX3_doors_21 rfl (lv_at hl 1 rfl) ?_
    refine lv_ishl hx hb dX3_doors_22 ?_
    refine lv_ixor hx hb dX3_doors_23 ?_
    refine k_let hf (fun v4 hf => ?_)
    refine k_iast (w := (fun z => wMo cI a z)) hx hb hK hP hD hS 1 0 hf rfl rfl (fun _ => rfl) dX3_doors_24 (fun z3 H locs hP hS hf => ?_)
    refine lv_aload_n hx hb dX3_doors_25 rfl (lv_at hl 0 rfl) ?_
    refine va_get (D := D) (ci := 3) (v := .ref (a 1)) (C := RX3) (T := TX3) (N := 13) hx hb hts inX3 hown hK hP 0 rfl rfl 0 (by decide) ln1 (fun _ h9 => h9) rfl dX3_doors_26 ?_
    refine lv_iconst (v := (3 : Int32)) hx hb dX3_doors_29 (by decide) ?_
    refine k_iald hx hb hK hP 1 0 hf rfl rfl dX3_doors_30 (fun v5 hf => ?_)
    refine lv_iload_n hx hb dX3_doors_31 rfl (lv_at hl 1 rfl) ?_
    refine lv_ishr hx hb dX3_doors_32 ?_
    refine lv_iconst (v := (1 : Int32)) hx hb dX3_doors_33 (by decide) ?_
    refine lv_iand hx hb dX3_doors_34 ?_
    exact W_iret (fun z => wMo cI a z) hx hb hr hlk hP hS hAe hf dX3_doors_35
  · refine lv_aload_n hx hb dX3_doors_7 rfl (lv_at hl 0 rfl) ?_
    refine lv_iconst (v := (-1 : Int32)) hx hb dX3_doors_8 (by decide) ?_
    refine d_callV (As := [.int (-1 : Int32)]) (rest := []) (w := (fun z => wMo cI a z)) (wc := (wMo cI a)) (put := (fun uq => uq)) (σ := σ) (τ0 := σ) ⟨hx, hb, hml, hown, hts⟩ hf (fun vq zq hq => mX3_no l D cI cJ a H.size N σ (-1 : Int32) (vq, zq) hq) (cwV 1 hts gX3_doors_X3_no rfl rfl rfl qX3_no ⟨Nat.le_of_ble_eq_true rfl, Nat.le_of_ble_eq_true rfl⟩) hK hP hD hS hA ⟨hP, hD _, fun _ _ _ h => h⟩ 3 rfl rfl rfl rfl hl.1 rfl (Nat.le_of_ble_eq_true rfl) dX3_doors_9 ⟨Nat.le_refl _, Nat.le_refl _⟩ (fun v7 z6 H locs hP hS hf => ?_)
    exact W_iret (fun z => wMo cI a z) hx hb hr hlk hP hS hAe hf dX3_doors_12
