def fX3_bestKind_L116 (N : Nat) (k61 : St → Int32 → Int32 → Int32 → Int32 → Int32 → Int32 → Option (Int32 × St)) (z : St) (x1 : Int32) (x2 : Int32) (x3 : Int32) (x5 : Int32) (x6 : Int32) (x7 : Int32) : Option (Int32 × St) :=
    lt_ (x7 + (1 : Int32) : Int32) (fun v7 =>
    k61 z x1 x2 x3 x5 x6 v7)
def fX3_bestKind_L61 (N : Nat)  : Nat → St → Int32 → Int32 → Int32 → Int32 → Int32 → Int32 → Option (Int32 × St)
  | 0, _, _, _, _, _, _, _ => none
  | n + 1, z, x1, x2, x3, x5, x6, x7 =>
    if (6 : Int32) ≤ x7 then if x3 = 0 then some (x5, z)
    else some (x6, z)
    else by_ (fX3_copies N (sb [1, 2] z)) (fun uq => pb [1, 2] uq z) (fun z2 =>
    bo (fX3_of N x1 (0 : Int32)) (fun v3 =>
    bo (wrI z2 2 38 v3 x7) (fun z4 =>
    bx (fX3_apartThen N z4 x2) (fun uq => uq) (fun v6 z5 =>
    if v6 < x6 then fX3_bestKind_L116 N (fX3_bestKind_L61 N n) z5 x1 x2 x3 x7 v6 x7
    else fX3_bestKind_L116 N (fX3_bestKind_L61 N n) z5 x1 x2 x3 x5 x6 x7))))
def fX3_bestKind_L39 (N : Nat)  (z : St) (x1 : Int32) (x2 : Int32) (x3 : Int32) (x4 : Int32) : Option (Int32 × St) :=
    if x4 = 0 then fX3_bestKind_L61 N  N z x1 x2 x3 (0 : Int32) (1000000000 : Int32) (0 : Int32)
    else bx (fX3_no N z x4) (fun uq => uq) (fun v9 z8 =>
    some (v9, z8))
def fX3_bestKind_L19 (N : Nat)  (z : St) (x1 : Int32) (x2 : Int32) (x3 : Int32) (y0 : Int32) : Option (Int32 × St) :=
    if y0 = 0 then bo (fX3_isIn N x3 (0 : Int32) (1 : Int32)) (fun v10 =>
    if v10 = 0 then fX3_bestKind_L39 N  z x1 x2 x3 (-2 : Int32)
    else fX3_bestKind_L39 N  z x1 x2 x3 y0)
    else fX3_bestKind_L39 N  z x1 x2 x3 y0
def fX3_bestKind (N : Nat) (σ : St) (p1 : Int32) (p2 : Int32) (p3 : Int32) : Option (Int32 × St) :=
    bo (fX3_isThing N σ p1) (fun v1 =>
    if v1 = 0 then fX3_bestKind_L19 N  σ p1 p2 p3 (-1 : Int32)
    else bo (fX3_wrongBy N p2 (0 : Int32) (30 : Int32)) (fun v11 =>
    fX3_bestKind_L19 N  σ p1 p2 p3 v11))
abbrev rmX3_bestKind : Room := { frames := 9, cells := 0, slots := 0, locals := 199 }
theorem qX3_bestKind : yX3_bestKind.cls = RX3 ∧ yX3_bestKind.cls ≠ "java/lang/invoke/MethodHandle" ∧ yX3_bestKind.cls ≠ "java/lang/invoke/VarHandle" ∧ (parseMethodDescriptor yX3_bestKind.desc).map (fun d => d.parameters.length) = some 3 := by decide +kernel
set_option maxHeartbeats 400000 in
set_option maxRecDepth 100000 in
theorem mX3_bestKind (l : Launch) (D : va_G) (cI cJ : ClassId) (a : Nat → Nat) (sz N : Nat) (σ : St) (p1 : Int32) (p2 : Int32) (p3 : Int32) (r : (Int32 × St)) (hf : fX3_bestKind N σ p1 p2 p3 = some r) : Met l yX3_bestKind wsX3_bestKind rmX3_bestKind (WPre ([.ref (a 0), .int p1, .int p2, .int p3] : List Value) sz D (tyIJ cI cJ) (wMo cI a σ)) (WQi sz D (wMo cI a σ) (wMo cI a (r.2)) r.1) 0 0 (va_A (wMo cI a σ) sz) := by
  refine W_start (cc := cX3_bestKind) (maxL := 9) (ret := (some .int)) (by decide) rfl (Nat.le_of_ble_eq_true rfl) (fun p e s m below meth c ls A hx hb hr hml hown hts hlk hP hK hS hA hD0 hAe hl => ?_)
  have hD : ∀ z, va_D A ((fun z => wMo cI a z) z) := fun z => hD0.ad rfl
  have hown : s.vm.findClass RX3 = some m.cls := hown
  have hl : lv_has ls 9 [(0, .ref (a 0)), (1, .int p1), (2, .int p2), (3, .int p3)] := hl
  have ln1 := hts (Cond.constant RX3 35 (1000000000)) (List.mem_of_getElem? (i := 1) rfl)
  have ln2 := hts (Cond.fieldLink RX3 9 "HoistsAreSharedModel" "s" "[I") (List.mem_of_getElem? (i := 2) rfl)
  have inX3 : ∀ w ∈ u_ws RX3 TX3 13, w ∈ wsX3_bestKind := fun _ h => List.mem_cons_of_mem _ (List.mem_append_right _ h)
  have ln4 := hts (Cond.fieldLink RX3 13 "HoistsAreSharedModel" "m" "[I") (List.mem_of_getElem? (i := 3) rfl)
  have b116 : ∀ (k61 : St → Int32 → Int32 → Int32 → Int32 → Int32 → Int32 → Option (Int32 × St)) (hk61 : (∀ (z : St) (x1 : Int32) (x2 : Int32) (x3 : Int32) (x5 : Int32) (x6 : Int32) (x7 : Int32) (H : Heap) (locs : List Loc) (ls : Array Slot), va_P D vwCl (wMo cI a z) H → va_S A s.heap H locs → lv_has ls 9 [(0, .ref (a 0)), (1, .int x1), (2, .int x2), (3, .int x3), (5, .int x5), (6, .int x6), (7, .int x7)] → k61 z x1 x2 x3 x5 x6 x7 = some r → W p l e rmX3_bestKind s m ([.ref (a 0), .int p1, .int p2, .int p3] : List Value).toArray below meth c H locs 0 0 (MQ below (WQi sz D (wMo cI a σ) (wMo cI a (r.2)) r.1) ([.ref (a 0), .int p1, .int p2, .int p3] : List Value).toArray s 0 0 A) (F0 m 61 ls []))) (z : St) (x1 : Int32) (x2 : Int32) (x3 : Int32) (x5 : Int32) (x6 : Int32) (x7 : Int32) (H : Heap) (locs : List Loc) (ls : Array Slot), va_P D vwCl (wMo cI a z) H → va_S A s.heap H locs → lv_has ls 9 [(0, .ref (a 0)), (1, .int x1), (2, .int x2), (3, .int x3), (5, .int x5), (6, .int x6), (7, .int x7)] → fX3_bestKind_L116 N k61 z x1 x2 x3 x5 x6 x7 = some r → W p l e rmX3_bestKind s m ([.ref (a 0), .int p1, .int p2, .int p3] : List Value).toArray below meth c H locs 0 0 (MQ below (WQi sz D (wMo cI a σ) (wMo cI a (r.2)) r.1) ([.ref (a 0), .int p1, .int p2, .int p3] : List Value).toArray s 0 0 A) (F0 m 116 ls []) := by
    intro k61 hk61 z x1 x2 x3 x5 x6 x7 H locs ls hP hS hl hf
    unfold fX3_bestKind_L116 at hf
    refine k_iinc (d := (1 : Int32)) (lv' := fun v7 => [(7, .int v7), (0, .ref (a 0)), (1, .int x1), (2, .int x2), (3, .int x3), (5, .int x5), (6, .int x6)]) hx hb dX3_bestKind_116 hl (k := 6) rfl (by decide) (by decide) (fun _ => rfl) hf (fun v7 ls hl hf => ?_)
    refine lv_goto (tgt := 61) hx hb dX3_bestKind_119 (by decide) ?_
    exact hk61 z x1 x2 x3 x5 x6 v7 H locs ls hP hS (lv_sub hl [1, 2, 3, 4, 5, 6, 0] rfl) hf
  have b61 : ∀  (n : Nat) (z : St) (x1 : Int32) (x2 : Int32) (x3 : Int32) (x5 : Int32) (x6 : Int32) (x7 : Int32) (H : Heap) (locs : List Loc) (ls : Array Slot), va_P D vwCl (wMo cI a z) H → va_S A s.heap H locs → lv_has ls 9 [(0, .ref (a 0)), (1, .int x1), (2, .int x2), (3, .int x3), (5, .int x5), (6, .int x6), (7, .int x7)] → fX3_bestKind_L61 N n z x1 x2 x3 x5 x6 x7 = some r → W p l e rmX3_bestKind s m ([.ref (a 0), .int p1, .int p2, .int p3] : List Value).toArray below meth c H locs 0 0 (MQ below (WQi sz D (wMo cI a σ) (wMo cI a (r.2)) r.1) ([.ref (a 0), .int p1, .int p2, .int p3] : List Value).toArray s 0 0 A) (F0 m 61 ls []) := by
    intro n
    induction n with
    | zero => intro z x1 x2 x3 x5 x6 x7 H locs ls hP hS hl hf; cases hf
    | succ n ih =>
      intro z x1 x2 x3 x5 x6 x7 H locs ls hP hS hl hf
      rw [fX3_bestKind_L61] at hf
      refine lv_iload hx hb dX3_bestKind_61 (lv_at hl 6 rfl) ?_
      refine lv_bipush (v := (6 : Int32)) hx hb dX3_bestKind_63 (by decide) ?_
      refine k_icmp_ge (tgt := 122) hx hb dX3_bestKind_65 (by decide) hf (fun hf => ?_) (fun hf => ?_)
      · refine lv_iload_n hx hb dX3_bestKind_122 rfl (lv_at hl 3 rfl) ?_
        refine k_if_ne (tgt := 131) hx hb dX3_bestKind_123 (by decide) hf (fun hf => ?_) (fun hf => ?_)
        · refine lv_iload hx hb dX3_bestKind_131 (lv_at hl 5 rfl) ?_
          exact W_iret (fun z => wMo cI a z) hx hb hr hlk hP hS hAe hf dX3_bestKind_133
        · refine lv_iload hx hb dX3_bestKind_126 (lv_at hl 4 rfl) ?_
          refine lv_goto (tgt := 133) hx hb dX3_bestKind_128 (by decide) ?_
          exact W_iret (fun z => wMo cI a z) hx hb hr hlk hP hS hAe hf dX3_bestKind_133
      · refine lv_aload_n hx hb dX3_bestKind_68 rfl (lv_at hl 0 rfl) ?_
        refine va_get (D := D) (ci := 3) (v := .ref (a 1)) (C := RX3) (T := TX3) (N := 13) hx hb hts inX3 hown hK hP 0 rfl rfl 0 (by decide) ln2 (fun _ h9 => h9) rfl dX3_bestKind_69 ?_
        refine lv_aload_n hx hb dX3_bestKind_72 rfl (lv_at hl 0 rfl) ?_
        refine va_get (D := D) (ci := 3) (v := .ref (a 2)) (C := RX3) (T := TX3) (N := 13) hx hb hts inX3 hown hK hP 0 rfl rfl 1 (by decide) ln4 (fun _ h9 => h9) rfl dX3_bestKind_73 ?_
        refine d_callSv (As := [.ref ((sb [1, 2] a) 0), .ref ((sb [1, 2] a) 1)]) (rest := []) (w := (fun z => wMo cI a z)) (wc := (wAr2 cI (sb [1, 2] a))) (put := (fun uq => pb [1, 2] uq z)) (σ := z) (τ0 := (sb [1, 2] z)) ⟨hx, hb, hml, hown, hts⟩ hf (fun zq hq => mX3_copies l D cI cJ (sb [1, 2] a) H.size N (sb [1, 2] z) zq hq) (va_cwS 2 hts gX3_bestKind_X3_copies rfl rfl rfl qX3_copies ⟨Nat.le_of_ble_eq_true rfl, Nat.le_of_ble_eq_true rfl⟩) hK hP hD hS hA (cmb_Mo_Ar2_1_2 D cI a z hP (hD _)) rfl hl.1 rfl (Nat.le_of_ble_eq_true rfl) dX3_bestKind_76 ⟨Nat.le_refl _, Nat.le_refl _⟩ (fun z2 H locs hP hS hf => ?_)
        refine lv_aload_n hx hb dX3_bestKind_79 rfl (lv_at hl 0 rfl) ?_
        refine va_get (D := D) (ci := 3) (v := .ref (a 2)) (C := RX3) (T := TX3) (N := 13) hx hb hts inX3 hown hK hP 0 rfl rfl 1 (by decide) ln4 (fun _ h9 => h9) rfl dX3_bestKind_80 ?_
        refine lv_iload_n hx hb dX3_bestKind_83 rfl (lv_at hl 1 rfl) ?_
        refine lv_iconst (v := (0 : Int32)) hx hb dX3_bestKind_84 (by decide) ?_
        refine c_callS (As := [.int x1, .int (0 : Int32)]) (rest := [.ref (a 2)]) ⟨hx, hb, hml, hown, hts⟩ hf (fun vq hq => mX3_of l D cI cJ H.size N x1 (0 : Int32) vq hq) (va_cwS 2 hts gX3_bestKind_X3_of rfl rfl rfl qX3_of ⟨Nat.le_of_ble_eq_true rfl, Nat.le_of_ble_eq_true rfl⟩) hK hP hS hA va_P_nil rfl hl.1 rfl (Nat.le_of_ble_eq_true rfl) dX3_bestKind_85 ⟨Nat.le_refl _, Nat.le_refl _⟩ (fun v3 H locs hP hS hf => ?_)
        refine lv_iload hx hb dX3_bestKind_88 (lv_at hl 6 rfl) ?_
        refine k_iast (w := (fun z => wMo cI a z)) hx hb hK hP hD hS 2 0 hf rfl rfl (fun _ => rfl) dX3_bestKind_90 (fun z4 H locs hP hS hf => ?_)
        refine lv_aload_n hx hb dX3_bestKind_91 rfl (lv_at hl 0 rfl) ?_
        refine lv_iload_n hx hb dX3_bestKind_92 rfl (lv_at hl 2 rfl) ?_
        refine d_callV (As := [.int x2]) (rest := []) (w := (fun z => wMo cI a z)) (wc := (wMo cI a)) (put := (fun uq => uq)) (σ := z4) (τ0 := z4) ⟨hx, hb, hml, hown, hts⟩ hf (fun vq zq hq => mX3_apartThen l D cI cJ a H.size N z4 x2 (vq, zq) hq) (cwV 1 hts gX3_bestKind_X3_apartThen rfl rfl rfl qX3_apartThen ⟨Nat.le_of_ble_eq_true rfl, Nat.le_of_ble_eq_true rfl⟩) hK hP hD hS hA ⟨hP, hD _, fun _ _ _ h => h⟩ 3 rfl rfl rfl rfl hl.1 rfl (Nat.le_of_ble_eq_true rfl) dX3_bestKind_93 ⟨Nat.le_refl _, Nat.le_refl _⟩ (fun v6 z5 H locs hP hS hf => ?_)
        refine lv_istore (lv' := [(8, .int v6), (0, .ref (a 0)), (1, .int x1), (2, .int x2), (3, .int x3), (5, .int x5), (6, .int x6), (7, .int x7)]) hx hb dX3_bestKind_96 hl (by decide) rfl (fun ls hl => ?_)
        refine lv_iload hx hb dX3_bestKind_98 (lv_at hl 0 rfl) ?_
        refine lv_iload hx hb dX3_bestKind_100 (lv_at hl 6 rfl) ?_
        refine k_icmp_lt (tgt := 108) hx hb dX3_bestKind_102 (by decide) hf (fun hf => ?_) (fun hf => ?_)
        · refine lv_iload hx hb dX3_bestKind_108 (lv_at hl 7 rfl) ?_
          refine lv_istore (lv' := [(5, .int x7), (8, .int v6), (0, .ref (a 0)), (1, .int x1), (2, .int x2), (3, .int x3), (6, .int x6), (7, .int x7)]) hx hb dX3_bestKind_110 hl (by decide) rfl (fun ls hl => ?_)
          refine lv_iload hx hb dX3_bestKind_112 (lv_at hl 1 rfl) ?_
          refine lv_istore (lv' := [(6, .int v6), (5, .int x7), (8, .int v6), (0, .ref (a 0)), (1, .int x1), (2, .int x2), (3, .int x3), (7, .int x7)]) hx hb dX3_bestKind_114 hl (by decide) rfl (fun ls hl => ?_)
          exact b116 (fX3_bestKind_L61 N n) ih z5 x1 x2 x3 x7 v6 x7 H locs ls hP hS (lv_sub hl [3, 4, 5, 6, 1, 0, 7] rfl) hf
        · refine lv_goto (tgt := 116) hx hb dX3_bestKind_105 (by decide) ?_
          exact b116 (fX3_bestKind_L61 N n) ih z5 x1 x2 x3 x5 x6 x7 H locs ls hP hS (lv_sub hl [1, 2, 3, 4, 5, 6, 7] rfl) hf
  have b39 : ∀  (z : St) (x1 : Int32) (x2 : Int32) (x3 : Int32) (x4 : Int32) (H : Heap) (locs : List Loc) (ls : Array Slot), va_P D vwCl (wMo cI a z) H → va_S A s.heap H locs → lv_has ls 9 [(0, .ref (a 0)), (1, .int x1), (2, .int x2), (3, .int x3), (4, .int x4)] → fX3_bestKind_L39 N z x1 x2 x3 x4 = some r → W p l e rmX3_bestKind s m ([.ref (a 0), .int p1, .int p2, .int p3] : List Value).toArray below meth c H locs 0 0 (MQ below (WQi sz D (wMo cI a σ) (wMo cI a (r.2)) r.1) ([.ref (a 0), .int p1, .int p2, .int p3] : List Value).toArray s 0 0 A) (F0 m 39 ls []) := by
    intro  z x1 x2 x3 x4 H locs ls hP hS hl hf
    unfold fX3_bestKind_L39 at hf
    refine lv_iload hx hb dX3_bestKind_39 (lv_at hl 4 rfl) ?_
    refine k_if_eq (tgt := 51) hx hb dX3_bestKind_41 (by decide) hf (fun hf => ?_) (fun hf => ?_)
    · refine lv_iconst (v := (0 : Int32)) hx hb dX3_bestKind_51 (by decide) ?_
      refine lv_istore (lv' := [(5, .int (0 : Int32)), (0, .ref (a 0)), (1, .int x1), (2, .int x2), (3, .int x3), (4, .int x4)]) hx hb dX3_bestKind_52 hl (by decide) rfl (fun ls hl => ?_)
      refine lv_ldc (v := (1000000000 : Int32)) hx hb hown ln1 dX3_bestKind_54 ?_
      refine lv_istore (lv' := [(6, .int (1000000000 : Int32)), (5, .int (0 : Int32)), (0, .ref (a 0)), (1, .int x1), (2, .int x2), (3, .int x3), (4, .int x4)]) hx hb dX3_bestKind_56 hl (by decide) rfl (fun ls hl => ?_)
      refine lv_iconst (v := (0 : Int32)) hx hb dX3_bestKind_58 (by decide) ?_
      refine lv_istore (lv' := [(7, .int (0 : Int32)), (6, .int (1000000000 : Int32)), (5, .int (0 : Int32)), (0, .ref (a 0)), (1, .int x1), (2, .int x2), (3, .int x3), (4, .int x4)]) hx hb dX3_bestKind_59 hl (by decide) rfl (fun ls hl => ?_)
      exact b61  N z x1 x2 x3 (0 : Int32) (1000000000 : Int32) (0 : Int32) H locs ls hP hS (lv_sub hl [3, 4, 5, 6, 2, 1, 0] rfl) hf
    · refine lv_aload_n hx hb dX3_bestKind_44 rfl (lv_at hl 0 rfl) ?_
      refine lv_iload hx hb dX3_bestKind_45 (lv_at hl 4 rfl) ?_
      refine d_callV (As := [.int x4]) (rest := []) (w := (fun z => wMo cI a z)) (wc := (wMo cI a)) (put := (fun uq => uq)) (σ := z) (τ0 := z) ⟨hx, hb, hml, hown, hts⟩ hf (fun vq zq hq => mX3_no l D cI cJ a H.size N z x4 (vq, zq) hq) (cwV 1 hts gX3_bestKind_X3_no rfl rfl rfl qX3_no ⟨Nat.le_of_ble_eq_true rfl, Nat.le_of_ble_eq_true rfl⟩) hK hP hD hS hA ⟨hP, hD _, fun _ _ _ h => h⟩ 3 rfl rfl rfl rfl hl.1 rfl (Nat.le_of_ble_eq_true rfl) dX3_bestKind_47 ⟨Nat.le_refl _, Nat.le_refl _⟩ (fun v9 z8 H locs hP hS hf => ?_)
      exact W_iret (fun z => wMo cI a z) hx hb hr hlk hP hS hAe hf dX3_bestKind_50
  have b19 : ∀  (z : St) (x1 : Int32) (x2 : Int32) (x3 : Int32) (y0 : Int32) (H : Heap) (locs : List Loc) (ls : Array Slot), va_P D vwCl (wMo cI a z) H → va_S A s.heap H locs → lv_has ls 9 [(0, .ref (a 0)), (1, .int x1), (2, .int x2), (3, .int x3)] → fX3_bestKind_L19 N z x1 x2 x3 y0 = some r → W p l e rmX3_bestKind s m ([.ref (a 0), .int p1, .int p2, .int p3] : List Value).toArray below meth c H locs 0 0 (MQ below (WQi sz D (wMo cI a σ) (wMo cI a (r.2)) r.1) ([.ref (a 0), .int p1, .int p2, .int p3] : List Value).toArray s 0 0 A) (F0 m 19 ls [.int y0]) := by
    intro  z x1 x2 x3 y0 H locs ls hP hS hl hf
    unfold fX3_bestKind_L19 at hf
    refine lv_istore (lv' := [(4, .int y0), (0, .ref (a 0)), (1, .int x1), (2, .int x2), (3, .int x3)]) hx hb dX3_bestKind_19 hl (by decide) rfl (fun ls hl => ?_)
    refine lv_iload hx hb dX3_bestKind_21 (lv_at hl 0 rfl) ?_
    refine k_if_ne (tgt := 39) hx hb dX3_bestKind_23 (by decide) hf (fun hf => ?_) (fun hf => ?_)
    · exact b39  z x1 x2 x3 y0 H locs ls hP hS (lv_sub hl [1, 2, 3, 4, 0] rfl) hf
    · refine lv_iload_n hx hb dX3_bestKind_26 rfl (lv_at hl 4 rfl) ?_
      refine lv_iconst (v := (0 : Int32)) hx hb dX3_bestKind_27 (by decide) ?_
      refine lv_iconst (v := (1 : Int32)) hx hb dX3_bestKind_28 (by decide) ?_
      refine c_callS (As := [.int x3, .int (0 : Int32), .int (1 : Int32)]) (rest := []) ⟨hx, hb, hml, hown, hts⟩ hf (fun vq hq => mX3_isIn l D cI cJ H.size N x3 (0 : Int32) (1 : Int32) vq hq) (va_cwS 3 hts gX3_bestKind_X3_isIn rfl rfl rfl qX3_isIn ⟨Nat.le_of_ble_eq_true rfl, Nat.le_of_ble_eq_true rfl⟩) hK hP hS hA va_P_nil rfl hl.1 rfl (Nat.le_of_ble_eq_true rfl) dX3_bestKind_29 ⟨Nat.le_refl _, Nat.le_refl _⟩ (fun v10 H locs hP hS hf => ?_)
      refine k_if_ne (tgt := 39) hx hb dX3_bestKind_32 (by decide) hf (fun hf => ?_) (fun hf => ?_)
      · exact b39  z x1 x2 x3 y0 H locs ls hP hS (lv_sub hl [1, 2, 3, 4, 0] rfl) hf
      · refine lv_bipush (v := (-2 : Int32)) hx hb dX3_bestKind_35 (by decide) ?_
        refine lv_istore (lv' := [(4, .int (-2 : Int32)), (0, .ref (a 0)), (1, .int x1), (2, .int x2), (3, .int x3)]) hx hb dX3_bestKind_37 hl (by decide) rfl (fun ls hl => ?_)
        exact b39  z x1 x2 x3 (-2 : Int32) H locs ls hP hS (lv_sub hl [1, 2, 3, 4, 0] rfl) hf
  unfold fX3_bestKind at hf
  refine lv_aload_n hx hb dX3_bestKind_0 rfl (lv_at hl 0 rfl) ?_
  refine lv_iload_n hx hb dX3_bestKind_1 rfl (lv_at hl 1 rfl) ?_
  refine c_callV (As := [.int p1]) (rest := []) ⟨hx, hb, hml, hown, hts⟩ hf (fun vq hq => mX3_isThing l D cI cJ a s.heap.size N σ p1 vq hq) (cwV 1 hts gX3_bestKind_X3_isThing rfl rfl rfl qX3_isThing ⟨Nat.le_of_ble_eq_true rfl, Nat.le_of_ble_eq_true rfl⟩) hK hP hS hA hP 3 rfl rfl rfl rfl hl.1 rfl (Nat.le_of_ble_eq_true rfl) dX3_bestKind_2 ⟨Nat.le_refl _, Nat.le_refl _⟩ (fun v1 H locs hP hS hf => ?_)
  refine k_if_eq (tgt := 18) hx hb dX3_bestKind_5 (by decide) hf (fun hf => ?_) (fun hf => ?_)
  · refine lv_iconst (v := (-1 : Int32)) hx hb dX3_bestKind_18 (by decide) ?_
    exact b19  σ p1 p2 p3 (-1 : Int32) H locs ls hP hS (lv_sub hl [0, 1, 2, 3] rfl) hf
  · refine lv_iload_n hx hb dX3_bestKind_8 rfl (lv_at hl 2 rfl) ?_
    refine lv_iconst (v := (0 : Int32)) hx hb dX3_bestKind_9 (by decide) ?_
    refine lv_bipush (v := (30 : Int32)) hx hb dX3_bestKind_10 (by decide) ?_
    refine c_callS (As := [.int p2, .int (0 : Int32), .int (30 : Int32)]) (rest := []) ⟨hx, hb, hml, hown, hts⟩ hf (fun vq hq => mX3_wrongBy l D cI cJ H.size N p2 (0 : Int32) (30 : Int32) vq hq) (va_cwS 3 hts gX3_bestKind_X3_wrongBy rfl rfl rfl qX3_wrongBy ⟨Nat.le_of_ble_eq_true rfl, Nat.le_of_ble_eq_true rfl⟩) hK hP hS hA va_P_nil rfl hl.1 rfl (Nat.le_of_ble_eq_true rfl) dX3_bestKind_12 ⟨Nat.le_refl _, Nat.le_refl _⟩ (fun v11 H locs hP hS hf => ?_)
    refine lv_goto (tgt := 19) hx hb dX3_bestKind_15 (by decide) ?_
    exact b19  σ p1 p2 p3 v11 H locs ls hP hS (lv_sub hl [0, 1, 2, 3] rfl) hf
def fX3_heaviest_L182 (N : Nat)  (z : St) (x1 : Int32) (x2 : Int32) (x3 : Int32) (x4 : Int32) (y0 : Int32) (y1 : Int32) : Option (Int32 × St) :=
    lt_ ((y1 + y0) : Int32) (fun v5 =>
    if x1 = 0 then some (x2, z)
    else if x1 = (1 : Int32) then some (x3, z)
    else if x1 = (2 : Int32) then some (v5, z)
    else some (x4, z))
def fX3_heaviest_L166 (N : Nat)  (z : St) (x1 : Int32) (x2 : Int32) (x3 : Int32) (x4 : Int32) (y0 : Int32) : Option (Int32 × St) :=
    bo (fX3_isAtDoor N (sb [1] z) (1 : Int32)) (fun v4 =>
    if v4 = 0 then fX3_heaviest_L182 N  z x1 x2 x3 x4 (0 : Int32) y0
    else fX3_heaviest_L182 N  z x1 x2 x3 x4 (2 : Int32) y0)
def fX3_heaviest_L141 (N : Nat) (k28 : St → Int32 → Int32 → Int32 → Int32 → Int32 → Option (Int32 × St)) (z : St) (x1 : Int32) (x2 : Int32) (x3 : Int32) (x5 : Int32) (y0 : Int32) (y1 : Int32) : Option (Int32 × St) :=
    lt_ ((y1 ||| y0) : Int32) (fun v9 =>
    lt_ (x5 + (1 : Int32) : Int32) (fun v10 =>
    k28 z x1 x2 x3 v9 v10))
def fX3_heaviest_L140 (N : Nat) (k28 : St → Int32 → Int32 → Int32 → Int32 → Int32 → Option (Int32 × St)) (z : St) (x1 : Int32) (x2 : Int32) (x3 : Int32) (x5 : Int32) (y0 : Int32) : Option (Int32 × St) :=
    fX3_heaviest_L141 N k28 z x1 x2 x3 x5 (0 : Int32) y0
def fX3_heaviest_L133 (N : Nat) (k28 : St → Int32 → Int32 → Int32 → Int32 → Int32 → Option (Int32 × St)) (z : St) (x1 : Int32) (x2 : Int32) (x3 : Int32) (x5 : Int32) (y0 : Int32) : Option (Int32 × St) :=
    fX3_heaviest_L141 N k28 z x1 x2 x3 x5 ((1 : Int32) <<< (x5 &&& 31)) y0
def fX3_heaviest_L109 (N : Nat) (k28 : St → Int32 → Int32 → Int32 → Int32 → Int32 → Option (Int32 × St)) (z : St) (x1 : Int32) (x2 : Int32) (x3 : Int32) (x4 : Int32) (x5 : Int32) (x6 : Int32) (x7 : Int32) : Option (Int32 × St) :=
    if x1 = (3 : Int32) then if x7 ≤ x6 then fX3_heaviest_L140 N k28 z x1 x2 x3 x5 x4
    else fX3_heaviest_L133 N k28 z x1 x2 x3 x5 x4
    else if x6 ≤ x7 then fX3_heaviest_L140 N k28 z x1 x2 x3 x5 x4
    else fX3_heaviest_L133 N k28 z x1 x2 x3 x5 x4
def fX3_heaviest_L106 (N : Nat) (k28 : St → Int32 → Int32 → Int32 → Int32 → Int32 → Option (Int32 × St)) (z : St) (x1 : Int32) (x2 : Int32) (x4 : Int32) (x5 : Int32) (x6 : Int32) (x7 : Int32) : Option (Int32 × St) :=
    fX3_heaviest_L109 N k28 z x1 x2 x5 x4 x5 x6 x7
def fX3_heaviest_L89 (N : Nat) (k28 : St → Int32 → Int32 → Int32 → Int32 → Int32 → Option (Int32 × St)) (z : St) (x1 : Int32) (x2 : Int32) (x3 : Int32) (x4 : Int32) (x5 : Int32) (x6 : Int32) (x7 : Int32) : Option (Int32 × St) :=
    if x3 < 0 then fX3_heaviest_L106 N k28 z x1 x2 x4 x5 x6 x7
    else bo (fX3_weighs N (sb [1] z) x3) (fun v11 =>
    if v11 ≤ x6 then fX3_heaviest_L109 N k28 z x1 x2 x3 x4 x5 x6 x7
    else fX3_heaviest_L106 N k28 z x1 x2 x4 x5 x6 x7)
def fX3_heaviest_L86 (N : Nat) (k28 : St → Int32 → Int32 → Int32 → Int32 → Int32 → Option (Int32 × St)) (z : St) (x1 : Int32) (x3 : Int32) (x4 : Int32) (x5 : Int32) (x6 : Int32) (x7 : Int32) : Option (Int32 × St) :=
    fX3_heaviest_L89 N k28 z x1 x5 x3 x4 x5 x6 x7
def fX3_heaviest_L28 (N : Nat)  : Nat → St → Int32 → Int32 → Int32 → Int32 → Int32 → Option (Int32 × St)
  | 0, _, _, _, _, _, _ => none
  | n + 1, z, x1, x2, x3, x4, x5 =>
    bo (rdI z 1 38 (0 : Int32)) (fun v2 =>
    if v2 ≤ x5 then bo (fX3_isAtDoor N (sb [1] z) (0 : Int32)) (fun v3 =>
    if v3 = 0 then fX3_heaviest_L166 N  z x1 x2 x3 x4 (0 : Int32)
    else fX3_heaviest_L166 N  z x1 x2 x3 x4 (1 : Int32))
    else bo (fX3_weighs N (sb [1] z) x5) (fun v6 =>
    bo (rdI z 1 38 (1 : Int32)) (fun v7 =>
    bo (fX3_weighsOn N (sb [1] z) x5 (v7 + (1 : Int32))) (fun v8 =>
    if x2 < 0 then fX3_heaviest_L86 N (fX3_heaviest_L28 N n) z x1 x3 x4 x5 v6 v8
    else bo (fX3_weighs N (sb [1] z) x2) (fun v12 =>
    if v6 ≤ v12 then fX3_heaviest_L89 N (fX3_heaviest_L28 N n) z x1 x2 x3 x4 x5 v6 v8
    else fX3_heaviest_L86 N (fX3_heaviest_L28 N n) z x1 x3 x4 x5 v6 v8)))))
def fX3_heaviest (N : Nat) (σ : St) (p1 : Int32) : Option (Int32 × St) :=
    bo (fX3_isIn N p1 (0 : Int32) (4 : Int32)) (fun v1 =>
    if v1 = 0 then bx (fX3_no N σ (-2 : Int32)) (fun uq => uq) (fun v14 z13 =>
    some (v14, z13))
    else fX3_heaviest_L28 N  N σ p1 (-9 : Int32) (-9 : Int32) (0 : Int32) (0 : Int32))
abbrev rmX3_heaviest : Room := { frames := 4, cells := 0, slots := 0, locals := 89 }
theorem qX3_heaviest : yX3_heaviest.cls = RX3 ∧ yX3_heaviest.cls ≠ "java/lang/invoke/MethodHandle" ∧ yX3_heaviest.cls ≠ "java/lang/invoke/VarHandle" ∧ (parseMethodDescriptor yX3_heaviest.desc).map (fun d => d.parameters.length) = some 1 := by decide +kernel
set_option maxHeartbeats 400000 in
set_option maxRecDepth 100000 in
theorem mX3_heaviest (l : Launch) (D : va_G) (cI cJ : ClassId) (a : Nat → Nat) (sz N : Nat) (σ : St) (p1 : Int32) (r : (Int32 × St)) (hf : fX3_heaviest N σ p1 = some r) : Met l yX3_heaviest wsX3_heaviest rmX3_heaviest (WPre ([.ref (a 0), .int p1] : List Value) sz D (tyIJ cI cJ) (wMo cI a σ)) (WQi sz D (wMo cI a σ) (wMo cI a (r.2)) r.1) 0 0 (va_A (wMo cI a σ) sz) := by
  refine W_start (cc := cX3_heaviest) (maxL := 8) (ret := (some .int)) (by decide) rfl (Nat.le_of_ble_eq_true rfl) (fun p e s m below meth c ls A hx hb hr hml hown hts hlk hP hK hS hA hD0 hAe hl => ?_)
  have hD : ∀ z, va_D A ((fun z => wMo cI a z) z) := fun z => hD0.ad rfl
  have hown : s.vm.findClass RX3 = some m.cls := hown
  have hl : lv_has ls 8 [(0, .ref (a 0)), (1, .int p1)] := hl
  have ln1 := hts (Cond.fieldLink RX3 9 "HoistsAreSharedModel" "s" "[I") (List.mem_of_getElem? (i := 1) rfl)
  have inX3 : ∀ w ∈ u_ws RX3 TX3 13, w ∈ wsX3_heaviest := fun _ h => List.mem_cons_of_mem _ (List.mem_append_right _ h)
  have b182 : ∀  (z : St) (x1 : Int32) (x2 : Int32) (x3 : Int32) (x4 : Int32) (y0 : Int32) (y1 : Int32) (H : Heap) (locs : List Loc) (ls : Array Slot), va_P D vwCl (wMo cI a z) H → va_S A s.heap H locs → lv_has ls 8 [(1, .int x1), (2, .int x2), (3, .int x3), (4, .int x4)] → fX3_heaviest_L182 N z x1 x2 x3 x4 y0 y1 = some r → W p l e rmX3_heaviest s m ([.ref (a 0), .int p1] : List Value).toArray below meth c H locs 0 0 (MQ below (WQi sz D (wMo cI a σ) (wMo cI a (r.2)) r.1) ([.ref (a 0), .int p1] : List Value).toArray s 0 0 A) (F0 m 182 ls [.int y0, .int y1]) := by
    intro  z x1 x2 x3 x4 y0 y1 H locs ls hP hS hl hf
    unfold fX3_heaviest_L182 at hf
    refine lv_iadd hx hb dX3_heaviest_182 ?_
    refine k_let hf (fun v5 hf => ?_)
    refine lv_istore (lv' := [(5, .int v5), (1, .int x1), (2, .int x2), (3, .int x3), (4, .int x4)]) hx hb dX3_heaviest_183 hl (by decide) rfl (fun ls hl => ?_)
    refine lv_iload_n hx hb dX3_heaviest_185 rfl (lv_at hl 1 rfl) ?_
    refine k_if_ne (tgt := 193) hx hb dX3_heaviest_186 (by decide) hf (fun hf => ?_) (fun hf => ?_)
    · refine lv_iload_n hx hb dX3_heaviest_193 rfl (lv_at hl 1 rfl) ?_
      refine lv_iconst (v := (1 : Int32)) hx hb dX3_heaviest_194 (by decide) ?_
      refine k_icmp_ne (tgt := 202) hx hb dX3_heaviest_195 (by decide) hf (fun hf => ?_) (fun hf => ?_)
      · refine lv_iload_n hx hb dX3_heaviest_202 rfl (lv_at hl 1 rfl) ?_
        refine lv_iconst (v := (2 : Int32)) hx hb dX3_heaviest_203 (by decide) ?_
        refine k_icmp_ne (tgt := 212) hx hb dX3_heaviest_204 (by decide) hf (fun hf => ?_) (fun hf => ?_)
        · refine lv_iload hx hb dX3_heaviest_212 (lv_at hl 4 rfl) ?_
          exact W_iret (fun z => wMo cI a z) hx hb hr hlk hP hS hAe hf dX3_heaviest_214
        · refine lv_iload hx hb dX3_heaviest_207 (lv_at hl 0 rfl) ?_
          refine lv_goto (tgt := 214) hx hb dX3_heaviest_209 (by decide) ?_
          exact W_iret (fun z => wMo cI a z) hx hb hr hlk hP hS hAe hf dX3_heaviest_214
      · refine lv_iload_n hx hb dX3_heaviest_198 rfl (lv_at hl 3 rfl) ?_
        refine lv_goto (tgt := 214) hx hb dX3_heaviest_199 (by decide) ?_
        exact W_iret (fun z => wMo cI a z) hx hb hr hlk hP hS hAe hf dX3_heaviest_214
    · refine lv_iload_n hx hb dX3_heaviest_189 rfl (lv_at hl 2 rfl) ?_
      refine lv_goto (tgt := 214) hx hb dX3_heaviest_190 (by decide) ?_
      exact W_iret (fun z => wMo cI a z) hx hb hr hlk hP hS hAe hf dX3_heaviest_214
  have b166 : ∀  (z : St) (x1 : Int32) (x2 : Int32) (x3 : Int32) (x4 : Int32) (y0 : Int32) (H : Heap) (locs : List Loc) (ls : Array Slot), va_P D vwCl (wMo cI a z) H → va_S A s.heap H locs → lv_has ls 8 [(0, .ref (a 0)), (1, .int x1), (2, .int x2), (3, .int x3), (4, .int x4)] → fX3_heaviest_L166 N z x1 x2 x3 x4 y0 = some r → W p l e rmX3_heaviest s m ([.ref (a 0), .int p1] : List Value).toArray below meth c H locs 0 0 (MQ below (WQi sz D (wMo cI a σ) (wMo cI a (r.2)) r.1) ([.ref (a 0), .int p1] : List Value).toArray s 0 0 A) (F0 m 166 ls [.int y0]) := by
    intro  z x1 x2 x3 x4 y0 H locs ls hP hS hl hf
    unfold fX3_heaviest_L166 at hf
    refine lv_aload_n hx hb dX3_heaviest_166 rfl (lv_at hl 0 rfl) ?_
    refine va_get (D := D) (ci := 3) (v := .ref (a 1)) (C := RX3) (T := TX3) (N := 13) hx hb hts inX3 hown hK hP 0 rfl rfl 0 (by decide) ln1 (fun _ h9 => h9) rfl dX3_heaviest_167 ?_
    refine lv_iconst (v := (1 : Int32)) hx hb dX3_heaviest_170 (by decide) ?_
    refine c_callS (As := [.ref ((sb [1] a) 0), .int (1 : Int32)]) (rest := [.int y0]) ⟨hx, hb, hml, hown, hts⟩ hf (fun vq hq => mX3_isAtDoor l D cI cJ (sb [1] a) H.size N (sb [1] z) (1 : Int32) vq hq) (va_cwS 2 hts gX3_heaviest_X3_isAtDoor rfl rfl rfl qX3_isAtDoor ⟨Nat.le_of_ble_eq_true rfl, Nat.le_of_ble_eq_true rfl⟩) hK hP hS hA (cmr_Mo_Ar_1 D cI a z hP) rfl hl.1 rfl (Nat.le_of_ble_eq_true rfl) dX3_heaviest_171 ⟨Nat.le_refl _, Nat.le_refl _⟩ (fun v4 H locs hP hS hf => ?_)
    refine k_if_eq (tgt := 181) hx hb dX3_heaviest_174 (by decide) hf (fun hf => ?_) (fun hf => ?_)
    · refine lv_iconst (v := (0 : Int32)) hx hb dX3_heaviest_181 (by decide) ?_
      exact b182  z x1 x2 x3 x4 (0 : Int32) y0 H locs ls hP hS (lv_sub hl [1, 2, 3, 4] rfl) hf
    · refine lv_iconst (v := (2 : Int32)) hx hb dX3_heaviest_177 (by decide) ?_
      refine lv_goto (tgt := 182) hx hb dX3_heaviest_178 (by decide) ?_
      exact b182  z x1 x2 x3 x4 (2 : Int32) y0 H locs ls hP hS (lv_sub hl [1, 2, 3, 4] rfl) hf
  have b141 : ∀ (k28 : St → Int32 → Int32 → Int32 → Int32 → Int32 → Option (Int32 × St)) (hk28 : (∀ (z : St) (x1 : Int32) (x2 : Int32) (x3 : Int32) (x4 : Int32) (x5 : Int32) (H : Heap) (locs : List Loc) (ls : Array Slot), va_P D vwCl (wMo cI a z) H → va_S A s.heap H locs → lv_has ls 8 [(0, .ref (a 0)), (1, .int x1), (2, .int x2), (3, .int x3), (4, .int x4), (5, .int x5)] → k28 z x1 x2 x3 x4 x5 = some r → W p l e rmX3_heaviest s m ([.ref (a 0), .int p1] : List Value).toArray below meth c H locs 0 0 (MQ below (WQi sz D (wMo cI a σ) (wMo cI a (r.2)) r.1) ([.ref (a 0), .int p1] : List Value).toArray s 0 0 A) (F0 m 28 ls []))) (z : St) (x1 : Int32) (x2 : Int32) (x3 : Int32) (x5 : Int32) (y0 : Int32) (y1 : Int32) (H : Heap) (locs : List Loc) (ls : Array Slot), va_P D vwCl (wMo cI a z) H → va_S A s.heap H locs → lv_has ls 8 [(0, .ref (a 0)), (1, .int x1), (2, .int x2), (3, .int x3), (5, .int x5)] → fX3_heaviest_L141 N k28 z x1 x2 x3 x5 y0 y1 = some r → W p l e rmX3_heaviest s m ([.ref (a 0), .int p1] : List Value).toArray below meth c H locs 0 0 (MQ below (WQi sz D (wMo cI a σ) (wMo cI a (r.2)) r.1) ([.ref (a 0), .int p1] : List Value).toArray s 0 0 A) (F0 m 141 ls [.int y0, .int y1]) := by
    intro k28 hk28 z x1 x2 x3 x5 y0 y1 H locs ls hP hS hl hf
    unfold fX3_heaviest_L141 at hf
    refine lv_ior hx hb dX3_heaviest_141 ?_
    refine k_let hf (fun v9 hf => ?_)
    refine lv_istore (lv' := [(4, .int v9), (0, .ref (a 0)), (1, .int x1), (2, .int x2), (3, .int x3), (5, .int x5)]) hx hb dX3_heaviest_142 hl (by decide) rfl (fun ls hl => ?_)
    refine k_iinc (d := (1 : Int32)) (lv' := fun v10 => [(5, .int v10), (4, .int v9), (0, .ref (a 0)), (1, .int x1), (2, .int x2), (3, .int x3)]) hx hb dX3_heaviest_144 hl (k := 5) rfl (by decide) (by decide) (fun _ => rfl) hf (fun v10 ls hl hf => ?_)
    refine lv_goto (tgt := 28) hx hb dX3_heaviest_147 (by decide) ?_
    exact hk28 z x1 x2 x3 v9 v10 H locs ls hP hS (lv_sub hl [2, 3, 4, 5, 1, 0] rfl) hf
  have b140 : ∀ (k28 : St → Int32 → Int32 → Int32 → Int32 → Int32 → Option (Int32 × St)) (hk28 : (∀ (z : St) (x1 : Int32) (x2 : Int32) (x3 : Int32) (x4 : Int32) (x5 : Int32) (H : Heap) (locs : List Loc) (ls : Array Slot), va_P D vwCl (wMo cI a z) H → va_S A s.heap H locs → lv_has ls 8 [(0, .ref (a 0)), (1, .int x1), (2, .int x2), (3, .int x3), (4, .int x4), (5, .int x5)] → k28 z x1 x2 x3 x4 x5 = some r → W p l e rmX3_heaviest s m ([.ref (a 0), .int p1] : List Value).toArray below meth c H locs 0 0 (MQ below (WQi sz D (wMo cI a σ) (wMo cI a (r.2)) r.1) ([.ref (a 0), .int p1] : List Value).toArray s 0 0 A) (F0 m 28 ls []))) (z : St) (x1 : Int32) (x2 : Int32) (x3 : Int32) (x5 : Int32) (y0 : Int32) (H : Heap) (locs : List Loc) (ls : Array Slot), va_P D vwCl (wMo cI a z) H → va_S A s.heap H locs → lv_has ls 8 [(0, .ref (a 0)), (1, .int x1), (2, .int x2), (3, .int x3), (5, .int x5)] → fX3_heaviest_L140 N k28 z x1 x2 x3 x5 y0 = some r → W p l e rmX3_heaviest s m ([.ref (a 0), .int p1] : List Value).toArray below meth c H locs 0 0 (MQ below (WQi sz D (wMo cI a σ) (wMo cI a (r.2)) r.1) ([.ref (a 0), .int p1] : List Value).toArray s 0 0 A) (F0 m 140 ls [.int y0]) := by
    intro k28 hk28 z x1 x2 x3 x5 y0 H locs ls hP hS hl hf
    unfold fX3_heaviest_L140 at hf
    refine lv_iconst (v := (0 : Int32)) hx hb dX3_heaviest_140 (by decide) ?_
    exact b141 k28 hk28 z x1 x2 x3 x5 (0 : Int32) y0 H locs ls hP hS (lv_sub hl [0, 1, 2, 3, 4] rfl) hf
  have b133 : ∀ (k28 : St → Int32 → Int32 → Int32 → Int32 → Int32 → Option (Int32 × St)) (hk28 : (∀ (z : St) (x1 : Int32) (x2 : Int32) (x3 : Int32) (x4 : Int32) (x5 : Int32) (H : Heap) (locs : List Loc) (ls : Array Slot), va_P D vwCl (wMo cI a z) H → va_S A s.heap H locs → lv_has ls 8 [(0, .ref (a 0)), (1, .int x1), (2, .int x2), (3, .int x3), (4, .int x4), (5, .int x5)] → k28 z x1 x2 x3 x4 x5 = some r → W p l e rmX3_heaviest s m ([.ref (a 0), .int p1] : List Value).toArray below meth c H locs 0 0 (MQ below (WQi sz D (wMo cI a σ) (wMo cI a (r.2)) r.1) ([.ref (a 0), .int p1] : List Value).toArray s 0 0 A) (F0 m 28 ls []))) (z : St) (x1 : Int32) (x2 : Int32) (x3 : Int32) (x5 : Int32) (y0 : Int32) (H : Heap) (locs : List Loc) (ls : Array Slot), va_P D vwCl (wMo cI a z) H → va_S A s.heap H locs → lv_has ls 8 [(0, .ref (a 0)), (1, .int x1), (2, .int x2), (3, .int x3), (5, .int x5)] → fX3_heaviest_L133 N k28 z x1 x2 x3 x5 y0 = some r → W p l e rmX3_heaviest s m ([.ref (a 0), .int p1] : List Value).toArray below meth c H locs 0 0 (MQ below (WQi sz D (wMo cI a σ) (wMo cI a (r.2)) r.1) ([.ref (a 0), .int p1] : List Value).toArray s 0 0 A) (F0 m 133 ls [.int y0]) := by
    intro k28 hk28 z x1 x2 x3 x5 y0 H locs ls hP hS hl hf
    unfold fX3_heaviest_L133 at hf
    refine lv_iconst (v := (1 : Int32)) hx hb dX3_heaviest_133 (by decide) ?_
    refine lv_iload hx hb dX3_heaviest_134 (lv_at hl 4 rfl) ?_
    refine lv_ishl hx hb dX3_heaviest_136 ?_
    refine lv_goto (tgt := 141) hx hb dX3_heaviest_137 (by decide) ?_
    exact b141 k28 hk28 z x1 x2 x3 x5 ((1 : Int32) <<< (x5 &&& 31)) y0 H locs ls hP hS (lv_sub hl [0, 1, 2, 3, 4] rfl) hf
  have b109 : ∀ (k28 : St → Int32 → Int32 → Int32 → Int32 → Int32 → Option (Int32 × St)) (hk28 : (∀ (z : St) (x1 : Int32) (x2 : Int32) (x3 : Int32) (x4 : Int32) (x5 : Int32) (H : Heap) (locs : List Loc) (ls : Array Slot), va_P D vwCl (wMo cI a z) H → va_S A s.heap H locs → lv_has ls 8 [(0, .ref (a 0)), (1, .int x1), (2, .int x2), (3, .int x3), (4, .int x4), (5, .int x5)] → k28 z x1 x2 x3 x4 x5 = some r → W p l e rmX3_heaviest s m ([.ref (a 0), .int p1] : List Value).toArray below meth c H locs 0 0 (MQ below (WQi sz D (wMo cI a σ) (wMo cI a (r.2)) r.1) ([.ref (a 0), .int p1] : List Value).toArray s 0 0 A) (F0 m 28 ls []))) (z : St) (x1 : Int32) (x2 : Int32) (x3 : Int32) (x4 : Int32) (x5 : Int32) (x6 : Int32) (x7 : Int32) (H : Heap) (locs : List Loc) (ls : Array Slot), va_P D vwCl (wMo cI a z) H → va_S A s.heap H locs → lv_has ls 8 [(0, .ref (a 0)), (1, .int x1), (2, .int x2), (3, .int x3), (4, .int x4), (5, .int x5), (6, .int x6), (7, .int x7)] → fX3_heaviest_L109 N k28 z x1 x2 x3 x4 x5 x6 x7 = some r → W p l e rmX3_heaviest s m ([.ref (a 0), .int p1] : List Value).toArray below meth c H locs 0 0 (MQ below (WQi sz D (wMo cI a σ) (wMo cI a (r.2)) r.1) ([.ref (a 0), .int p1] : List Value).toArray s 0 0 A) (F0 m 109 ls []) := by
    intro k28 hk28 z x1 x2 x3 x4 x5 x6 x7 H locs ls hP hS hl hf
    unfold fX3_heaviest_L109 at hf
    refine lv_iload hx hb dX3_heaviest_109 (lv_at hl 4 rfl) ?_
    refine lv_iload_n hx hb dX3_heaviest_111 rfl (lv_at hl 1 rfl) ?_
    refine lv_iconst (v := (3 : Int32)) hx hb dX3_heaviest_112 (by decide) ?_
    refine k_icmp_ne (tgt := 126) hx hb dX3_heaviest_113 (by decide) hf (fun hf => ?_) (fun hf => ?_)
    · refine lv_iload hx hb dX3_heaviest_126 (lv_at hl 7 rfl) ?_
      refine lv_iload hx hb dX3_heaviest_128 (lv_at hl 6 rfl) ?_
      refine k_icmp_ge (tgt := 140) hx hb dX3_heaviest_130 (by decide) hf (fun hf => ?_) (fun hf => ?_)
      · exact b140 k28 hk28 z x1 x2 x3 x5 x4 H locs ls hP hS (lv_sub hl [0, 1, 2, 3, 5] rfl) hf
      · exact b133 k28 hk28 z x1 x2 x3 x5 x4 H locs ls hP hS (lv_sub hl [0, 1, 2, 3, 5] rfl) hf
    · refine lv_iload hx hb dX3_heaviest_116 (lv_at hl 7 rfl) ?_
      refine lv_iload hx hb dX3_heaviest_118 (lv_at hl 6 rfl) ?_
      refine k_icmp_le (tgt := 140) hx hb dX3_heaviest_120 (by decide) hf (fun hf => ?_) (fun hf => ?_)
      · exact b140 k28 hk28 z x1 x2 x3 x5 x4 H locs ls hP hS (lv_sub hl [0, 1, 2, 3, 5] rfl) hf
      · refine lv_goto (tgt := 133) hx hb dX3_heaviest_123 (by decide) ?_
        exact b133 k28 hk28 z x1 x2 x3 x5 x4 H locs ls hP hS (lv_sub hl [0, 1, 2, 3, 5] rfl) hf
  have b106 : ∀ (k28 : St → Int32 → Int32 → Int32 → Int32 → Int32 → Option (Int32 × St)) (hk28 : (∀ (z : St) (x1 : Int32) (x2 : Int32) (x3 : Int32) (x4 : Int32) (x5 : Int32) (H : Heap) (locs : List Loc) (ls : Array Slot), va_P D vwCl (wMo cI a z) H → va_S A s.heap H locs → lv_has ls 8 [(0, .ref (a 0)), (1, .int x1), (2, .int x2), (3, .int x3), (4, .int x4), (5, .int x5)] → k28 z x1 x2 x3 x4 x5 = some r → W p l e rmX3_heaviest s m ([.ref (a 0), .int p1] : List Value).toArray below meth c H locs 0 0 (MQ below (WQi sz D (wMo cI a σ) (wMo cI a (r.2)) r.1) ([.ref (a 0), .int p1] : List Value).toArray s 0 0 A) (F0 m 28 ls []))) (z : St) (x1 : Int32) (x2 : Int32) (x4 : Int32) (x5 : Int32) (x6 : Int32) (x7 : Int32) (H : Heap) (locs : List Loc) (ls : Array Slot), va_P D vwCl (wMo cI a z) H → va_S A s.heap H locs → lv_has ls 8 [(0, .ref (a 0)), (1, .int x1), (2, .int x2), (4, .int x4), (5, .int x5), (6, .int x6), (7, .int x7)] → fX3_heaviest_L106 N k28 z x1 x2 x4 x5 x6 x7 = some r → W p l e rmX3_heaviest s m ([.ref (a 0), .int p1] : List Value).toArray below meth c H locs 0 0 (MQ below (WQi sz D (wMo cI a σ) (wMo cI a (r.2)) r.1) ([.ref (a 0), .int p1] : List Value).toArray s 0 0 A) (F0 m 106 ls []) := by
    intro k28 hk28 z x1 x2 x4 x5 x6 x7 H locs ls hP hS hl hf
    unfold fX3_heaviest_L106 at hf
    refine lv_iload hx hb dX3_heaviest_106 (lv_at hl 4 rfl) ?_
    refine lv_istore_n (lv' := [(3, .int x5), (0, .ref (a 0)), (1, .int x1), (2, .int x2), (4, .int x4), (5, .int x5), (6, .int x6), (7, .int x7)]) hx hb dX3_heaviest_108 rfl hl (by decide) rfl (fun ls hl => ?_)
    exact b109 k28 hk28 z x1 x2 x5 x4 x5 x6 x7 H locs ls hP hS (lv_sub hl [1, 2, 3, 0, 4, 5, 6, 7] rfl) hf
  have b89 : ∀ (k28 : St → Int32 → Int32 → Int32 → Int32 → Int32 → Option (Int32 × St)) (hk28 : (∀ (z : St) (x1 : Int32) (x2 : Int32) (x3 : Int32) (x4 : Int32) (x5 : Int32) (H : Heap) (locs : List Loc) (ls : Array Slot), va_P D vwCl (wMo cI a z) H → va_S A s.heap H locs → lv_has ls 8 [(0, .ref (a 0)), (1, .int x1), (2, .int x2), (3, .int x3), (4, .int x4), (5, .int x5)] → k28 z x1 x2 x3 x4 x5 = some r → W p l e rmX3_heaviest s m ([.ref (a 0), .int p1] : List Value).toArray below meth c H locs 0 0 (MQ below (WQi sz D (wMo cI a σ) (wMo cI a (r.2)) r.1) ([.ref (a 0), .int p1] : List Value).toArray s 0 0 A) (F0 m 28 ls []))) (z : St) (x1 : Int32) (x2 : Int32) (x3 : Int32) (x4 : Int32) (x5 : Int32) (x6 : Int32) (x7 : Int32) (H : Heap) (locs : List Loc) (ls : Array Slot), va_P D vwCl (wMo cI a z) H → va_S A s.heap H locs → lv_has ls 8 [(0, .ref (a 0)), (1, .int x1), (2, .int x2), (3, .int x3), (4, .int x4), (5, .int x5), (6, .int x6), (7, .int x7)] → fX3_heaviest_L89 N k28 z x1 x2 x3 x4 x5 x6 x7 = some r → W p l e rmX3_heaviest s m ([.ref (a 0), .int p1] : List Value).toArray below meth c H locs 0 0 (MQ below (WQi sz D (wMo cI a σ) (wMo cI a (r.2)) r.1) ([.ref (a 0), .int p1] : List Value).toArray s 0 0 A) (F0 m 89 ls []) := by
    intro k28 hk28 z x1 x2 x3 x4 x5 x6 x7 H locs ls hP hS hl hf
    unfold fX3_heaviest_L89 at hf
    refine lv_iload_n hx hb dX3_heaviest_89 rfl (lv_at hl 3 rfl) ?_
    refine k_if_lt (tgt := 106) hx hb dX3_heaviest_90 (by decide) hf (fun hf => ?_) (fun hf => ?_)
    · exact b106 k28 hk28 z x1 x2 x4 x5 x6 x7 H locs ls hP hS (lv_sub hl [0, 1, 2, 4, 5, 6, 7] rfl) hf
    · refine lv_iload hx hb dX3_heaviest_93 (lv_at hl 6 rfl) ?_
      refine lv_aload_n hx hb dX3_heaviest_95 rfl (lv_at hl 0 rfl) ?_
      refine va_get (D := D) (ci := 3) (v := .ref (a 1)) (C := RX3) (T := TX3) (N := 13) hx hb hts inX3 hown hK hP 0 rfl rfl 0 (by decide) ln1 (fun _ h9 => h9) rfl dX3_heaviest_96 ?_
      refine lv_iload_n hx hb dX3_heaviest_99 rfl (lv_at hl 3 rfl) ?_
      refine c_callS (As := [.ref ((sb [1] a) 0), .int x3]) (rest := [.int x6]) ⟨hx, hb, hml, hown, hts⟩ hf (fun vq hq => mX3_weighs l D cI cJ (sb [1] a) H.size N (sb [1] z) x3 vq hq) (va_cwS 2 hts gX3_heaviest_X3_weighs rfl rfl rfl qX3_weighs ⟨Nat.le_of_ble_eq_true rfl, Nat.le_of_ble_eq_true rfl⟩) hK hP hS hA (cmr_Mo_Ar_1 D cI a z hP) rfl hl.1 rfl (Nat.le_of_ble_eq_true rfl) dX3_heaviest_100 ⟨Nat.le_refl _, Nat.le_refl _⟩ (fun v11 H locs hP hS hf => ?_)
      refine k_icmp_ge (tgt := 109) hx hb dX3_heaviest_103 (by decide) hf (fun hf => ?_) (fun hf => ?_)
      · exact b109 k28 hk28 z x1 x2 x3 x4 x5 x6 x7 H locs ls hP hS (lv_sub hl [0, 1, 2, 3, 4, 5, 6, 7] rfl) hf
      · exact b106 k28 hk28 z x1 x2 x4 x5 x6 x7 H locs ls hP hS (lv_sub hl [0, 1, 2, 4, 5, 6, 7] rfl) hf
  have b86 : ∀ (k28 : St → Int32 → Int32 → Int32 → Int32 → Int32 → Option (Int32 × St)) (hk28 : (∀ (z : St) (x1 : Int32) (x2 : Int32) (x3 : Int32) (x4 : Int32) (x5 : Int32) (H : Heap) (locs : List Loc) (ls : Array Slot), va_P D vwCl (wMo cI a z) H → va_S A s.heap H locs → lv_has ls 8 [(0, .ref (a 0)), (1, .int x1), (2, .int x2), (3, .int x3), (4, .int x4), (5, .int x5)] → k28 z x1 x2 x3 x4 x5 = some r → W p l e rmX3_heaviest s m ([.ref (a 0), .int p1] : List Value).toArray below meth c H locs 0 0 (MQ below (WQi sz D (wMo cI a σ) (wMo cI a (r.2)) r.1) ([.ref (a 0), .int p1] : List Value).toArray s 0 0 A) (F0 m 28 ls []))) (z : St) (x1 : Int32) (x3 : Int32) (x4 : Int32) (x5 : Int32) (x6 : Int32) (x7 : Int32) (H : Heap) (locs : List Loc) (ls : Array Slot), va_P D vwCl (wMo cI a z) H → va_S A s.heap H locs → lv_has ls 8 [(0, .ref (a 0)), (1, .int x1), (3, .int x3), (4, .int x4), (5, .int x5), (6, .int x6), (7, .int x7)] → fX3_heaviest_L86 N k28 z x1 x3 x4 x5 x6 x7 = some r → W p l e rmX3_heaviest s m ([.ref (a 0), .int p1] : List Value).toArray below meth c H locs 0 0 (MQ below (WQi sz D (wMo cI a σ) (wMo cI a (r.2)) r.1) ([.ref (a 0), .int p1] : List Value).toArray s 0 0 A) (F0 m 86 ls []) := by
    intro k28 hk28 z x1 x3 x4 x5 x6 x7 H locs ls hP hS hl hf
    unfold fX3_heaviest_L86 at hf
    refine lv_iload hx hb dX3_heaviest_86 (lv_at hl 4 rfl) ?_
    refine lv_istore_n (lv' := [(2, .int x5), (0, .ref (a 0)), (1, .int x1), (3, .int x3), (4, .int x4), (5, .int x5), (6, .int x6), (7, .int x7)]) hx hb dX3_heaviest_88 rfl hl (by decide) rfl (fun ls hl => ?_)
    exact b89 k28 hk28 z x1 x5 x3 x4 x5 x6 x7 H locs ls hP hS (lv_sub hl [1, 2, 0, 3, 4, 5, 6, 7] rfl) hf
  have b28 : ∀  (n : Nat) (z : St) (x1 : Int32) (x2 : Int32) (x3 : Int32) (x4 : Int32) (x5 : Int32) (H : Heap) (locs : List Loc) (ls : Array Slot), va_P D vwCl (wMo cI a z) H → va_S A s.heap H locs → lv_has ls 8 [(0, .ref (a 0)), (1, .int x1), (2, .int x2), (3, .int x3), (4, .int x4), (5, .int x5)] → fX3_heaviest_L28 N n z x1 x2 x3 x4 x5 = some r → W p l e rmX3_heaviest s m ([.ref (a 0), .int p1] : List Value).toArray below meth c H locs 0 0 (MQ below (WQi sz D (wMo cI a σ) (wMo cI a (r.2)) r.1) ([.ref (a 0), .int p1] : List Value).toArray s 0 0 A) (F0 m 28 ls []) := by
    intro n
    induction n with
    | zero => intro z x1 x2 x3 x4 x5 H locs ls hP hS hl hf; cases hf
    | succ n ih =>
      intro z x1 x2 x3 x4 x5 H locs ls hP hS hl hf
      rw [fX3_heaviest_L28] at hf
      refine lv_iload hx hb dX3_heaviest_28 (lv_at hl 5 rfl) ?_
      refine lv_aload_n hx hb dX3_heaviest_30 rfl (lv_at hl 0 rfl) ?_
      refine va_get (D := D) (ci := 3) (v := .ref (a 1)) (C := RX3) (T := TX3) (N := 13) hx hb hts inX3 hown hK hP 0 rfl rfl 0 (by decide) ln1 (fun _ h9 => h9) rfl dX3_heaviest_31 ?_
      refine lv_iconst (v := (0 : Int32)) hx hb dX3_heaviest_34 (by decide) ?_
      refine k_iald hx hb hK hP 1 0 hf rfl rfl dX3_heaviest_35 (fun v2 hf => ?_)
      refine k_icmp_ge (tgt := 150) hx hb dX3_heaviest_36 (by decide) hf (fun hf => ?_) (fun hf => ?_)
      · refine lv_aload_n hx hb dX3_heaviest_150 rfl (lv_at hl 0 rfl) ?_
        refine va_get (D := D) (ci := 3) (v := .ref (a 1)) (C := RX3) (T := TX3) (N := 13) hx hb hts inX3 hown hK hP 0 rfl rfl 0 (by decide) ln1 (fun _ h9 => h9) rfl dX3_heaviest_151 ?_
        refine lv_iconst (v := (0 : Int32)) hx hb dX3_heaviest_154 (by decide) ?_
        refine c_callS (As := [.ref ((sb [1] a) 0), .int (0 : Int32)]) (rest := []) ⟨hx, hb, hml, hown, hts⟩ hf (fun vq hq => mX3_isAtDoor l D cI cJ (sb [1] a) H.size N (sb [1] z) (0 : Int32) vq hq) (va_cwS 2 hts gX3_heaviest_X3_isAtDoor rfl rfl rfl qX3_isAtDoor ⟨Nat.le_of_ble_eq_true rfl, Nat.le_of_ble_eq_true rfl⟩) hK hP hS hA (cmr_Mo_Ar_1 D cI a z hP) rfl hl.1 rfl (Nat.le_of_ble_eq_true rfl) dX3_heaviest_155 ⟨Nat.le_refl _, Nat.le_refl _⟩ (fun v3 H locs hP hS hf => ?_)
        refine k_if_eq (tgt := 165) hx hb dX3_heaviest_158 (by decide) hf (fun hf => ?_) (fun hf => ?_)
        · refine lv_iconst (v := (0 : Int32)) hx hb dX3_heaviest_165 (by decide) ?_
          exact b166  z x1 x2 x3 x4 (0 : Int32) H locs ls hP hS (lv_sub hl [0, 1, 2, 3, 4] rfl) hf
        · refine lv_iconst (v := (1 : Int32)) hx hb dX3_heaviest_161 (by decide) ?_
          refine lv_goto (tgt := 166) hx hb dX3_heaviest_162 (by decide) ?_
          exact b166  z x1 x2 x3 x4 (1 : Int32) H locs ls hP hS (lv_sub hl [0, 1, 2, 3, 4] rfl) hf
      · refine lv_aload_n hx hb dX3_heaviest_39 rfl (lv_at hl 0 rfl) ?_
        refine va_get (D := D) (ci := 3) (v := .ref (a 1)) (C := RX3) (T := TX3) (N := 13) hx hb hts inX3 hown hK hP 0 rfl rfl 0 (by decide) ln1 (fun _ h9 => h9) rfl dX3_heaviest_40 ?_
        refine lv_iload hx hb dX3_heaviest_43 (lv_at hl 5 rfl) ?_
        refine c_callS (As := [.ref ((sb [1] a) 0), .int x5]) (rest := []) ⟨hx, hb, hml, hown, hts⟩ hf (fun vq hq => mX3_weighs l D cI cJ (sb [1] a) H.size N (sb [1] z) x5 vq hq) (va_cwS 2 hts gX3_heaviest_X3_weighs rfl rfl rfl qX3_weighs ⟨Nat.le_of_ble_eq_true rfl, Nat.le_of_ble_eq_true rfl⟩) hK hP hS hA (cmr_Mo_Ar_1 D cI a z hP) rfl hl.1 rfl (Nat.le_of_ble_eq_true rfl) dX3_heaviest_45 ⟨Nat.le_refl _, Nat.le_refl _⟩ (fun v6 H locs hP hS hf => ?_)
        refine lv_istore (lv' := [(6, .int v6), (0, .ref (a 0)), (1, .int x1), (2, .int x2), (3, .int x3), (4, .int x4), (5, .int x5)]) hx hb dX3_heaviest_48 hl (by decide) rfl (fun ls hl => ?_)
        refine lv_aload_n hx hb dX3_heaviest_50 rfl (lv_at hl 1 rfl) ?_
        refine va_get (D := D) (ci := 3) (v := .ref (a 1)) (C := RX3) (T := TX3) (N := 13) hx hb hts inX3 hown hK hP 0 rfl rfl 0 (by decide) ln1 (fun _ h9 => h9) rfl dX3_heaviest_51 ?_
        refine lv_iload hx hb dX3_heaviest_54 (lv_at hl 6 rfl) ?_
        refine lv_aload_n hx hb dX3_heaviest_56 rfl (lv_at hl 1 rfl) ?_
        refine va_get (D := D) (ci := 3) (v := .ref (a 1)) (C := RX3) (T := TX3) (N := 13) hx hb hts inX3 hown hK hP 0 rfl rfl 0 (by decide) ln1 (fun _ h9 => h9) rfl dX3_heaviest_57 ?_
        refine lv_iconst (v := (1 : Int32)) hx hb dX3_heaviest_60 (by decide) ?_
        refine k_iald hx hb hK hP 1 0 hf rfl rfl dX3_heaviest_61 (fun v7 hf => ?_)
        refine lv_iconst (v := (1 : Int32)) hx hb dX3_heaviest_62 (by decide) ?_
        refine lv_iadd hx hb dX3_heaviest_63 ?_
        refine c_callS (As := [.ref ((sb [1] a) 0), .int x5, .int (v7 + (1 : Int32))]) (rest := []) ⟨hx, hb, hml, hown, hts⟩ hf (fun vq hq => mX3_weighsOn l D cI cJ (sb [1] a) H.size N (sb [1] z) x5 (v7 + (1 : Int32)) vq hq) (va_cwS 3 hts gX3_heaviest_X3_weighsOn rfl rfl rfl qX3_weighsOn ⟨Nat.le_of_ble_eq_true rfl, Nat.le_of_ble_eq_true rfl⟩) hK hP hS hA (cmr_Mo_Ar_1 D cI a z hP) rfl hl.1 rfl (Nat.le_of_ble_eq_true rfl) dX3_heaviest_64 ⟨Nat.le_refl _, Nat.le_refl _⟩ (fun v8 H locs hP hS hf => ?_)
        refine lv_istore (lv' := [(7, .int v8), (6, .int v6), (0, .ref (a 0)), (1, .int x1), (2, .int x2), (3, .int x3), (4, .int x4), (5, .int x5)]) hx hb dX3_heaviest_67 hl (by decide) rfl (fun ls hl => ?_)
        refine lv_iload_n hx hb dX3_heaviest_69 rfl (lv_at hl 4 rfl) ?_
        refine k_if_lt (tgt := 86) hx hb dX3_heaviest_70 (by decide) hf (fun hf => ?_) (fun hf => ?_)
        · exact b86 (fX3_heaviest_L28 N n) ih z x1 x3 x4 x5 v6 v8 H locs ls hP hS (lv_sub hl [2, 3, 5, 6, 7, 1, 0] rfl) hf
        · refine lv_iload hx hb dX3_heaviest_73 (lv_at hl 1 rfl) ?_
          refine lv_aload_n hx hb dX3_heaviest_75 rfl (lv_at hl 2 rfl) ?_
          refine va_get (D := D) (ci := 3) (v := .ref (a 1)) (C := RX3) (T := TX3) (N := 13) hx hb hts inX3 hown hK hP 0 rfl rfl 0 (by decide) ln1 (fun _ h9 => h9) rfl dX3_heaviest_76 ?_
          refine lv_iload_n hx hb dX3_heaviest_79 rfl (lv_at hl 4 rfl) ?_
          refine c_callS (As := [.ref ((sb [1] a) 0), .int x2]) (rest := [.int v6]) ⟨hx, hb, hml, hown, hts⟩ hf (fun vq hq => mX3_weighs l D cI cJ (sb [1] a) H.size N (sb [1] z) x2 vq hq) (va_cwS 2 hts gX3_heaviest_X3_weighs rfl rfl rfl qX3_weighs ⟨Nat.le_of_ble_eq_true rfl, Nat.le_of_ble_eq_true rfl⟩) hK hP hS hA (cmr_Mo_Ar_1 D cI a z hP) rfl hl.1 rfl (Nat.le_of_ble_eq_true rfl) dX3_heaviest_80 ⟨Nat.le_refl _, Nat.le_refl _⟩ (fun v12 H locs hP hS hf => ?_)
          refine k_icmp_le (tgt := 89) hx hb dX3_heaviest_83 (by decide) hf (fun hf => ?_) (fun hf => ?_)
          · exact b89 (fX3_heaviest_L28 N n) ih z x1 x2 x3 x4 x5 v6 v8 H locs ls hP hS (lv_sub hl [2, 3, 4, 5, 6, 7, 1, 0] rfl) hf
          · exact b86 (fX3_heaviest_L28 N n) ih z x1 x3 x4 x5 v6 v8 H locs ls hP hS (lv_sub hl [2, 3, 5, 6, 7, 1, 0] rfl) hf
  unfold fX3_heaviest at hf
  refine lv_iload_n hx hb dX3_heaviest_0 rfl (lv_at hl 1 rfl) ?_
  refine lv_iconst (v := (0 : Int32)) hx hb dX3_heaviest_1 (by decide) ?_
  refine lv_iconst (v := (4 : Int32)) hx hb dX3_heaviest_2 (by decide) ?_
  refine c_callS (As := [.int p1, .int (0 : Int32), .int (4 : Int32)]) (rest := []) ⟨hx, hb, hml, hown, hts⟩ hf (fun vq hq => mX3_isIn l D cI cJ s.heap.size N p1 (0 : Int32) (4 : Int32) vq hq) (va_cwS 3 hts gX3_heaviest_X3_isIn rfl rfl rfl qX3_isIn ⟨Nat.le_of_ble_eq_true rfl, Nat.le_of_ble_eq_true rfl⟩) hK hP hS hA va_P_nil rfl hl.1 rfl (Nat.le_of_ble_eq_true rfl) dX3_heaviest_3 ⟨Nat.le_refl _, Nat.le_refl _⟩ (fun v1 H locs hP hS hf => ?_)
  refine k_if_ne (tgt := 16) hx hb dX3_heaviest_6 (by decide) hf (fun hf => ?_) (fun hf => ?_)
  · refine lv_bipush (v := (-9 : Int32)) hx hb dX3_heaviest_16 (by decide) ?_
    refine lv_istore_n (lv' := [(2, .int (-9 : Int32)), (0, .ref (a 0)), (1, .int p1)]) hx hb dX3_heaviest_18 rfl hl (by decide) rfl (fun ls hl => ?_)
    refine lv_bipush (v := (-9 : Int32)) hx hb dX3_heaviest_19 (by decide) ?_
    refine lv_istore_n (lv' := [(3, .int (-9 : Int32)), (2, .int (-9 : Int32)), (0, .ref (a 0)), (1, .int p1)]) hx hb dX3_heaviest_21 rfl hl (by decide) rfl (fun ls hl => ?_)
    refine lv_iconst (v := (0 : Int32)) hx hb dX3_heaviest_22 (by decide) ?_
    refine lv_istore (lv' := [(4, .int (0 : Int32)), (3, .int (-9 : Int32)), (2, .int (-9 : Int32)), (0, .ref (a 0)), (1, .int p1)]) hx hb dX3_heaviest_23 hl (by decide) rfl (fun ls hl => ?_)
    refine lv_iconst (v := (0 : Int32)) hx hb dX3_heaviest_25 (by decide) ?_
    refine lv_istore (lv' := [(5, .int (0 : Int32)), (4, .int (0 : Int32)), (3, .int (-9 : Int32)), (2, .int (-9 : Int32)), (0, .ref (a 0)), (1, .int p1)]) hx hb dX3_heaviest_26 hl (by decide) rfl (fun ls hl => ?_)
    exact b28  N σ p1 (-9 : Int32) (-9 : Int32) (0 : Int32) (0 : Int32) H locs ls hP hS (lv_sub hl [4, 5, 3, 2, 1, 0] rfl) hf
  · refine lv_aload_n hx hb dX3_heaviest_9 rfl (lv_at hl 0 rfl) ?_
    refine lv_bipush (v := (-2 : Int32)) hx hb dX3_heaviest_10 (by decide) ?_
    refine d_callV (As := [.int (-2 : Int32)]) (rest := []) (w := (fun z => wMo cI a z)) (wc := (wMo cI a)) (put := (fun uq => uq)) (σ := σ) (τ0 := σ) ⟨hx, hb, hml, hown, hts⟩ hf (fun vq zq hq => mX3_no l D cI cJ a H.size N σ (-2 : Int32) (vq, zq) hq) (cwV 1 hts gX3_heaviest_X3_no rfl rfl rfl qX3_no ⟨Nat.le_of_ble_eq_true rfl, Nat.le_of_ble_eq_true rfl⟩) hK hP hD hS hA ⟨hP, hD _, fun _ _ _ h => h⟩ 3 rfl rfl rfl rfl hl.1 rfl (Nat.le_of_ble_eq_true rfl) dX3_heaviest_12 ⟨Nat.le_refl _, Nat.le_refl _⟩ (fun v14 z13 H locs hP hS hf => ?_)
    exact W_iret (fun z => wMo cI a z) hx hb hr hlk hP hS hAe hf dX3_heaviest_15
def fX3_hasBy_L51 (N : Nat)  (z : St) (x1 : Int32) (x2 : Int32) (x3 : Int32) (x5 : Int32) (x6 : Int32) (x7 : Int32) : Option (Int32 × St) :=
    by_ (fX3_daysOn N (sb [2] z) x6) (fun uq => pb [2] uq z) (fun z4 =>
    bo (fX3_floorOf N (sb [2] z4) x7) (fun v5 =>
    if x1 = x2 then some ((v5 + x3), z4)
    else some ((v5 + x5), z4)))
def fX3_hasBy_L36 (N : Nat)  (z : St) (x1 : Int32) (x2 : Int32) (x3 : Int32) (x4 : Int32) (x5 : Int32) (x6 : Int32) (x7 : Int32) : Option (Int32 × St) :=
    if x5 = 0 then by_ (fX3_hangsIn N (sb [2] z) x4 (2 : Int32)) (fun uq => pb [2] uq z) (fun z6 =>
    fX3_hasBy_L51 N  z6 x1 x2 x3 x5 x6 x7)
    else fX3_hasBy_L51 N  z x1 x2 x3 x5 x6 x7
def fX3_hasBy (N : Nat) (σ : St) (p1 : Int32) (p2 : Int32) (p3 : Int32) (p4 : Int32) (p5 : Int32) (p6 : Int32) : Option (Int32 × St) :=
    by_ (fX3_copies N (sb [1, 2] σ)) (fun uq => pb [1, 2] uq σ) (fun z1 =>
    bo (fX3_of N p1 (2 : Int32)) (fun v2 =>
    bo (rdI z1 1 38 v2) (fun v3 =>
    if p3 = 0 then by_ (fX3_hangsIn N (sb [2] z1) p2 (2 : Int32)) (fun uq => pb [2] uq z1) (fun z7 =>
    fX3_hasBy_L36 N  z7 p1 p2 p3 p4 p5 p6 v3)
    else fX3_hasBy_L36 N  z1 p1 p2 p3 p4 p5 p6 v3)))
abbrev rmX3_hasBy : Room := { frames := 8, cells := 0, slots := 0, locals := 178 }
theorem qX3_hasBy : yX3_hasBy.cls = RX3 ∧ yX3_hasBy.cls ≠ "java/lang/invoke/MethodHandle" ∧ yX3_hasBy.cls ≠ "java/lang/invoke/VarHandle" ∧ (parseMethodDescriptor yX3_hasBy.desc).map (fun d => d.parameters.length) = some 6 := by decide +kernel
set_option maxHeartbeats 400000 in
set_option maxRecDepth 100000 in
theorem mX3_hasBy (l : Launch) (D : va_G) (cI cJ : ClassId) (a : Nat → Nat) (sz N : Nat) (σ : St) (p1 : Int32) (p2 : Int32) (p3 : Int32) (p4 : Int32) (p5 : Int32) (p6 : Int32) (r : (Int32 × St)) (hf : fX3_hasBy N σ p1 p2 p3 p4 p5 p6 = some r) : Met l yX3_hasBy wsX3_hasBy rmX3_hasBy (WPre ([.ref (a 0), .int p1, .int p2, .int p3, .int p4, .int p5, .int p6] : List Value) sz D (tyIJ cI cJ) (wMo cI a σ)) (WQi sz D (wMo cI a σ) (wMo cI a (r.2)) r.1) 0 0 (va_A (wMo cI a σ) sz) := by
  refine W_start (cc := cX3_hasBy) (maxL := 8) (ret := (some .int)) (by decide) rfl (Nat.le_of_ble_eq_true rfl) (fun p e s m below meth c ls A hx hb hr hml hown hts hlk hP hK hS hA hD0 hAe hl => ?_)
  have hD : ∀ z, va_D A ((fun z => wMo cI a z) z) := fun z => hD0.ad rfl
  have hown : s.vm.findClass RX3 = some m.cls := hown
  have hl : lv_has ls 8 [(0, .ref (a 0)), (1, .int p1), (2, .int p2), (3, .int p3), (4, .int p4), (5, .int p5), (6, .int p6)] := hl
  have ln1 := hts (Cond.fieldLink RX3 9 "HoistsAreSharedModel" "s" "[I") (List.mem_of_getElem? (i := 1) rfl)
  have inX3 : ∀ w ∈ u_ws RX3 TX3 13, w ∈ wsX3_hasBy := fun _ h => List.mem_cons_of_mem _ (List.mem_append_right _ h)
  have ln3 := hts (Cond.fieldLink RX3 13 "HoistsAreSharedModel" "m" "[I") (List.mem_of_getElem? (i := 2) rfl)
  have b51 : ∀  (z : St) (x1 : Int32) (x2 : Int32) (x3 : Int32) (x5 : Int32) (x6 : Int32) (x7 : Int32) (H : Heap) (locs : List Loc) (ls : Array Slot), va_P D vwCl (wMo cI a z) H → va_S A s.heap H locs → lv_has ls 8 [(0, .ref (a 0)), (1, .int x1), (2, .int x2), (3, .int x3), (5, .int x5), (6, .int x6), (7, .int x7)] → fX3_hasBy_L51 N z x1 x2 x3 x5 x6 x7 = some r → W p l e rmX3_hasBy s m ([.ref (a 0), .int p1, .int p2, .int p3, .int p4, .int p5, .int p6] : List Value).toArray below meth c H locs 0 0 (MQ below (WQi sz D (wMo cI a σ) (wMo cI a (r.2)) r.1) ([.ref (a 0), .int p1, .int p2, .int p3, .int p4, .int p5, .int p6] : List Value).toArray s 0 0 A) (F0 m 51 ls []) := by
    intro  z x1 x2 x3 x5 x6 x7 H locs ls hP hS hl hf
    unfold fX3_hasBy_L51 at hf
    refine lv_aload_n hx hb dX3_hasBy_51 rfl (lv_at hl 0 rfl) ?_
    refine va_get (D := D) (ci := 3) (v := .ref (a 2)) (C := RX3) (T := TX3) (N := 13) hx hb hts inX3 hown hK hP 0 rfl rfl 1 (by decide) ln3 (fun _ h9 => h9) rfl dX3_hasBy_52 ?_
    refine lv_iload hx hb dX3_hasBy_55 (lv_at hl 5 rfl) ?_
    refine d_callSv (As := [.ref ((sb [2] a) 0), .int x6]) (rest := []) (w := (fun z => wMo cI a z)) (wc := (wAr cI (sb [2] a))) (put := (fun uq => pb [2] uq z)) (σ := z) (τ0 := (sb [2] z)) ⟨hx, hb, hml, hown, hts⟩ hf (fun zq hq => mX3_daysOn l D cI cJ (sb [2] a) H.size N (sb [2] z) x6 zq hq) (va_cwS 2 hts gX3_hasBy_X3_daysOn rfl rfl rfl qX3_daysOn ⟨Nat.le_of_ble_eq_true rfl, Nat.le_of_ble_eq_true rfl⟩) hK hP hD hS hA (cmb_Mo_Ar_2 D cI a z hP (hD _)) rfl hl.1 rfl (Nat.le_of_ble_eq_true rfl) dX3_hasBy_57 ⟨Nat.le_refl _, Nat.le_refl _⟩ (fun z4 H locs hP hS hf => ?_)
    refine lv_aload_n hx hb dX3_hasBy_60 rfl (lv_at hl 0 rfl) ?_
    refine va_get (D := D) (ci := 3) (v := .ref (a 2)) (C := RX3) (T := TX3) (N := 13) hx hb hts inX3 hown hK hP 0 rfl rfl 1 (by decide) ln3 (fun _ h9 => h9) rfl dX3_hasBy_61 ?_
    refine lv_iload hx hb dX3_hasBy_64 (lv_at hl 6 rfl) ?_
    refine c_callS (As := [.ref ((sb [2] a) 0), .int x7]) (rest := []) ⟨hx, hb, hml, hown, hts⟩ hf (fun vq hq => mX3_floorOf l D cI cJ (sb [2] a) H.size N (sb [2] z4) x7 vq hq) (va_cwS 2 hts gX3_hasBy_X3_floorOf rfl rfl rfl qX3_floorOf ⟨Nat.le_of_ble_eq_true rfl, Nat.le_of_ble_eq_true rfl⟩) hK hP hS hA (cmr_Mo_Ar_2 D cI a z4 hP) rfl hl.1 rfl (Nat.le_of_ble_eq_true rfl) dX3_hasBy_66 ⟨Nat.le_refl _, Nat.le_refl _⟩ (fun v5 H locs hP hS hf => ?_)
    refine lv_iload_n hx hb dX3_hasBy_69 rfl (lv_at hl 1 rfl) ?_
    refine lv_iload_n hx hb dX3_hasBy_70 rfl (lv_at hl 2 rfl) ?_
    refine k_icmp_ne (tgt := 78) hx hb dX3_hasBy_71 (by decide) hf (fun hf => ?_) (fun hf => ?_)
    · refine lv_iload hx hb dX3_hasBy_78 (lv_at hl 4 rfl) ?_
      refine lv_iadd hx hb dX3_hasBy_80 ?_
      exact W_iret (fun z => wMo cI a z) hx hb hr hlk hP hS hAe hf dX3_hasBy_81
    · refine lv_iload_n hx hb dX3_hasBy_74 rfl (lv_at hl 3 rfl) ?_
      refine lv_goto (tgt := 80) hx hb dX3_hasBy_75 (by decide) ?_
      refine lv_iadd hx hb dX3_hasBy_80 ?_
      exact W_iret (fun z => wMo cI a z) hx hb hr hlk hP hS hAe hf dX3_hasBy_81
  have b36 : ∀  (z : St) (x1 : Int32) (x2 : Int32) (x3 : Int32) (x4 : Int32) (x5 : Int32) (x6 : Int32) (x7 : Int32) (H : Heap) (locs : List Loc) (ls : Array Slot), va_P D vwCl (wMo cI a z) H → va_S A s.heap H locs → lv_has ls 8 [(0, .ref (a 0)), (1, .int x1), (2, .int x2), (3, .int x3), (4, .int x4), (5, .int x5), (6, .int x6), (7, .int x7)] → fX3_hasBy_L36 N z x1 x2 x3 x4 x5 x6 x7 = some r → W p l e rmX3_hasBy s m ([.ref (a 0), .int p1, .int p2, .int p3, .int p4, .int p5, .int p6] : List Value).toArray below meth c H locs 0 0 (MQ below (WQi sz D (wMo cI a σ) (wMo cI a (r.2)) r.1) ([.ref (a 0), .int p1, .int p2, .int p3, .int p4, .int p5, .int p6] : List Value).toArray s 0 0 A) (F0 m 36 ls []) := by
    intro  z x1 x2 x3 x4 x5 x6 x7 H locs ls hP hS hl hf
    unfold fX3_hasBy_L36 at hf
    refine lv_iload hx hb dX3_hasBy_36 (lv_at hl 5 rfl) ?_
    refine k_if_ne (tgt := 51) hx hb dX3_hasBy_38 (by decide) hf (fun hf => ?_) (fun hf => ?_)
    · exact b51  z x1 x2 x3 x5 x6 x7 H locs ls hP hS (lv_sub hl [0, 1, 2, 3, 5, 6, 7] rfl) hf
    · refine lv_aload_n hx hb dX3_hasBy_41 rfl (lv_at hl 0 rfl) ?_
      refine va_get (D := D) (ci := 3) (v := .ref (a 2)) (C := RX3) (T := TX3) (N := 13) hx hb hts inX3 hown hK hP 0 rfl rfl 1 (by decide) ln3 (fun _ h9 => h9) rfl dX3_hasBy_42 ?_
      refine lv_iload hx hb dX3_hasBy_45 (lv_at hl 4 rfl) ?_
      refine lv_iconst (v := (2 : Int32)) hx hb dX3_hasBy_47 (by decide) ?_
      refine d_callSv (As := [.ref ((sb [2] a) 0), .int x4, .int (2 : Int32)]) (rest := []) (w := (fun z => wMo cI a z)) (wc := (wAr cI (sb [2] a))) (put := (fun uq => pb [2] uq z)) (σ := z) (τ0 := (sb [2] z)) ⟨hx, hb, hml, hown, hts⟩ hf (fun zq hq => mX3_hangsIn l D cI cJ (sb [2] a) H.size N (sb [2] z) x4 (2 : Int32) zq hq) (va_cwS 3 hts gX3_hasBy_X3_hangsIn rfl rfl rfl qX3_hangsIn ⟨Nat.le_of_ble_eq_true rfl, Nat.le_of_ble_eq_true rfl⟩) hK hP hD hS hA (cmb_Mo_Ar_2 D cI a z hP (hD _)) rfl hl.1 rfl (Nat.le_of_ble_eq_true rfl) dX3_hasBy_48 ⟨Nat.le_refl _, Nat.le_refl _⟩ (fun z6 H locs hP hS hf => ?_)
      exact b51  z6 x1 x2 x3 x5 x6 x7 H locs ls hP hS (lv_sub hl [0, 1, 2, 3, 5, 6, 7] rfl) hf
  unfold fX3_hasBy at hf
  refine lv_aload_n hx hb dX3_hasBy_0 rfl (lv_at hl 0 rfl) ?_
  refine va_get (D := D) (ci := 3) (v := .ref (a 1)) (C := RX3) (T := TX3) (N := 13) hx hb hts inX3 hown hK hP 0 rfl rfl 0 (by decide) ln1 (fun _ h9 => h9) rfl dX3_hasBy_1 ?_
  refine lv_aload_n hx hb dX3_hasBy_4 rfl (lv_at hl 0 rfl) ?_
  refine va_get (D := D) (ci := 3) (v := .ref (a 2)) (C := RX3) (T := TX3) (N := 13) hx hb hts inX3 hown hK hP 0 rfl rfl 1 (by decide) ln3 (fun _ h9 => h9) rfl dX3_hasBy_5 ?_
  refine d_callSv (As := [.ref ((sb [1, 2] a) 0), .ref ((sb [1, 2] a) 1)]) (rest := []) (w := (fun z => wMo cI a z)) (wc := (wAr2 cI (sb [1, 2] a))) (put := (fun uq => pb [1, 2] uq σ)) (σ := σ) (τ0 := (sb [1, 2] σ)) ⟨hx, hb, hml, hown, hts⟩ hf (fun zq hq => mX3_copies l D cI cJ (sb [1, 2] a) s.heap.size N (sb [1, 2] σ) zq hq) (va_cwS 2 hts gX3_hasBy_X3_copies rfl rfl rfl qX3_copies ⟨Nat.le_of_ble_eq_true rfl, Nat.le_of_ble_eq_true rfl⟩) hK hP hD hS hA (cmb_Mo_Ar2_1_2 D cI a σ hP (hD _)) rfl hl.1 rfl (Nat.le_of_ble_eq_true rfl) dX3_hasBy_8 ⟨Nat.le_refl _, Nat.le_refl _⟩ (fun z1 H locs hP hS hf => ?_)
  refine lv_aload_n hx hb dX3_hasBy_11 rfl (lv_at hl 0 rfl) ?_
  refine va_get (D := D) (ci := 3) (v := .ref (a 1)) (C := RX3) (T := TX3) (N := 13) hx hb hts inX3 hown hK hP 0 rfl rfl 0 (by decide) ln1 (fun _ h9 => h9) rfl dX3_hasBy_12 ?_
  refine lv_iload_n hx hb dX3_hasBy_15 rfl (lv_at hl 1 rfl) ?_
  refine lv_iconst (v := (2 : Int32)) hx hb dX3_hasBy_16 (by decide) ?_
  refine c_callS (As := [.int p1, .int (2 : Int32)]) (rest := [.ref (a 1)]) ⟨hx, hb, hml, hown, hts⟩ hf (fun vq hq => mX3_of l D cI cJ H.size N p1 (2 : Int32) vq hq) (va_cwS 2 hts gX3_hasBy_X3_of rfl rfl rfl qX3_of ⟨Nat.le_of_ble_eq_true rfl, Nat.le_of_ble_eq_true rfl⟩) hK hP hS hA va_P_nil rfl hl.1 rfl (Nat.le_of_ble_eq_true rfl) dX3_hasBy_17 ⟨Nat.le_refl _, Nat.le_refl _⟩ (fun v2 H locs hP hS hf => ?_)
  refine k_iald hx hb hK hP 1 0 hf rfl rfl dX3_hasBy_20 (fun v3 hf => ?_)
  refine lv_istore (lv' := [(7, .int v3), (0, .ref (a 0)), (1, .int p1), (2, .int p2), (3, .int p3), (4, .int p4), (5, .int p5), (6, .int p6)]) hx hb dX3_hasBy_21 hl (by decide) rfl (fun ls hl => ?_)
  refine lv_iload_n hx hb dX3_hasBy_23 rfl (lv_at hl 4 rfl) ?_
  refine k_if_ne (tgt := 36) hx hb dX3_hasBy_24 (by decide) hf (fun hf => ?_) (fun hf => ?_)
  · exact b36  z1 p1 p2 p3 p4 p5 p6 v3 H locs ls hP hS (lv_sub hl [1, 2, 3, 4, 5, 6, 7, 0] rfl) hf
  · refine lv_aload_n hx hb dX3_hasBy_27 rfl (lv_at hl 1 rfl) ?_
    refine va_get (D := D) (ci := 3) (v := .ref (a 2)) (C := RX3) (T := TX3) (N := 13) hx hb hts inX3 hown hK hP 0 rfl rfl 1 (by decide) ln3 (fun _ h9 => h9) rfl dX3_hasBy_28 ?_
    refine lv_iload_n hx hb dX3_hasBy_31 rfl (lv_at hl 3 rfl) ?_
    refine lv_iconst (v := (2 : Int32)) hx hb dX3_hasBy_32 (by decide) ?_
    refine d_callSv (As := [.ref ((sb [2] a) 0), .int p2, .int (2 : Int32)]) (rest := []) (w := (fun z => wMo cI a z)) (wc := (wAr cI (sb [2] a))) (put := (fun uq => pb [2] uq z1)) (σ := z1) (τ0 := (sb [2] z1)) ⟨hx, hb, hml, hown, hts⟩ hf (fun zq hq => mX3_hangsIn l D cI cJ (sb [2] a) H.size N (sb [2] z1) p2 (2 : Int32) zq hq) (va_cwS 3 hts gX3_hasBy_X3_hangsIn rfl rfl rfl qX3_hangsIn ⟨Nat.le_of_ble_eq_true rfl, Nat.le_of_ble_eq_true rfl⟩) hK hP hD hS hA (cmb_Mo_Ar_2 D cI a z1 hP (hD _)) rfl hl.1 rfl (Nat.le_of_ble_eq_true rfl) dX3_hasBy_33 ⟨Nat.le_refl _, Nat.le_refl _⟩ (fun z7 H locs hP hS hf => ?_)
    exact b36  z7 p1 p2 p3 p4 p5 p6 v3 H locs ls hP hS (lv_sub hl [1, 2, 3, 4, 5, 6, 7, 0] rfl) hf
def fX3_two_L171 (N : Nat) (k86 : St → Int32 → Int32 → Int32 → Int32 → Option (Int32 × St)) (z : St) (x1 : Int32) (x2 : Int32) (x3 : Int32) (x5 : Int32) : Option (Int32 × St) :=
    lt_ (x5 + (1 : Int32) : Int32) (fun v8 =>
    k86 z x1 x2 x3 v8)
def fX3_two_L86 (N : Nat)  : Nat → St → Int32 → Int32 → Int32 → Int32 → Option (Int32 × St)
  | 0, _, _, _, _, _ => none
  | n + 1, z, x1, x2, x3, x5 =>
    if (4 : Int32) ≤ x5 then some ((-9 : Int32), z)
    else lt_ ((x5 / (2 : Int32)) : Int32) (fun v2 =>
    lt_ ((x5 - x5 / (2 : Int32) * (2 : Int32)) : Int32) (fun v3 =>
    bx (fX3_hasBy N z x1 x1 ((1 : Int32) - v2) x2 v3 x3) (fun uq => uq) (fun v5 z4 =>
    bx (fX3_hasBy N z4 x1 x1 v2 x2 v3 x3) (fun uq => uq) (fun v7 z6 =>
    if v7 < v5 then fX3_two_L171 N (fX3_two_L86 N n) z6 x1 x2 x3 x5
    else bx (fX3_hasBy N z6 x2 x1 v2 x2 ((1 : Int32) - v3) x3) (fun uq => uq) (fun v10 z9 =>
    bx (fX3_hasBy N z9 x2 x1 v2 x2 v3 x3) (fun uq => uq) (fun v12 z11 =>
    if v12 < v10 then fX3_two_L171 N (fX3_two_L86 N n) z11 x1 x2 x3 x5
    else some ((((10 : Int32) * v2) + v3), z11)))))))
def fX3_two_L71 (N : Nat)  (z : St) (x1 : Int32) (x2 : Int32) (x3 : Int32) (x4 : Int32) : Option (Int32 × St) :=
    if x4 = 0 then fX3_two_L86 N  N z x1 x2 x3 (0 : Int32)
    else bx (fX3_no N z x4) (fun uq => uq) (fun v14 z13 =>
    some (v14, z13))
def fX3_two_L67 (N : Nat)  (z : St) (x1 : Int32) (x2 : Int32) (x3 : Int32) : Option (Int32 × St) :=
    fX3_two_L71 N  z x1 x2 x3 (-3 : Int32)
def fX3_two_L32 (N : Nat)  (z : St) (x1 : Int32) (x2 : Int32) (x3 : Int32) (y0 : Int32) : Option (Int32 × St) :=
    if y0 = 0 then bo (fX3_of N x1 (2 : Int32)) (fun v15 =>
    bo (rdI z 1 38 v15) (fun v16 =>
    if v16 = (2 : Int32) then fX3_two_L67 N  z x1 x2 x3
    else bo (fX3_of N x2 (2 : Int32)) (fun v17 =>
    bo (rdI z 1 38 v17) (fun v18 =>
    if v18 = (2 : Int32) then fX3_two_L67 N  z x1 x2 x3
    else fX3_two_L71 N  z x1 x2 x3 y0))))
    else fX3_two_L71 N  z x1 x2 x3 y0
def fX3_two_L31 (N : Nat)  (z : St) (x1 : Int32) (x2 : Int32) (x3 : Int32) : Option (Int32 × St) :=
    fX3_two_L32 N  z x1 x2 x3 (-1 : Int32)
def fX3_two (N : Nat) (σ : St) (p1 : Int32) (p2 : Int32) (p3 : Int32) : Option (Int32 × St) :=
    bo (fX3_isThing N σ p1) (fun v1 =>
    if v1 = 0 then fX3_two_L31 N  σ p1 p2 p3
    else bo (fX3_isThing N σ p2) (fun v19 =>
    if v19 = 0 then fX3_two_L31 N  σ p1 p2 p3
    else if p1 = p2 then fX3_two_L31 N  σ p1 p2 p3
    else bo (fX3_wrongBy N p3 (0 : Int32) (30 : Int32)) (fun v20 =>
    fX3_two_L32 N  σ p1 p2 p3 v20)))
abbrev rmX3_two : Room := { frames := 9, cells := 0, slots := 0, locals := 205 }
theorem qX3_two : yX3_two.cls = RX3 ∧ yX3_two.cls ≠ "java/lang/invoke/MethodHandle" ∧ yX3_two.cls ≠ "java/lang/invoke/VarHandle" ∧ (parseMethodDescriptor yX3_two.desc).map (fun d => d.parameters.length) = some 3 := by decide +kernel
set_option maxHeartbeats 400000 in
set_option maxRecDepth 100000 in
theorem mX3_two (l : Launch) (D : va_G) (cI cJ : ClassId) (a : Nat → Nat) (sz N : Nat) (σ : St) (p1 : Int32) (p2 : Int32) (p3 : Int32) (r : (Int32 × St)) (hf : fX3_two N σ p1 p2 p3 = some r) : Met l yX3_two wsX3_two rmX3_two (WPre ([.ref (a 0), .int p1, .int p2, .int p3] : List Value) sz D (tyIJ cI cJ) (wMo cI a σ)) (WQi sz D (wMo cI a σ) (wMo cI a (r.2)) r.1) 0 0 (va_A (wMo cI a σ) sz) := by
  refine W_start (cc := cX3_two) (maxL := 8) (ret := (some .int)) (by decide) rfl (Nat.le_of_ble_eq_true rfl) (fun p e s m below meth c ls A hx hb hr hml hown hts hlk hP hK hS hA hD0 hAe hl => ?_)
  have hD : ∀ z, va_D A ((fun z => wMo cI a z) z) := fun z => hD0.ad rfl
  have hown : s.vm.findClass RX3 = some m.cls := hown
  have hl : lv_has ls 8 [(0, .ref (a 0)), (1, .int p1), (2, .int p2), (3, .int p3)] := hl
  have ln1 := hts (Cond.fieldLink RX3 9 "HoistsAreSharedModel" "s" "[I") (List.mem_of_getElem? (i := 1) rfl)
  have inX3 : ∀ w ∈ u_ws RX3 TX3 13, w ∈ wsX3_two := fun _ h => List.mem_cons_of_mem _ (List.mem_append_right _ h)
  have b171 : ∀ (k86 : St → Int32 → Int32 → Int32 → Int32 → Option (Int32 × St)) (hk86 : (∀ (z : St) (x1 : Int32) (x2 : Int32) (x3 : Int32) (x5 : Int32) (H : Heap) (locs : List Loc) (ls : Array Slot), va_P D vwCl (wMo cI a z) H → va_S A s.heap H locs → lv_has ls 8 [(0, .ref (a 0)), (1, .int x1), (2, .int x2), (3, .int x3), (5, .int x5)] → k86 z x1 x2 x3 x5 = some r → W p l e rmX3_two s m ([.ref (a 0), .int p1, .int p2, .int p3] : List Value).toArray below meth c H locs 0 0 (MQ below (WQi sz D (wMo cI a σ) (wMo cI a (r.2)) r.1) ([.ref (a 0), .int p1, .int p2, .int p3] : List Value).toArray s 0 0 A) (F0 m 86 ls []))) (z : St) (x1 : Int32) (x2 : Int32) (x3 : Int32) (x5 : Int32) (H : Heap) (locs : List Loc) (ls : Array Slot), va_P D vwCl (wMo cI a z) H → va_S A s.heap H locs → lv_has ls 8 [(0, .ref (a 0)), (1, .int x1), (2, .int x2), (3, .int x3), (5, .int x5)] → fX3_two_L171 N k86 z x1 x2 x3 x5 = some r → W p l e rmX3_two s m ([.ref (a 0), .int p1, .int p2, .int p3] : List Value).toArray below meth c H locs 0 0 (MQ below (WQi sz D (wMo cI a σ) (wMo cI a (r.2)) r.1) ([.ref (a 0), .int p1, .int p2, .int p3] : List Value).toArray s 0 0 A) (F0 m 171 ls []) := by
    intro k86 hk86 z x1 x2 x3 x5 H locs ls hP hS hl hf
    unfold fX3_two_L171 at hf
    refine k_iinc (d := (1 : Int32)) (lv' := fun v8 => [(5, .int v8), (0, .ref (a 0)), (1, .int x1), (2, .int x2), (3, .int x3)]) hx hb dX3_two_171 hl (k := 4) rfl (by decide) (by decide) (fun _ => rfl) hf (fun v8 ls hl hf => ?_)
    refine lv_goto (tgt := 86) hx hb dX3_two_174 (by decide) ?_
    exact hk86 z x1 x2 x3 v8 H locs ls hP hS (lv_sub hl [1, 2, 3, 4, 0] rfl) hf
  have b86 : ∀  (n : Nat) (z : St) (x1 : Int32) (x2 : Int32) (x3 : Int32) (x5 : Int32) (H : Heap) (locs : List Loc) (ls : Array Slot), va_P D vwCl (wMo cI a z) H → va_S A s.heap H locs → lv_has ls 8 [(0, .ref (a 0)), (1, .int x1), (2, .int x2), (3, .int x3), (5, .int x5)] → fX3_two_L86 N n z x1 x2 x3 x5 = some r → W p l e rmX3_two s m ([.ref (a 0), .int p1, .int p2, .int p3] : List Value).toArray below meth c H locs 0 0 (MQ below (WQi sz D (wMo cI a σ) (wMo cI a (r.2)) r.1) ([.ref (a 0), .int p1, .int p2, .int p3] : List Value).toArray s 0 0 A) (F0 m 86 ls []) := by
    intro n
    induction n with
    | zero => intro z x1 x2 x3 x5 H locs ls hP hS hl hf; cases hf
    | succ n ih =>
      intro z x1 x2 x3 x5 H locs ls hP hS hl hf
      rw [fX3_two_L86] at hf
      refine lv_iload hx hb dX3_two_86 (lv_at hl 4 rfl) ?_
      refine lv_iconst (v := (4 : Int32)) hx hb dX3_two_88 (by decide) ?_
      refine k_icmp_ge (tgt := 177) hx hb dX3_two_89 (by decide) hf (fun hf => ?_) (fun hf => ?_)
      · refine lv_bipush (v := (-9 : Int32)) hx hb dX3_two_177 (by decide) ?_
        exact W_iret (fun z => wMo cI a z) hx hb hr hlk hP hS hAe hf dX3_two_179
      · refine lv_iload hx hb dX3_two_92 (lv_at hl 4 rfl) ?_
        refine lv_iconst (v := (2 : Int32)) hx hb dX3_two_94 (by decide) ?_
        refine lv_idiv hx hb dX3_two_95 (by decide) ?_
        refine k_let hf (fun v2 hf => ?_)
        refine lv_istore (lv' := [(6, .int v2), (0, .ref (a 0)), (1, .int x1), (2, .int x2), (3, .int x3), (5, .int x5)]) hx hb dX3_two_96 hl (by decide) rfl (fun ls hl => ?_)
        refine lv_iload hx hb dX3_two_98 (lv_at hl 5 rfl) ?_
        refine lv_iconst (v := (2 : Int32)) hx hb dX3_two_100 (by decide) ?_
        refine lv_irem hx hb dX3_two_101 (by decide) ?_
        refine k_let hf (fun v3 hf => ?_)
        refine lv_istore (lv' := [(7, .int v3), (6, .int v2), (0, .ref (a 0)), (1, .int x1), (2, .int x2), (3, .int x3), (5, .int x5)]) hx hb dX3_two_102 hl (by decide) rfl (fun ls hl => ?_)
        refine lv_aload_n hx hb dX3_two_104 rfl (lv_at hl 2 rfl) ?_
        refine lv_iload_n hx hb dX3_two_105 rfl (lv_at hl 3 rfl) ?_
        refine lv_iload_n hx hb dX3_two_106 rfl (lv_at hl 3 rfl) ?_
        refine lv_iconst (v := (1 : Int32)) hx hb dX3_two_107 (by decide) ?_
        refine lv_iload hx hb dX3_two_108 (lv_at hl 1 rfl) ?_
        refine lv_isub hx hb dX3_two_110 ?_
        refine lv_iload_n hx hb dX3_two_111 rfl (lv_at hl 4 rfl) ?_
        refine lv_iload hx hb dX3_two_112 (lv_at hl 0 rfl) ?_
        refine lv_iload_n hx hb dX3_two_114 rfl (lv_at hl 5 rfl) ?_
        refine d_callV (As := [.int x1, .int x1, .int ((1 : Int32) - v2), .int x2, .int v3, .int x3]) (rest := []) (w := (fun z => wMo cI a z)) (wc := (wMo cI a)) (put := (fun uq => uq)) (σ := z) (τ0 := z) ⟨hx, hb, hml, hown, hts⟩ hf (fun vq zq hq => mX3_hasBy l D cI cJ a H.size N z x1 x1 ((1 : Int32) - v2) x2 v3 x3 (vq, zq) hq) (cwV 6 hts gX3_two_X3_hasBy rfl rfl rfl qX3_hasBy ⟨Nat.le_of_ble_eq_true rfl, Nat.le_of_ble_eq_true rfl⟩) hK hP hD hS hA ⟨hP, hD _, fun _ _ _ h => h⟩ 3 rfl rfl rfl rfl hl.1 rfl (Nat.le_of_ble_eq_true rfl) dX3_two_115 ⟨Nat.le_refl _, Nat.le_refl _⟩ (fun v5 z4 H locs hP hS hf => ?_)
        refine lv_aload_n hx hb dX3_two_118 rfl (lv_at hl 2 rfl) ?_
        refine lv_iload_n hx hb dX3_two_119 rfl (lv_at hl 3 rfl) ?_
        refine lv_iload_n hx hb dX3_two_120 rfl (lv_at hl 3 rfl) ?_
        refine lv_iload hx hb dX3_two_121 (lv_at hl 1 rfl) ?_
        refine lv_iload_n hx hb dX3_two_123 rfl (lv_at hl 4 rfl) ?_
        refine lv_iload hx hb dX3_two_124 (lv_at hl 0 rfl) ?_
        refine lv_iload_n hx hb dX3_two_126 rfl (lv_at hl 5 rfl) ?_
        refine d_callV (As := [.int x1, .int x1, .int v2, .int x2, .int v3, .int x3]) (rest := [.int v5]) (w := (fun z => wMo cI a z)) (wc := (wMo cI a)) (put := (fun uq => uq)) (σ := z4) (τ0 := z4) ⟨hx, hb, hml, hown, hts⟩ hf (fun vq zq hq => mX3_hasBy l D cI cJ a H.size N z4 x1 x1 v2 x2 v3 x3 (vq, zq) hq) (cwV 6 hts gX3_two_X3_hasBy rfl rfl rfl qX3_hasBy ⟨Nat.le_of_ble_eq_true rfl, Nat.le_of_ble_eq_true rfl⟩) hK hP hD hS hA ⟨hP, hD _, fun _ _ _ h => h⟩ 3 rfl rfl rfl rfl hl.1 rfl (Nat.le_of_ble_eq_true rfl) dX3_two_127 ⟨Nat.le_refl _, Nat.le_refl _⟩ (fun v7 z6 H locs hP hS hf => ?_)
        refine k_icmp_gt (tgt := 171) hx hb dX3_two_130 (by decide) hf (fun hf => ?_) (fun hf => ?_)
        · exact b171 (fX3_two_L86 N n) ih z6 x1 x2 x3 x5 H locs ls hP hS (lv_sub hl [2, 3, 4, 5, 6] rfl) hf
        · refine lv_aload_n hx hb dX3_two_133 rfl (lv_at hl 2 rfl) ?_
          refine lv_iload_n hx hb dX3_two_134 rfl (lv_at hl 4 rfl) ?_
          refine lv_iload_n hx hb dX3_two_135 rfl (lv_at hl 3 rfl) ?_
          refine lv_iload hx hb dX3_two_136 (lv_at hl 1 rfl) ?_
          refine lv_iload_n hx hb dX3_two_138 rfl (lv_at hl 4 rfl) ?_
          refine lv_iconst (v := (1 : Int32)) hx hb dX3_two_139 (by decide) ?_
          refine lv_iload hx hb dX3_two_140 (lv_at hl 0 rfl) ?_
          refine lv_isub hx hb dX3_two_142 ?_
          refine lv_iload_n hx hb dX3_two_143 rfl (lv_at hl 5 rfl) ?_
          refine d_callV (As := [.int x2, .int x1, .int v2, .int x2, .int ((1 : Int32) - v3), .int x3]) (rest := []) (w := (fun z => wMo cI a z)) (wc := (wMo cI a)) (put := (fun uq => uq)) (σ := z6) (τ0 := z6) ⟨hx, hb, hml, hown, hts⟩ hf (fun vq zq hq => mX3_hasBy l D cI cJ a H.size N z6 x2 x1 v2 x2 ((1 : Int32) - v3) x3 (vq, zq) hq) (cwV 6 hts gX3_two_X3_hasBy rfl rfl rfl qX3_hasBy ⟨Nat.le_of_ble_eq_true rfl, Nat.le_of_ble_eq_true rfl⟩) hK hP hD hS hA ⟨hP, hD _, fun _ _ _ h => h⟩ 3 rfl rfl rfl rfl hl.1 rfl (Nat.le_of_ble_eq_true rfl) dX3_two_144 ⟨Nat.le_refl _, Nat.le_refl _⟩ (fun v10 z9 H locs hP hS hf => ?_)
          refine lv_aload_n hx hb dX3_two_147 rfl (lv_at hl 2 rfl) ?_
          refine lv_iload_n hx hb dX3_two_148 rfl (lv_at hl 4 rfl) ?_
          refine lv_iload_n hx hb dX3_two_149 rfl (lv_at hl 3 rfl) ?_
          refine lv_iload hx hb dX3_two_150 (lv_at hl 1 rfl) ?_
          refine lv_iload_n hx hb dX3_two_152 rfl (lv_at hl 4 rfl) ?_
          refine lv_iload hx hb dX3_two_153 (lv_at hl 0 rfl) ?_
          refine lv_iload_n hx hb dX3_two_155 rfl (lv_at hl 5 rfl) ?_
          refine d_callV (As := [.int x2, .int x1, .int v2, .int x2, .int v3, .int x3]) (rest := [.int v10]) (w := (fun z => wMo cI a z)) (wc := (wMo cI a)) (put := (fun uq => uq)) (σ := z9) (τ0 := z9) ⟨hx, hb, hml, hown, hts⟩ hf (fun vq zq hq => mX3_hasBy l D cI cJ a H.size N z9 x2 x1 v2 x2 v3 x3 (vq, zq) hq) (cwV 6 hts gX3_two_X3_hasBy rfl rfl rfl qX3_hasBy ⟨Nat.le_of_ble_eq_true rfl, Nat.le_of_ble_eq_true rfl⟩) hK hP hD hS hA ⟨hP, hD _, fun _ _ _ h => h⟩ 3 rfl rfl rfl rfl hl.1 rfl (Nat.le_of_ble_eq_true rfl) dX3_two_156 ⟨Nat.le_refl _, Nat.le_refl _⟩ (fun v12 z11 H locs hP hS hf => ?_)
          refine k_icmp_gt (tgt := 171) hx hb dX3_two_159 (by decide) hf (fun hf => ?_) (fun hf => ?_)
          · exact b171 (fX3_two_L86 N n) ih z11 x1 x2 x3 x5 H locs ls hP hS (lv_sub hl [2, 3, 4, 5, 6] rfl) hf
          · refine lv_bipush (v := (10 : Int32)) hx hb dX3_two_162 (by decide) ?_
            refine lv_iload hx hb dX3_two_164 (lv_at hl 1 rfl) ?_
            refine lv_imul hx hb dX3_two_166 ?_
            refine lv_iload hx hb dX3_two_167 (lv_at hl 0 rfl) ?_
            refine lv_iadd hx hb dX3_two_169 ?_
            exact W_iret (fun z => wMo cI a z) hx hb hr hlk hP hS hAe hf dX3_two_170
  have b71 : ∀  (z : St) (x1 : Int32) (x2 : Int32) (x3 : Int32) (x4 : Int32) (H : Heap) (locs : List Loc) (ls : Array Slot), va_P D vwCl (wMo cI a z) H → va_S A s.heap H locs → lv_has ls 8 [(0, .ref (a 0)), (1, .int x1), (2, .int x2), (3, .int x3), (4, .int x4)] → fX3_two_L71 N z x1 x2 x3 x4 = some r → W p l e rmX3_two s m ([.ref (a 0), .int p1, .int p2, .int p3] : List Value).toArray below meth c H locs 0 0 (MQ below (WQi sz D (wMo cI a σ) (wMo cI a (r.2)) r.1) ([.ref (a 0), .int p1, .int p2, .int p3] : List Value).toArray s 0 0 A) (F0 m 71 ls []) := by
    intro  z x1 x2 x3 x4 H locs ls hP hS hl hf
    unfold fX3_two_L71 at hf
    refine lv_iload hx hb dX3_two_71 (lv_at hl 4 rfl) ?_
    refine k_if_eq (tgt := 83) hx hb dX3_two_73 (by decide) hf (fun hf => ?_) (fun hf => ?_)
    · refine lv_iconst (v := (0 : Int32)) hx hb dX3_two_83 (by decide) ?_
      refine lv_istore (lv' := [(5, .int (0 : Int32)), (0, .ref (a 0)), (1, .int x1), (2, .int x2), (3, .int x3), (4, .int x4)]) hx hb dX3_two_84 hl (by decide) rfl (fun ls hl => ?_)
      exact b86  N z x1 x2 x3 (0 : Int32) H locs ls hP hS (lv_sub hl [1, 2, 3, 4, 0] rfl) hf
    · refine lv_aload_n hx hb dX3_two_76 rfl (lv_at hl 0 rfl) ?_
      refine lv_iload hx hb dX3_two_77 (lv_at hl 4 rfl) ?_
      refine d_callV (As := [.int x4]) (rest := []) (w := (fun z => wMo cI a z)) (wc := (wMo cI a)) (put := (fun uq => uq)) (σ := z) (τ0 := z) ⟨hx, hb, hml, hown, hts⟩ hf (fun vq zq hq => mX3_no l D cI cJ a H.size N z x4 (vq, zq) hq) (cwV 1 hts gX3_two_X3_no rfl rfl rfl qX3_no ⟨Nat.le_of_ble_eq_true rfl, Nat.le_of_ble_eq_true rfl⟩) hK hP hD hS hA ⟨hP, hD _, fun _ _ _ h => h⟩ 3 rfl rfl rfl rfl hl.1 rfl (Nat.le_of_ble_eq_true rfl) dX3_two_79 ⟨Nat.le_refl _, Nat.le_refl _⟩ (fun v14 z13 H locs hP hS hf => ?_)
      exact W_iret (fun z => wMo cI a z) hx hb hr hlk hP hS hAe hf dX3_two_82
  have b67 : ∀  (z : St) (x1 : Int32) (x2 : Int32) (x3 : Int32) (H : Heap) (locs : List Loc) (ls : Array Slot), va_P D vwCl (wMo cI a z) H → va_S A s.heap H locs → lv_has ls 8 [(0, .ref (a 0)), (1, .int x1), (2, .int x2), (3, .int x3)] → fX3_two_L67 N z x1 x2 x3 = some r → W p l e rmX3_two s m ([.ref (a 0), .int p1, .int p2, .int p3] : List Value).toArray below meth c H locs 0 0 (MQ below (WQi sz D (wMo cI a σ) (wMo cI a (r.2)) r.1) ([.ref (a 0), .int p1, .int p2, .int p3] : List Value).toArray s 0 0 A) (F0 m 67 ls []) := by
    intro  z x1 x2 x3 H locs ls hP hS hl hf
    unfold fX3_two_L67 at hf
    refine lv_bipush (v := (-3 : Int32)) hx hb dX3_two_67 (by decide) ?_
    refine lv_istore (lv' := [(4, .int (-3 : Int32)), (0, .ref (a 0)), (1, .int x1), (2, .int x2), (3, .int x3)]) hx hb dX3_two_69 hl (by decide) rfl (fun ls hl => ?_)
    exact b71  z x1 x2 x3 (-3 : Int32) H locs ls hP hS (lv_sub hl [1, 2, 3, 4, 0] rfl) hf
  have b32 : ∀  (z : St) (x1 : Int32) (x2 : Int32) (x3 : Int32) (y0 : Int32) (H : Heap) (locs : List Loc) (ls : Array Slot), va_P D vwCl (wMo cI a z) H → va_S A s.heap H locs → lv_has ls 8 [(0, .ref (a 0)), (1, .int x1), (2, .int x2), (3, .int x3)] → fX3_two_L32 N z x1 x2 x3 y0 = some r → W p l e rmX3_two s m ([.ref (a 0), .int p1, .int p2, .int p3] : List Value).toArray below meth c H locs 0 0 (MQ below (WQi sz D (wMo cI a σ) (wMo cI a (r.2)) r.1) ([.ref (a 0), .int p1, .int p2, .int p3] : List Value).toArray s 0 0 A) (F0 m 32 ls [.int y0]) := by
    intro  z x1 x2 x3 y0 H locs ls hP hS hl hf
    unfold fX3_two_L32 at hf
    refine lv_istore (lv' := [(4, .int y0), (0, .ref (a 0)), (1, .int x1), (2, .int x2), (3, .int x3)]) hx hb dX3_two_32 hl (by decide) rfl (fun ls hl => ?_)
    refine lv_iload hx hb dX3_two_34 (lv_at hl 0 rfl) ?_
    refine k_if_ne (tgt := 71) hx hb dX3_two_36 (by decide) hf (fun hf => ?_) (fun hf => ?_)
    · exact b71  z x1 x2 x3 y0 H locs ls hP hS (lv_sub hl [1, 2, 3, 4, 0] rfl) hf
    · refine lv_aload_n hx hb dX3_two_39 rfl (lv_at hl 1 rfl) ?_
      refine va_get (D := D) (ci := 3) (v := .ref (a 1)) (C := RX3) (T := TX3) (N := 13) hx hb hts inX3 hown hK hP 0 rfl rfl 0 (by decide) ln1 (fun _ h9 => h9) rfl dX3_two_40 ?_
      refine lv_iload_n hx hb dX3_two_43 rfl (lv_at hl 2 rfl) ?_
      refine lv_iconst (v := (2 : Int32)) hx hb dX3_two_44 (by decide) ?_
      refine c_callS (As := [.int x1, .int (2 : Int32)]) (rest := [.ref (a 1)]) ⟨hx, hb, hml, hown, hts⟩ hf (fun vq hq => mX3_of l D cI cJ H.size N x1 (2 : Int32) vq hq) (va_cwS 2 hts gX3_two_X3_of rfl rfl rfl qX3_of ⟨Nat.le_of_ble_eq_true rfl, Nat.le_of_ble_eq_true rfl⟩) hK hP hS hA va_P_nil rfl hl.1 rfl (Nat.le_of_ble_eq_true rfl) dX3_two_45 ⟨Nat.le_refl _, Nat.le_refl _⟩ (fun v15 H locs hP hS hf => ?_)
      refine k_iald hx hb hK hP 1 0 hf rfl rfl dX3_two_48 (fun v16 hf => ?_)
      refine lv_iconst (v := (2 : Int32)) hx hb dX3_two_49 (by decide) ?_
      refine k_icmp_eq (tgt := 67) hx hb dX3_two_50 (by decide) hf (fun hf => ?_) (fun hf => ?_)
      · exact b67  z x1 x2 x3 H locs ls hP hS (lv_sub hl [1, 2, 3, 4] rfl) hf
      · refine lv_aload_n hx hb dX3_two_53 rfl (lv_at hl 1 rfl) ?_
        refine va_get (D := D) (ci := 3) (v := .ref (a 1)) (C := RX3) (T := TX3) (N := 13) hx hb hts inX3 hown hK hP 0 rfl rfl 0 (by decide) ln1 (fun _ h9 => h9) rfl dX3_two_54 ?_
        refine lv_iload_n hx hb dX3_two_57 rfl (lv_at hl 3 rfl) ?_
        refine lv_iconst (v := (2 : Int32)) hx hb dX3_two_58 (by decide) ?_
        refine c_callS (As := [.int x2, .int (2 : Int32)]) (rest := [.ref (a 1)]) ⟨hx, hb, hml, hown, hts⟩ hf (fun vq hq => mX3_of l D cI cJ H.size N x2 (2 : Int32) vq hq) (va_cwS 2 hts gX3_two_X3_of rfl rfl rfl qX3_of ⟨Nat.le_of_ble_eq_true rfl, Nat.le_of_ble_eq_true rfl⟩) hK hP hS hA va_P_nil rfl hl.1 rfl (Nat.le_of_ble_eq_true rfl) dX3_two_59 ⟨Nat.le_refl _, Nat.le_refl _⟩ (fun v17 H locs hP hS hf => ?_)
        refine k_iald hx hb hK hP 1 0 hf rfl rfl dX3_two_62 (fun v18 hf => ?_)
        refine lv_iconst (v := (2 : Int32)) hx hb dX3_two_63 (by decide) ?_
        refine k_icmp_ne (tgt := 71) hx hb dX3_two_64 (by decide) hf (fun hf => ?_) (fun hf => ?_)
        · exact b71  z x1 x2 x3 y0 H locs ls hP hS (lv_sub hl [1, 2, 3, 4, 0] rfl) hf
        · exact b67  z x1 x2 x3 H locs ls hP hS (lv_sub hl [1, 2, 3, 4] rfl) hf
  have b31 : ∀  (z : St) (x1 : Int32) (x2 : Int32) (x3 : Int32) (H : Heap) (locs : List Loc) (ls : Array Slot), va_P D vwCl (wMo cI a z) H → va_S A s.heap H locs → lv_has ls 8 [(0, .ref (a 0)), (1, .int x1), (2, .int x2), (3, .int x3)] → fX3_two_L31 N z x1 x2 x3 = some r → W p l e rmX3_two s m ([.ref (a 0), .int p1, .int p2, .int p3] : List Value).toArray below meth c H locs 0 0 (MQ below (WQi sz D (wMo cI a σ) (wMo cI a (r.2)) r.1) ([.ref (a 0), .int p1, .int p2, .int p3] : List Value).toArray s 0 0 A) (F0 m 31 ls []) := by
    intro  z x1 x2 x3 H locs ls hP hS hl hf
    unfold fX3_two_L31 at hf
    refine lv_iconst (v := (-1 : Int32)) hx hb dX3_two_31 (by decide) ?_
    exact b32  z x1 x2 x3 (-1 : Int32) H locs ls hP hS (lv_sub hl [0, 1, 2, 3] rfl) hf
  unfold fX3_two at hf
  refine lv_aload_n hx hb dX3_two_0 rfl (lv_at hl 0 rfl) ?_
  refine lv_iload_n hx hb dX3_two_1 rfl (lv_at hl 1 rfl) ?_
  refine c_callV (As := [.int p1]) (rest := []) ⟨hx, hb, hml, hown, hts⟩ hf (fun vq hq => mX3_isThing l D cI cJ a s.heap.size N σ p1 vq hq) (cwV 1 hts gX3_two_X3_isThing rfl rfl rfl qX3_isThing ⟨Nat.le_of_ble_eq_true rfl, Nat.le_of_ble_eq_true rfl⟩) hK hP hS hA hP 3 rfl rfl rfl rfl hl.1 rfl (Nat.le_of_ble_eq_true rfl) dX3_two_2 ⟨Nat.le_refl _, Nat.le_refl _⟩ (fun v1 H locs hP hS hf => ?_)
  refine k_if_eq (tgt := 31) hx hb dX3_two_5 (by decide) hf (fun hf => ?_) (fun hf => ?_)
  · exact b31  σ p1 p2 p3 H locs ls hP hS (lv_sub hl [0, 1, 2, 3] rfl) hf
  · refine lv_aload_n hx hb dX3_two_8 rfl (lv_at hl 0 rfl) ?_
    refine lv_iload_n hx hb dX3_two_9 rfl (lv_at hl 2 rfl) ?_
    refine c_callV (As := [.int p2]) (rest := []) ⟨hx, hb, hml, hown, hts⟩ hf (fun vq hq => mX3_isThing l D cI cJ a H.size N σ p2 vq hq) (cwV 1 hts gX3_two_X3_isThing rfl rfl rfl qX3_isThing ⟨Nat.le_of_ble_eq_true rfl, Nat.le_of_ble_eq_true rfl⟩) hK hP hS hA hP 3 rfl rfl rfl rfl hl.1 rfl (Nat.le_of_ble_eq_true rfl) dX3_two_10 ⟨Nat.le_refl _, Nat.le_refl _⟩ (fun v19 H locs hP hS hf => ?_)
    refine k_if_eq (tgt := 31) hx hb dX3_two_13 (by decide) hf (fun hf => ?_) (fun hf => ?_)
    · exact b31  σ p1 p2 p3 H locs ls hP hS (lv_sub hl [0, 1, 2, 3] rfl) hf
    · refine lv_iload_n hx hb dX3_two_16 rfl (lv_at hl 1 rfl) ?_
      refine lv_iload_n hx hb dX3_two_17 rfl (lv_at hl 2 rfl) ?_
      refine k_icmp_eq (tgt := 31) hx hb dX3_two_18 (by decide) hf (fun hf => ?_) (fun hf => ?_)
      · exact b31  σ p1 p2 p3 H locs ls hP hS (lv_sub hl [0, 1, 2, 3] rfl) hf
      · refine lv_iload_n hx hb dX3_two_21 rfl (lv_at hl 3 rfl) ?_
        refine lv_iconst (v := (0 : Int32)) hx hb dX3_two_22 (by decide) ?_
        refine lv_bipush (v := (30 : Int32)) hx hb dX3_two_23 (by decide) ?_
        refine c_callS (As := [.int p3, .int (0 : Int32), .int (30 : Int32)]) (rest := []) ⟨hx, hb, hml, hown, hts⟩ hf (fun vq hq => mX3_wrongBy l D cI cJ H.size N p3 (0 : Int32) (30 : Int32) vq hq) (va_cwS 3 hts gX3_two_X3_wrongBy rfl rfl rfl qX3_wrongBy ⟨Nat.le_of_ble_eq_true rfl, Nat.le_of_ble_eq_true rfl⟩) hK hP hS hA va_P_nil rfl hl.1 rfl (Nat.le_of_ble_eq_true rfl) dX3_two_25 ⟨Nat.le_refl _, Nat.le_refl _⟩ (fun v20 H locs hP hS hf => ?_)
        refine lv_goto (tgt := 32) hx hb dX3_two_28 (by decide) ?_
        exact b32  σ p1 p2 p3 v20 H locs ls hP hS (lv_sub hl [0, 1, 2, 3] rfl) hf
def fX3_gcd_L6 (N : Nat)  : Nat → Int64 → Int64 → Option Int64
  | 0, _, _ => none
  | n + 1, x4, x6 =>
    if x6 = (0 : Int64) then some x4
    else bo (rmL x4 x6) (fun v1 =>
    (fX3_gcd_L6 N n) x6 v1)
def fX3_gcd (N : Nat) (p1 : Int64) (p2 : Int64) : Option Int64 :=
    fX3_gcd_L6 N  N p1 p2
abbrev rmX3_gcd : Room := { frames := 0, cells := 0, slots := 0, locals := 0 }
theorem qX3_gcd : yX3_gcd.cls ≠ "java/lang/invoke/MethodHandle" ∧ yX3_gcd.cls ≠ "java/lang/invoke/VarHandle" ∧ (parseMethodDescriptor yX3_gcd.desc).map (fun d => d.parameters.length) = some 2 := by decide +kernel
set_option maxHeartbeats 400000 in
set_option maxRecDepth 100000 in
theorem mX3_gcd (l : Launch) (D : va_G) (cI cJ : ClassId) (sz N : Nat) (p1 : Int64) (p2 : Int64) (r : Int64) (hf : fX3_gcd N p1 p2 = some r) : Met l yX3_gcd wsX3_gcd rmX3_gcd (RPre ([.long p1, .long p2] : List Value) sz D (tyIJ cI cJ) (wNo)) (RQl sz r) 0 0 (fr0 sz) := by
  refine R_start (cc := cX3_gcd) (maxL := 10) (ret := (some .long)) (by decide) rfl (Nat.le_of_ble_eq_true rfl) (fun p e s m below meth c ls hx hb hr hml hown hts hlk hP hK hS hA hsz hl => ?_)
  have hown : s.vm.findClass RX3 = some m.cls := hown
  have hl : lv_has ls 10 [(0, .long p1), (2, .long p2)] := hl
  have b6 : ∀  (n : Nat) (x4 : Int64) (x6 : Int64) (H : Heap) (locs : List Loc) (ls : Array Slot), va_P D vwCl (wNo) H → va_S (fr0 s.heap.size) s.heap H locs → lv_has ls 10 [(4, .long x4), (6, .long x6)] → fX3_gcd_L6 N n x4 x6 = some r → W p l e rmX3_gcd s m ([.long p1, .long p2] : List Value).toArray below meth c H locs 0 0 (MQ below (RQl sz r) ([.long p1, .long p2] : List Value).toArray s 0 0 (fr0 sz)) (F0 m 6 ls []) := by
    intro n
    induction n with
    | zero => intro x4 x6 H locs ls hP hS hl hf; cases hf
    | succ n ih =>
      intro x4 x6 H locs ls hP hS hl hf
      rw [fX3_gcd_L6] at hf
      refine lv_lload hx hb dX3_gcd_6 (lv_at hl 1 rfl) ?_
      refine lv_lconst (v := (0 : Int64)) hx hb dX3_gcd_8 (by decide) ?_
      refine k_lcmp_eq (tgt := 31) hx hb dX3_gcd_9 dX3_gcd_10 (by decide) hf (fun hf => ?_) (fun hf => ?_)
      · refine lv_lload hx hb dX3_gcd_31 (lv_at hl 0 rfl) ?_
        exact R_lret hx hb hr hlk hS hsz hf dX3_gcd_33
      · refine lv_lload hx hb dX3_gcd_13 (lv_at hl 0 rfl) ?_
        refine lv_lload hx hb dX3_gcd_15 (lv_at hl 1 rfl) ?_
        refine k_lrem hx hb dX3_gcd_17 hf (fun v1 hf => ?_)
        refine lv_lstore (lv' := [(8, .long v1), (4, .long x4), (6, .long x6)]) hx hb dX3_gcd_18 hl (by decide) rfl (fun ls hl => ?_)
        refine lv_lload hx hb dX3_gcd_20 (lv_at hl 2 rfl) ?_
        refine lv_lstore (lv' := [(4, .long x6), (8, .long v1), (6, .long x6)]) hx hb dX3_gcd_22 hl (by decide) rfl (fun ls hl => ?_)
        refine lv_lload hx hb dX3_gcd_24 (lv_at hl 1 rfl) ?_
        refine lv_lstore (lv' := [(6, .long v1), (4, .long x6), (8, .long v1)]) hx hb dX3_gcd_26 hl (by decide) rfl (fun ls hl => ?_)
        refine lv_goto (tgt := 6) hx hb dX3_gcd_28 (by decide) ?_
        exact ih x6 v1 H locs ls hP hS (lv_sub hl [1, 0] rfl) hf
  unfold fX3_gcd at hf
  refine lv_lload_n hx hb dX3_gcd_0 rfl (lv_at hl 0 rfl) ?_
  refine lv_lstore (lv' := [(4, .long p1), (0, .long p1), (2, .long p2)]) hx hb dX3_gcd_1 hl (by decide) rfl (fun ls hl => ?_)
  refine lv_lload_n hx hb dX3_gcd_3 rfl (lv_at hl 2 rfl) ?_
  refine lv_lstore (lv' := [(6, .long p2), (4, .long p1), (0, .long p1), (2, .long p2)]) hx hb dX3_gcd_4 hl (by decide) rfl (fun ls hl => ?_)
  exact b6  N p1 p2 s.heap [] ls hP hS (lv_sub hl [1, 0] rfl) hf
def fX3_partOf_L20 (N : Nat)  (x0 : Int64) (x2 : Int64) (y0 : Int64) : Option Int64 :=
    bo (fX3_gcd N x0 x2) (fun v1 =>
    bo (dvL y0 v1) (fun v2 =>
    some v2))
def fX3_partOf (N : Nat) (p1 : Int64) (p2 : Int64) (p3 : Int32) : Option Int64 :=
    if p1 = (0 : Int64) then some (p3.toInt64)
    else if p3 = 0 then fX3_partOf_L20 N  p1 p2 p1
    else fX3_partOf_L20 N  p1 p2 p2
abbrev rmX3_partOf : Room := { frames := 1, cells := 0, slots := 0, locals := 29 }
theorem qX3_partOf : yX3_partOf.cls ≠ "java/lang/invoke/MethodHandle" ∧ yX3_partOf.cls ≠ "java/lang/invoke/VarHandle" ∧ (parseMethodDescriptor yX3_partOf.desc).map (fun d => d.parameters.length) = some 3 := by decide +kernel
set_option maxHeartbeats 400000 in
set_option maxRecDepth 100000 in
theorem mX3_partOf (l : Launch) (D : va_G) (cI cJ : ClassId) (sz N : Nat) (p1 : Int64) (p2 : Int64) (p3 : Int32) (r : Int64) (hf : fX3_partOf N p1 p2 p3 = some r) : Met l yX3_partOf wsX3_partOf rmX3_partOf (RPre ([.long p1, .long p2, .int p3] : List Value) sz D (tyIJ cI cJ) (wNo)) (RQl sz r) 0 0 (fr0 sz) := by
  refine R_start (cc := cX3_partOf) (maxL := 5) (ret := (some .long)) (by decide) rfl (Nat.le_of_ble_eq_true rfl) (fun p e s m below meth c ls hx hb hr hml hown hts hlk hP hK hS hA hsz hl => ?_)
  have hown : s.vm.findClass RX3 = some m.cls := hown
  have hl : lv_has ls 5 [(0, .long p1), (2, .long p2), (4, .int p3)] := hl
  have b20 : ∀  (x0 : Int64) (x2 : Int64) (y0 : Int64) (H : Heap) (locs : List Loc) (ls : Array Slot), va_P D vwCl (wNo) H → va_S (fr0 s.heap.size) s.heap H locs → lv_has ls 5 [(0, .long x0), (2, .long x2)] → fX3_partOf_L20 N x0 x2 y0 = some r → W p l e rmX3_partOf s m ([.long p1, .long p2, .int p3] : List Value).toArray below meth c H locs 0 0 (MQ below (RQl sz r) ([.long p1, .long p2, .int p3] : List Value).toArray s 0 0 (fr0 sz)) (F0 m 20 ls [.long y0]) := by
    intro  x0 x2 y0 H locs ls hP hS hl hf
    unfold fX3_partOf_L20 at hf
    refine lv_lload_n hx hb dX3_partOf_20 rfl (lv_at hl 0 rfl) ?_
    refine lv_lload_n hx hb dX3_partOf_21 rfl (lv_at hl 1 rfl) ?_
    refine c_callSL (As := [.long x0, .long x2]) (rest := [.long y0]) ⟨hx, hb, hml, hown, hts⟩ hf (fun vq hq => mX3_gcd l D cI cJ H.size N x0 x2 vq hq) (va_cwS 2 hts gX3_partOf_X3_gcd rfl rfl rfl qX3_gcd ⟨Nat.le_of_ble_eq_true rfl, Nat.le_of_ble_eq_true rfl⟩) hK hP hS hA hP rfl hl.1 rfl (Nat.le_of_ble_eq_true rfl) dX3_partOf_22 ⟨Nat.le_refl _, Nat.le_refl _⟩ (fun v1 H locs hP hS hf => ?_)
    refine k_ldiv hx hb dX3_partOf_25 hf (fun v2 hf => ?_)
    exact R_lret hx hb hr hlk hS hsz hf dX3_partOf_26
  unfold fX3_partOf at hf
  refine lv_lload_n hx hb dX3_partOf_0 rfl (lv_at hl 0 rfl) ?_
  refine lv_lconst (v := (0 : Int64)) hx hb dX3_partOf_1 (by decide) ?_
  refine k_lcmp_ne (tgt := 10) hx hb dX3_partOf_2 dX3_partOf_3 (by decide) hf (fun hf => ?_) (fun hf => ?_)
  · refine lv_iload hx hb dX3_partOf_10 (lv_at hl 2 rfl) ?_
    refine k_if_ne (tgt := 19) hx hb dX3_partOf_12 (by decide) hf (fun hf => ?_) (fun hf => ?_)
    · refine lv_lload_n hx hb dX3_partOf_19 rfl (lv_at hl 1 rfl) ?_
      exact b20  p1 p2 p2 s.heap [] ls hP hS (lv_sub hl [0, 1] rfl) hf
    · refine lv_lload_n hx hb dX3_partOf_15 rfl (lv_at hl 0 rfl) ?_
      refine lv_goto (tgt := 20) hx hb dX3_partOf_16 (by decide) ?_
      exact b20  p1 p2 p1 s.heap [] ls hP hS (lv_sub hl [0, 1] rfl) hf
  · refine lv_iload hx hb dX3_partOf_6 (lv_at hl 2 rfl) ?_
    refine lv_i2l hx hb dX3_partOf_8 rfl ?_
    exact R_lret hx hb hr hlk hS hsz hf dX3_partOf_9
def fX3_draught_L13 (N : Nat)  (z : St) : Option (Int64 × St) :=
    bx (fX3_noWide N z (-4 : Int32)) (fun uq => uq) (fun v2 z1 =>
    some (v2, z1))
def fX3_draught_L38 (N : Nat)  (z : St) : Option (Int64 × St) :=
    bx (fX3_noWide N z (-6 : Int32)) (fun uq => uq) (fun v4 z3 =>
    some (v4, z3))
def fX3_draught_L194 (N : Nat) (k93 : St → Int32 → Int32 → Int32 → Int32 → Int64 → Int64 → Int32 → Option (Int64 × St)) (z : St) (x1 : Int32) (x2 : Int32) (x3 : Int32) (x4 : Int32) (x7 : Int64) (x9 : Int32) (y0 : Int64) (y1 : Int64) : Option (Int64 × St) :=
    lt_ ((y1 + y0) : Int64) (fun v9 =>
    lt_ (x9 + (1 : Int32) : Int32) (fun v10 =>
    k93 z x1 x2 x3 x4 v9 x7 v10))
def fX3_draught_L167 (N : Nat) (k93 : St → Int32 → Int32 → Int32 → Int32 → Int64 → Int64 → Int32 → Option (Int64 × St)) (k118 : St → Int32 → Int32 → Int32 → Int32 → Int64 → Int64 → Int32 → Int64 → Int32 → Option (Int64 × St)) (z : St) (x1 : Int32) (x2 : Int32) (x3 : Int32) (x4 : Int32) (x5 : Int64) (x7 : Int64) (x9 : Int32) (x10 : Int64) (x12 : Int32) (y0 : Int32) : Option (Int64 × St) :=
    by_ (fX3_day N (sb [2] z) y0) (fun uq => pb [2] uq z) (fun z14 =>
    lt_ (x12 + (1 : Int32) : Int32) (fun v15 =>
    k118 z14 x1 x2 x3 x4 x5 x7 x9 x10 v15))
def fX3_draught_L144 (N : Nat) (k93 : St → Int32 → Int32 → Int32 → Int32 → Int64 → Int64 → Int32 → Option (Int64 × St)) (k118 : St → Int32 → Int32 → Int32 → Int32 → Int64 → Int64 → Int32 → Int64 → Int32 → Option (Int64 × St)) (z : St) (x1 : Int32) (x2 : Int32) (x3 : Int32) (x4 : Int32) (x5 : Int64) (x7 : Int64) (x9 : Int32) (x12 : Int32) (y0 : Int64) (y1 : Int64) : Option (Int64 × St) :=
    lt_ ((y1 * y0) : Int64) (fun v12 =>
    bo (fX3_has N x9 x12) (fun v13 =>
    if v13 = 0 then fX3_draught_L167 N k93 k118 z x1 x2 x3 x4 x5 x7 x9 v12 x12 (0 : Int32)
    else fX3_draught_L167 N k93 k118 z x1 x2 x3 x4 x5 x7 x9 v12 x12 (-8 : Int32)))
def fX3_draught_L118 (N : Nat) (k93 : St → Int32 → Int32 → Int32 → Int32 → Int64 → Int64 → Int32 → Option (Int64 × St)) : Nat → St → Int32 → Int32 → Int32 → Int32 → Int64 → Int64 → Int32 → Int64 → Int32 → Option (Int64 × St)
  | 0, _, _, _, _, _, _, _, _, _, _ => none
  | n + 1, z, x1, x2, x3, x4, x5, x7, x9, x10, x12 =>
    if x1 ≤ x12 then bo (rdI z 2 38 (2 : Int32)) (fun v8 =>
    if v8 < x3 then fX3_draught_L194 N k93 z x1 x2 x3 x4 x7 x9 (0 : Int64) x5
    else fX3_draught_L194 N k93 z x1 x2 x3 x4 x7 x9 x10 x5)
    else bo (fX3_has N x9 x12) (fun v11 =>
    if v11 = 0 then fX3_draught_L144 N k93 (fX3_draught_L118 N k93 n) z x1 x2 x3 x4 x5 x7 x9 x12 ((x2 - (1 : Int32)).toInt64) x10
    else fX3_draught_L144 N k93 (fX3_draught_L118 N k93 n) z x1 x2 x3 x4 x5 x7 x9 x12 (1 : Int64) x10)
def fX3_draught_L93 (N : Nat)  : Nat → St → Int32 → Int32 → Int32 → Int32 → Int64 → Int64 → Int32 → Option (Int64 × St)
  | 0, _, _, _, _, _, _, _, _ => none
  | n + 1, z, x1, x2, x3, x4, x5, x7, x9 =>
    if ((1 : Int32) <<< (x1 &&& 31)) ≤ x9 then bo (fX3_partOf N x5 x7 x4) (fun v6 =>
    some (v6, z))
    else by_ (fX3_copies N (sb [1, 2] z)) (fun uq => pb [1, 2] uq z) (fun z7 =>
    fX3_draught_L118 N (fX3_draught_L93 N n) N z7 x1 x2 x3 x4 x5 x7 x9 (1 : Int64) (0 : Int32))
def fX3_draught_L71 (N : Nat)  : Nat → St → Int32 → Int32 → Int32 → Int32 → Int64 → Int64 → Int32 → Option (Int64 × St)
  | 0, _, _, _, _, _, _, _, _ => none
  | n + 1, z, x1, x2, x3, x4, x5, x7, x9 =>
    if x1 ≤ x9 then fX3_draught_L93 N  N z x1 x2 x3 x4 x5 x7 (0 : Int32)
    else lt_ ((x7 * (x2.toInt64)) : Int64) (fun v16 =>
    lt_ (x9 + (1 : Int32) : Int32) (fun v17 =>
    (fX3_draught_L71 N n) z x1 x2 x3 x4 x5 v16 v17))
def fX3_draught (N : Nat) (σ : St) (p1 : Int32) (p2 : Int32) (p3 : Int32) (p4 : Int32) : Option (Int64 × St) :=
    if p1 < 0 then fX3_draught_L13 N  σ
    else if p3 < 0 then fX3_draught_L13 N  σ
    else if (2 : Int32) ≤ p2 then if (7 : Int32) < p1 then fX3_draught_L38 N  σ
    else if (20 : Int32) < p2 then fX3_draught_L38 N  σ
    else if p3 ≤ (20 : Int32) then bo (fX3_isIn N p4 (0 : Int32) (1 : Int32)) (fun v5 =>
    if v5 = 0 then bx (fX3_noWide N σ (-2 : Int32)) (fun uq => uq) (fun v19 z18 =>
    some (v19, z18))
    else fX3_draught_L71 N  N σ p1 p2 p3 p4 (0 : Int64) (1 : Int64) (0 : Int32))
    else fX3_draught_L38 N  σ
    else fX3_draught_L13 N  σ
abbrev rmX3_draught : Room := { frames := 7, cells := 0, slots := 0, locals := 156 }
theorem qX3_draught : yX3_draught.cls = RX3 ∧ yX3_draught.cls ≠ "java/lang/invoke/MethodHandle" ∧ yX3_draught.cls ≠ "java/lang/invoke/VarHandle" ∧ (parseMethodDescriptor yX3_draught.desc).map (fun d => d.parameters.length) = some 4 := by decide +kernel
set_option maxHeartbeats 400000 in
set_option maxRecDepth 100000 in
theorem mX3_draught (l : Launch) (D : va_G) (cI cJ : ClassId) (a : Nat → Nat) (sz N : Nat) (σ : St) (p1 : Int32) (p2 : Int32) (p3 : Int32) (p4 : Int32) (r : (Int64 × St)) (hf : fX3_draught N σ p1 p2 p3 p4 = some r) : Met l yX3_draught wsX3_draught rmX3_draught (WPre ([.ref (a 0), .int p1, .int p2, .int p3, .int p4] : List Value) sz D (tyIJ cI cJ) (wMo cI a σ)) (WQl sz D (wMo cI a σ) (wMo cI a (r.2)) r.1) 0 0 (va_A (wMo cI a σ) sz) := by
  refine W_start (cc := cX3_draught) (maxL := 13) (ret := (some .long)) (by decide) rfl (Nat.le_of_ble_eq_true rfl) (fun p e s m below meth c ls A hx hb hr hml hown hts hlk hP hK hS hA hD0 hAe hl => ?_)
  have hD : ∀ z, va_D A ((fun z => wMo cI a z) z) := fun z => hD0.ad rfl
  have hown : s.vm.findClass RX3 = some m.cls := hown
  have hl : lv_has ls 13 [(0, .ref (a 0)), (1, .int p1), (2, .int p2), (3, .int p3), (4, .int p4)] := hl
  have ln1 := hts (Cond.fieldLink RX3 9 "HoistsAreSharedModel" "s" "[I") (List.mem_of_getElem? (i := 1) rfl)
  have inX3 : ∀ w ∈ u_ws RX3 TX3 13, w ∈ wsX3_draught := fun _ h => List.mem_cons_of_mem _ (List.mem_append_right _ h)
  have ln3 := hts (Cond.fieldLink RX3 13 "HoistsAreSharedModel" "m" "[I") (List.mem_of_getElem? (i := 2) rfl)
  have b13 : ∀  (z : St) (H : Heap) (locs : List Loc) (ls : Array Slot), va_P D vwCl (wMo cI a z) H → va_S A s.heap H locs → lv_has ls 13 [(0, .ref (a 0))] → fX3_draught_L13 N z = some r → W p l e rmX3_draught s m ([.ref (a 0), .int p1, .int p2, .int p3, .int p4] : List Value).toArray below meth c H locs 0 0 (MQ below (WQl sz D (wMo cI a σ) (wMo cI a (r.2)) r.1) ([.ref (a 0), .int p1, .int p2, .int p3, .int p4] : List Value).toArray s 0 0 A) (F0 m 13 ls []) := by
    intro  z H locs ls hP hS hl hf
    unfold fX3_draught_L13 at hf
    refine lv_aload_n hx hb dX3_draught_13 rfl (lv_at hl 0 rfl) ?_
    refine lv_bipush (v := (-4 : Int32)) hx hb dX3_draught_14 (by decide) ?_
    refine d_callVL (As := [.int (-4 : Int32)]) (rest := []) (w := (fun z => wMo cI a z)) (wc := (wMo cI a)) (put := (fun uq => uq)) (σ := z) (τ0 := z) ⟨hx, hb, hml, hown, hts⟩ hf (fun vq zq hq => mX3_noWide l D cI cJ a H.size N z (-4 : Int32) (vq, zq) hq) (cwV 1 hts gX3_draught_X3_noWide rfl rfl rfl qX3_noWide ⟨Nat.le_of_ble_eq_true rfl, Nat.le_of_ble_eq_true rfl⟩) hK hP hD hS hA ⟨hP, hD _, fun _ _ _ h => h⟩ 3 rfl rfl rfl rfl hl.1 rfl (Nat.le_of_ble_eq_true rfl) dX3_draught_16 ⟨Nat.le_refl _, Nat.le_refl _⟩ (fun v2 z1 H locs hP hS hf => ?_)
    exact W_lret (fun z => wMo cI a z) hx hb hr hlk hP hS hAe hf dX3_draught_19
  have b38 : ∀  (z : St) (H : Heap) (locs : List Loc) (ls : Array Slot), va_P D vwCl (wMo cI a z) H → va_S A s.heap H locs → lv_has ls 13 [(0, .ref (a 0))] → fX3_draught_L38 N z = some r → W p l e rmX3_draught s m ([.ref (a 0), .int p1, .int p2, .int p3, .int p4] : List Value).toArray below meth c H locs 0 0 (MQ below (WQl sz D (wMo cI a σ) (wMo cI a (r.2)) r.1) ([.ref (a 0), .int p1, .int p2, .int p3, .int p4] : List Value).toArray s 0 0 A) (F0 m 38 ls []) := by
    intro  z H locs ls hP hS hl hf
    unfold fX3_draught_L38 at hf
    refine lv_aload_n hx hb dX3_draught_38 rfl (lv_at hl 0 rfl) ?_
    refine lv_bipush (v := (-6 : Int32)) hx hb dX3_draught_39 (by decide) ?_
    refine d_callVL (As := [.int (-6 : Int32)]) (rest := []) (w := (fun z => wMo cI a z)) (wc := (wMo cI a)) (put := (fun uq => uq)) (σ := z) (τ0 := z) ⟨hx, hb, hml, hown, hts⟩ hf (fun vq zq hq => mX3_noWide l D cI cJ a H.size N z (-6 : Int32) (vq, zq) hq) (cwV 1 hts gX3_draught_X3_noWide rfl rfl rfl qX3_noWide ⟨Nat.le_of_ble_eq_true rfl, Nat.le_of_ble_eq_true rfl⟩) hK hP hD hS hA ⟨hP, hD _, fun _ _ _ h => h⟩ 3 rfl rfl rfl rfl hl.1 rfl (Nat.le_of_ble_eq_true rfl) dX3_draught_41 ⟨Nat.le_refl _, Nat.le_refl _⟩ (fun v4 z3 H locs hP hS hf => ?_)
    exact W_lret (fun z => wMo cI a z) hx hb hr hlk hP hS hAe hf dX3_draught_44
  have b194 : ∀ (k93 : St → Int32 → Int32 → Int32 → Int32 → Int64 → Int64 → Int32 → Option (Int64 × St)) (hk93 : (∀ (z : St) (x1 : Int32) (x2 : Int32) (x3 : Int32) (x4 : Int32) (x5 : Int64) (x7 : Int64) (x9 : Int32) (H : Heap) (locs : List Loc) (ls : Array Slot), va_P D vwCl (wMo cI a z) H → va_S A s.heap H locs → lv_has ls 13 [(0, .ref (a 0)), (1, .int x1), (2, .int x2), (3, .int x3), (4, .int x4), (5, .long x5), (7, .long x7), (9, .int x9)] → k93 z x1 x2 x3 x4 x5 x7 x9 = some r → W p l e rmX3_draught s m ([.ref (a 0), .int p1, .int p2, .int p3, .int p4] : List Value).toArray below meth c H locs 0 0 (MQ below (WQl sz D (wMo cI a σ) (wMo cI a (r.2)) r.1) ([.ref (a 0), .int p1, .int p2, .int p3, .int p4] : List Value).toArray s 0 0 A) (F0 m 93 ls []))) (z : St) (x1 : Int32) (x2 : Int32) (x3 : Int32) (x4 : Int32) (x7 : Int64) (x9 : Int32) (y0 : Int64) (y1 : Int64) (H : Heap) (locs : List Loc) (ls : Array Slot), va_P D vwCl (wMo cI a z) H → va_S A s.heap H locs → lv_has ls 13 [(0, .ref (a 0)), (1, .int x1), (2, .int x2), (3, .int x3), (4, .int x4), (7, .long x7), (9, .int x9)] → fX3_draught_L194 N k93 z x1 x2 x3 x4 x7 x9 y0 y1 = some r → W p l e rmX3_draught s m ([.ref (a 0), .int p1, .int p2, .int p3, .int p4] : List Value).toArray below meth c H locs 0 0 (MQ below (WQl sz D (wMo cI a σ) (wMo cI a (r.2)) r.1) ([.ref (a 0), .int p1, .int p2, .int p3, .int p4] : List Value).toArray s 0 0 A) (F0 m 194 ls [.long y0, .long y1]) := by
    intro k93 hk93 z x1 x2 x3 x4 x7 x9 y0 y1 H locs ls hP hS hl hf
    unfold fX3_draught_L194 at hf
    refine lv_ladd hx hb dX3_draught_194 ?_
    refine k_letL hf (fun v9 hf => ?_)
    refine lv_lstore (lv' := [(5, .long v9), (0, .ref (a 0)), (1, .int x1), (2, .int x2), (3, .int x3), (4, .int x4), (7, .long x7), (9, .int x9)]) hx hb dX3_draught_195 hl (by decide) rfl (fun ls hl => ?_)
    refine k_iinc (d := (1 : Int32)) (lv' := fun v10 => [(9, .int v10), (5, .long v9), (0, .ref (a 0)), (1, .int x1), (2, .int x2), (3, .int x3), (4, .int x4), (7, .long x7)]) hx hb dX3_draught_197 hl (k := 7) rfl (by decide) (by decide) (fun _ => rfl) hf (fun v10 ls hl hf => ?_)
    refine lv_goto (tgt := 93) hx hb dX3_draught_200 (by decide) ?_
    exact hk93 z x1 x2 x3 x4 v9 x7 v10 H locs ls hP hS (lv_sub hl [2, 3, 4, 5, 6, 1, 7, 0] rfl) hf
  have b167 : ∀ (k93 : St → Int32 → Int32 → Int32 → Int32 → Int64 → Int64 → Int32 → Option (Int64 × St)) (hk93 : (∀ (z : St) (x1 : Int32) (x2 : Int32) (x3 : Int32) (x4 : Int32) (x5 : Int64) (x7 : Int64) (x9 : Int32) (H : Heap) (locs : List Loc) (ls : Array Slot), va_P D vwCl (wMo cI a z) H → va_S A s.heap H locs → lv_has ls 13 [(0, .ref (a 0)), (1, .int x1), (2, .int x2), (3, .int x3), (4, .int x4), (5, .long x5), (7, .long x7), (9, .int x9)] → k93 z x1 x2 x3 x4 x5 x7 x9 = some r → W p l e rmX3_draught s m ([.ref (a 0), .int p1, .int p2, .int p3, .int p4] : List Value).toArray below meth c H locs 0 0 (MQ below (WQl sz D (wMo cI a σ) (wMo cI a (r.2)) r.1) ([.ref (a 0), .int p1, .int p2, .int p3, .int p4] : List Value).toArray s 0 0 A) (F0 m 93 ls []))) (k118 : St → Int32 → Int32 → Int32 → Int32 → Int64 → Int64 → Int32 → Int64 → Int32 → Option (Int64 × St)) (hk118 : (∀ (z : St) (x1 : Int32) (x2 : Int32) (x3 : Int32) (x4 : Int32) (x5 : Int64) (x7 : Int64) (x9 : Int32) (x10 : Int64) (x12 : Int32) (H : Heap) (locs : List Loc) (ls : Array Slot), va_P D vwCl (wMo cI a z) H → va_S A s.heap H locs → lv_has ls 13 [(0, .ref (a 0)), (1, .int x1), (2, .int x2), (3, .int x3), (4, .int x4), (5, .long x5), (7, .long x7), (9, .int x9), (10, .long x10), (12, .int x12)] → k118 z x1 x2 x3 x4 x5 x7 x9 x10 x12 = some r → W p l e rmX3_draught s m ([.ref (a 0), .int p1, .int p2, .int p3, .int p4] : List Value).toArray below meth c H locs 0 0 (MQ below (WQl sz D (wMo cI a σ) (wMo cI a (r.2)) r.1) ([.ref (a 0), .int p1, .int p2, .int p3, .int p4] : List Value).toArray s 0 0 A) (F0 m 118 ls []))) (z : St) (x1 : Int32) (x2 : Int32) (x3 : Int32) (x4 : Int32) (x5 : Int64) (x7 : Int64) (x9 : Int32) (x10 : Int64) (x12 : Int32) (y0 : Int32) (H : Heap) (locs : List Loc) (ls : Array Slot), va_P D vwCl (wMo cI a z) H → va_S A s.heap H locs → lv_has ls 13 [(0, .ref (a 0)), (1, .int x1), (2, .int x2), (3, .int x3), (4, .int x4), (5, .long x5), (7, .long x7), (9, .int x9), (10, .long x10), (12, .int x12)] → fX3_draught_L167 N k93 k118 z x1 x2 x3 x4 x5 x7 x9 x10 x12 y0 = some r → W p l e rmX3_draught s m ([.ref (a 0), .int p1, .int p2, .int p3, .int p4] : List Value).toArray below meth c H locs 0 0 (MQ below (WQl sz D (wMo cI a σ) (wMo cI a (r.2)) r.1) ([.ref (a 0), .int p1, .int p2, .int p3, .int p4] : List Value).toArray s 0 0 A) (F0 m 167 ls [.int y0, .ref (a 2)]) := by
    intro k93 hk93 k118 hk118 z x1 x2 x3 x4 x5 x7 x9 x10 x12 y0 H locs ls hP hS hl hf
    unfold fX3_draught_L167 at hf
    refine d_callSv (As := [.ref ((sb [2] a) 0), .int y0]) (rest := []) (w := (fun z => wMo cI a z)) (wc := (wAr cI (sb [2] a))) (put := (fun uq => pb [2] uq z)) (σ := z) (τ0 := (sb [2] z)) ⟨hx, hb, hml, hown, hts⟩ hf (fun zq hq => mX3_day l D cI cJ (sb [2] a) H.size N (sb [2] z) y0 zq hq) (va_cwS 2 hts gX3_draught_X3_day rfl rfl rfl qX3_day ⟨Nat.le_of_ble_eq_true rfl, Nat.le_of_ble_eq_true rfl⟩) hK hP hD hS hA (cmb_Mo_Ar_2 D cI a z hP (hD _)) rfl hl.1 rfl (Nat.le_of_ble_eq_true rfl) dX3_draught_167 ⟨Nat.le_refl _, Nat.le_refl _⟩ (fun z14 H locs hP hS hf => ?_)
    refine k_iinc (d := (1 : Int32)) (lv' := fun v15 => [(12, .int v15), (0, .ref (a 0)), (1, .int x1), (2, .int x2), (3, .int x3), (4, .int x4), (5, .long x5), (7, .long x7), (9, .int x9), (10, .long x10)]) hx hb dX3_draught_170 hl (k := 9) rfl (by decide) (by decide) (fun _ => rfl) hf (fun v15 ls hl hf => ?_)
    refine lv_goto (tgt := 118) hx hb dX3_draught_173 (by decide) ?_
    exact hk118 z14 x1 x2 x3 x4 x5 x7 x9 x10 v15 H locs ls hP hS (lv_sub hl [1, 2, 3, 4, 5, 6, 7, 8, 9, 0] rfl) hf
  have b144 : ∀ (k93 : St → Int32 → Int32 → Int32 → Int32 → Int64 → Int64 → Int32 → Option (Int64 × St)) (hk93 : (∀ (z : St) (x1 : Int32) (x2 : Int32) (x3 : Int32) (x4 : Int32) (x5 : Int64) (x7 : Int64) (x9 : Int32) (H : Heap) (locs : List Loc) (ls : Array Slot), va_P D vwCl (wMo cI a z) H → va_S A s.heap H locs → lv_has ls 13 [(0, .ref (a 0)), (1, .int x1), (2, .int x2), (3, .int x3), (4, .int x4), (5, .long x5), (7, .long x7), (9, .int x9)] → k93 z x1 x2 x3 x4 x5 x7 x9 = some r → W p l e rmX3_draught s m ([.ref (a 0), .int p1, .int p2, .int p3, .int p4] : List Value).toArray below meth c H locs 0 0 (MQ below (WQl sz D (wMo cI a σ) (wMo cI a (r.2)) r.1) ([.ref (a 0), .int p1, .int p2, .int p3, .int p4] : List Value).toArray s 0 0 A) (F0 m 93 ls []))) (k118 : St → Int32 → Int32 → Int32 → Int32 → Int64 → Int64 → Int32 → Int64 → Int32 → Option (Int64 × St)) (hk118 : (∀ (z : St) (x1 : Int32) (x2 : Int32) (x3 : Int32) (x4 : Int32) (x5 : Int64) (x7 : Int64) (x9 : Int32) (x10 : Int64) (x12 : Int32) (H : Heap) (locs : List Loc) (ls : Array Slot), va_P D vwCl (wMo cI a z) H → va_S A s.heap H locs → lv_has ls 13 [(0, .ref (a 0)), (1, .int x1), (2, .int x2), (3, .int x3), (4, .int x4), (5, .long x5), (7, .long x7), (9, .int x9), (10, .long x10), (12, .int x12)] → k118 z x1 x2 x3 x4 x5 x7 x9 x10 x12 = some r → W p l e rmX3_draught s m ([.ref (a 0), .int p1, .int p2, .int p3, .int p4] : List Value).toArray below meth c H locs 0 0 (MQ below (WQl sz D (wMo cI a σ) (wMo cI a (r.2)) r.1) ([.ref (a 0), .int p1, .int p2, .int p3, .int p4] : List Value).toArray s 0 0 A) (F0 m 118 ls []))) (z : St) (x1 : Int32) (x2 : Int32) (x3 : Int32) (x4 : Int32) (x5 : Int64) (x7 : Int64) (x9 : Int32) (x12 : Int32) (y0 : Int64) (y1 : Int64) (H : Heap) (locs : List Loc) (ls : Array Slot), va_P D vwCl (wMo cI a z) H → va_S A s.heap H locs → lv_has ls 13 [(0, .ref (a 0)), (1, .int x1), (2, .int x2), (3, .int x3), (4, .int x4), (5, .long x5), (7, .long x7), (9, .int x9), (12, .int x12)] → fX3_draught_L144 N k93 k118 z x1 x2 x3 x4 x5 x7 x9 x12 y0 y1 = some r → W p l e rmX3_draught s m ([.ref (a 0), .int p1, .int p2, .int p3, .int p4] : List Value).toArray below meth c H locs 0 0 (MQ below (WQl sz D (wMo cI a σ) (wMo cI a (r.2)) r.1) ([.ref (a 0), .int p1, .int p2, .int p3, .int p4] : List Value).toArray s 0 0 A) (F0 m 144 ls [.long y0, .long y1]) := by
    intro k93 hk93 k118 hk118 z x1 x2 x3 x4 x5 x7 x9 x12 y0 y1 H locs ls hP hS hl hf
    unfold fX3_draught_L144 at hf
    refine lv_lmul hx hb dX3_draught_144 ?_
    refine k_letL hf (fun v12 hf => ?_)
    refine lv_lstore (lv' := [(10, .long v12), (0, .ref (a 0)), (1, .int x1), (2, .int x2), (3, .int x3), (4, .int x4), (5, .long x5), (7, .long x7), (9, .int x9), (12, .int x12)]) hx hb dX3_draught_145 hl (by decide) rfl (fun ls hl => ?_)
    refine lv_aload_n hx hb dX3_draught_147 rfl (lv_at hl 1 rfl) ?_
    refine va_get (D := D) (ci := 3) (v := .ref (a 2)) (C := RX3) (T := TX3) (N := 13) hx hb hts inX3 hown hK hP 0 rfl rfl 1 (by decide) ln3 (fun _ h9 => h9) rfl dX3_draught_148 ?_
    refine lv_iload hx hb dX3_draught_151 (lv_at hl 8 rfl) ?_
    refine lv_iload hx hb dX3_draught_153 (lv_at hl 9 rfl) ?_
    refine c_callS (As := [.int x9, .int x12]) (rest := [.ref (a 2)]) ⟨hx, hb, hml, hown, hts⟩ hf (fun vq hq => mX3_has l D cI cJ H.size N x9 x12 vq hq) (va_cwS 2 hts gX3_draught_X3_has rfl rfl rfl qX3_has ⟨Nat.le_of_ble_eq_true rfl, Nat.le_of_ble_eq_true rfl⟩) hK hP hS hA va_P_nil rfl hl.1 rfl (Nat.le_of_ble_eq_true rfl) dX3_draught_155 ⟨Nat.le_refl _, Nat.le_refl _⟩ (fun v13 H locs hP hS hf => ?_)
    refine k_if_eq (tgt := 166) hx hb dX3_draught_158 (by decide) hf (fun hf => ?_) (fun hf => ?_)
    · refine lv_iconst (v := (0 : Int32)) hx hb dX3_draught_166 (by decide) ?_
      exact b167 k93 hk93 k118 hk118 z x1 x2 x3 x4 x5 x7 x9 v12 x12 (0 : Int32) H locs ls hP hS (lv_sub hl [1, 2, 3, 4, 5, 6, 7, 8, 0, 9] rfl) hf
    · refine lv_bipush (v := (-8 : Int32)) hx hb dX3_draught_161 (by decide) ?_
      refine lv_goto (tgt := 167) hx hb dX3_draught_163 (by decide) ?_
      exact b167 k93 hk93 k118 hk118 z x1 x2 x3 x4 x5 x7 x9 v12 x12 (-8 : Int32) H locs ls hP hS (lv_sub hl [1, 2, 3, 4, 5, 6, 7, 8, 0, 9] rfl) hf
  have b118 : ∀ (k93 : St → Int32 → Int32 → Int32 → Int32 → Int64 → Int64 → Int32 → Option (Int64 × St)) (hk93 : (∀ (z : St) (x1 : Int32) (x2 : Int32) (x3 : Int32) (x4 : Int32) (x5 : Int64) (x7 : Int64) (x9 : Int32) (H : Heap) (locs : List Loc) (ls : Array Slot), va_P D vwCl (wMo cI a z) H → va_S A s.heap H locs → lv_has ls 13 [(0, .ref (a 0)), (1, .int x1), (2, .int x2), (3, .int x3), (4, .int x4), (5, .long x5), (7, .long x7), (9, .int x9)] → k93 z x1 x2 x3 x4 x5 x7 x9 = some r → W p l e rmX3_draught s m ([.ref (a 0), .int p1, .int p2, .int p3, .int p4] : List Value).toArray below meth c H locs 0 0 (MQ below (WQl sz D (wMo cI a σ) (wMo cI a (r.2)) r.1) ([.ref (a 0), .int p1, .int p2, .int p3, .int p4] : List Value).toArray s 0 0 A) (F0 m 93 ls []))) (n : Nat) (z : St) (x1 : Int32) (x2 : Int32) (x3 : Int32) (x4 : Int32) (x5 : Int64) (x7 : Int64) (x9 : Int32) (x10 : Int64) (x12 : Int32) (H : Heap) (locs : List Loc) (ls : Array Slot), va_P D vwCl (wMo cI a z) H → va_S A s.heap H locs → lv_has ls 13 [(0, .ref (a 0)), (1, .int x1), (2, .int x2), (3, .int x3), (4, .int x4), (5, .long x5), (7, .long x7), (9, .int x9), (10, .long x10), (12, .int x12)] → fX3_draught_L118 N k93 n z x1 x2 x3 x4 x5 x7 x9 x10 x12 = some r → W p l e rmX3_draught s m ([.ref (a 0), .int p1, .int p2, .int p3, .int p4] : List Value).toArray below meth c H locs 0 0 (MQ below (WQl sz D (wMo cI a σ) (wMo cI a (r.2)) r.1) ([.ref (a 0), .int p1, .int p2, .int p3, .int p4] : List Value).toArray s 0 0 A) (F0 m 118 ls []) := by
    intro k93 hk93 n
    induction n with
    | zero => intro z x1 x2 x3 x4 x5 x7 x9 x10 x12 H locs ls hP hS hl hf; cases hf
    | succ n ih =>
      intro z x1 x2 x3 x4 x5 x7 x9 x10 x12 H locs ls hP hS hl hf
      rw [fX3_draught_L118] at hf
      refine lv_iload hx hb dX3_draught_118 (lv_at hl 9 rfl) ?_
      refine lv_iload_n hx hb dX3_draught_120 rfl (lv_at hl 1 rfl) ?_
      refine k_icmp_ge (tgt := 176) hx hb dX3_draught_121 (by decide) hf (fun hf => ?_) (fun hf => ?_)
      · refine lv_lload hx hb dX3_draught_176 (lv_at hl 5 rfl) ?_
        refine lv_aload_n hx hb dX3_draught_178 rfl (lv_at hl 0 rfl) ?_
        refine va_get (D := D) (ci := 3) (v := .ref (a 2)) (C := RX3) (T := TX3) (N := 13) hx hb hts inX3 hown hK hP 0 rfl rfl 1 (by decide) ln3 (fun _ h9 => h9) rfl dX3_draught_179 ?_
        refine lv_iconst (v := (2 : Int32)) hx hb dX3_draught_182 (by decide) ?_
        refine k_iald hx hb hK hP 2 0 hf rfl rfl dX3_draught_183 (fun v8 hf => ?_)
        refine lv_iload_n hx hb dX3_draught_184 rfl (lv_at hl 3 rfl) ?_
        refine k_icmp_lt (tgt := 193) hx hb dX3_draught_185 (by decide) hf (fun hf => ?_) (fun hf => ?_)
        · refine lv_lconst (v := (0 : Int64)) hx hb dX3_draught_193 (by decide) ?_
          exact b194 k93 hk93 z x1 x2 x3 x4 x7 x9 (0 : Int64) x5 H locs ls hP hS (lv_sub hl [0, 1, 2, 3, 4, 6, 7] rfl) hf
        · refine lv_lload hx hb dX3_draught_188 (lv_at hl 8 rfl) ?_
          refine lv_goto (tgt := 194) hx hb dX3_draught_190 (by decide) ?_
          exact b194 k93 hk93 z x1 x2 x3 x4 x7 x9 x10 x5 H locs ls hP hS (lv_sub hl [0, 1, 2, 3, 4, 6, 7] rfl) hf
      · refine lv_lload hx hb dX3_draught_124 (lv_at hl 8 rfl) ?_
        refine lv_iload hx hb dX3_draught_126 (lv_at hl 7 rfl) ?_
        refine lv_iload hx hb dX3_draught_128 (lv_at hl 9 rfl) ?_
        refine c_callS (As := [.int x9, .int x12]) (rest := [.long x10]) ⟨hx, hb, hml, hown, hts⟩ hf (fun vq hq => mX3_has l D cI cJ H.size N x9 x12 vq hq) (va_cwS 2 hts gX3_draught_X3_has rfl rfl rfl qX3_has ⟨Nat.le_of_ble_eq_true rfl, Nat.le_of_ble_eq_true rfl⟩) hK hP hS hA va_P_nil rfl hl.1 rfl (Nat.le_of_ble_eq_true rfl) dX3_draught_130 ⟨Nat.le_refl _, Nat.le_refl _⟩ (fun v11 H locs hP hS hf => ?_)
        refine k_if_eq (tgt := 140) hx hb dX3_draught_133 (by decide) hf (fun hf => ?_) (fun hf => ?_)
        · refine lv_iload_n hx hb dX3_draught_140 rfl (lv_at hl 2 rfl) ?_
          refine lv_iconst (v := (1 : Int32)) hx hb dX3_draught_141 (by decide) ?_
          refine lv_isub hx hb dX3_draught_142 ?_
          refine lv_i2l hx hb dX3_draught_143 rfl ?_
          exact b144 k93 hk93 (fX3_draught_L118 N k93 n) ih z x1 x2 x3 x4 x5 x7 x9 x12 ((x2 - (1 : Int32)).toInt64) x10 H locs ls hP hS (lv_sub hl [0, 1, 2, 3, 4, 5, 6, 7, 9] rfl) hf
        · refine lv_lconst (v := (1 : Int64)) hx hb dX3_draught_136 (by decide) ?_
          refine lv_goto (tgt := 144) hx hb dX3_draught_137 (by decide) ?_
          exact b144 k93 hk93 (fX3_draught_L118 N k93 n) ih z x1 x2 x3 x4 x5 x7 x9 x12 (1 : Int64) x10 H locs ls hP hS (lv_sub hl [0, 1, 2, 3, 4, 5, 6, 7, 9] rfl) hf
  have b93 : ∀  (n : Nat) (z : St) (x1 : Int32) (x2 : Int32) (x3 : Int32) (x4 : Int32) (x5 : Int64) (x7 : Int64) (x9 : Int32) (H : Heap) (locs : List Loc) (ls : Array Slot), va_P D vwCl (wMo cI a z) H → va_S A s.heap H locs → lv_has ls 13 [(0, .ref (a 0)), (1, .int x1), (2, .int x2), (3, .int x3), (4, .int x4), (5, .long x5), (7, .long x7), (9, .int x9)] → fX3_draught_L93 N n z x1 x2 x3 x4 x5 x7 x9 = some r → W p l e rmX3_draught s m ([.ref (a 0), .int p1, .int p2, .int p3, .int p4] : List Value).toArray below meth c H locs 0 0 (MQ below (WQl sz D (wMo cI a σ) (wMo cI a (r.2)) r.1) ([.ref (a 0), .int p1, .int p2, .int p3, .int p4] : List Value).toArray s 0 0 A) (F0 m 93 ls []) := by
    intro n
    induction n with
    | zero => intro z x1 x2 x3 x4 x5 x7 x9 H locs ls hP hS hl hf; cases hf
    | succ n ih =>
      intro z x1 x2 x3 x4 x5 x7 x9 H locs ls hP hS hl hf
      rw [fX3_draught_L93] at hf
      refine lv_iload hx hb dX3_draught_93 (lv_at hl 7 rfl) ?_
      refine lv_iconst (v := (1 : Int32)) hx hb dX3_draught_95 (by decide) ?_
      refine lv_iload_n hx hb dX3_draught_96 rfl (lv_at hl 1 rfl) ?_
      refine lv_ishl hx hb dX3_draught_97 ?_
      refine k_icmp_ge (tgt := 203) hx hb dX3_draught_98 (by decide) hf (fun hf => ?_) (fun hf => ?_)
      · refine lv_lload hx hb dX3_draught_203 (lv_at hl 5 rfl) ?_
        refine lv_lload hx hb dX3_draught_205 (lv_at hl 6 rfl) ?_
        refine lv_iload hx hb dX3_draught_207 (lv_at hl 4 rfl) ?_
        refine c_callSL (As := [.long x5, .long x7, .int x4]) (rest := []) ⟨hx, hb, hml, hown, hts⟩ hf (fun vq hq => mX3_partOf l D cI cJ H.size N x5 x7 x4 vq hq) (va_cwS 3 hts gX3_draught_X3_partOf rfl rfl rfl qX3_partOf ⟨Nat.le_of_ble_eq_true rfl, Nat.le_of_ble_eq_true rfl⟩) hK hP hS hA va_P_nil rfl hl.1 rfl (Nat.le_of_ble_eq_true rfl) dX3_draught_209 ⟨Nat.le_refl _, Nat.le_refl _⟩ (fun v6 H locs hP hS hf => ?_)
        exact W_lret (fun z => wMo cI a z) hx hb hr hlk hP hS hAe hf dX3_draught_212
      · refine lv_lconst (v := (1 : Int64)) hx hb dX3_draught_101 (by decide) ?_
        refine lv_lstore (lv' := [(10, .long (1 : Int64)), (0, .ref (a 0)), (1, .int x1), (2, .int x2), (3, .int x3), (4, .int x4), (5, .long x5), (7, .long x7), (9, .int x9)]) hx hb dX3_draught_102 hl (by decide) rfl (fun ls hl => ?_)
        refine lv_aload_n hx hb dX3_draught_104 rfl (lv_at hl 1 rfl) ?_
        refine va_get (D := D) (ci := 3) (v := .ref (a 1)) (C := RX3) (T := TX3) (N := 13) hx hb hts inX3 hown hK hP 0 rfl rfl 0 (by decide) ln1 (fun _ h9 => h9) rfl dX3_draught_105 ?_
        refine lv_aload_n hx hb dX3_draught_108 rfl (lv_at hl 1 rfl) ?_
        refine va_get (D := D) (ci := 3) (v := .ref (a 2)) (C := RX3) (T := TX3) (N := 13) hx hb hts inX3 hown hK hP 0 rfl rfl 1 (by decide) ln3 (fun _ h9 => h9) rfl dX3_draught_109 ?_
        refine d_callSv (As := [.ref ((sb [1, 2] a) 0), .ref ((sb [1, 2] a) 1)]) (rest := []) (w := (fun z => wMo cI a z)) (wc := (wAr2 cI (sb [1, 2] a))) (put := (fun uq => pb [1, 2] uq z)) (σ := z) (τ0 := (sb [1, 2] z)) ⟨hx, hb, hml, hown, hts⟩ hf (fun zq hq => mX3_copies l D cI cJ (sb [1, 2] a) H.size N (sb [1, 2] z) zq hq) (va_cwS 2 hts gX3_draught_X3_copies rfl rfl rfl qX3_copies ⟨Nat.le_of_ble_eq_true rfl, Nat.le_of_ble_eq_true rfl⟩) hK hP hD hS hA (cmb_Mo_Ar2_1_2 D cI a z hP (hD _)) rfl hl.1 rfl (Nat.le_of_ble_eq_true rfl) dX3_draught_112 ⟨Nat.le_refl _, Nat.le_refl _⟩ (fun z7 H locs hP hS hf => ?_)
        refine lv_iconst (v := (0 : Int32)) hx hb dX3_draught_115 (by decide) ?_
        refine lv_istore (lv' := [(12, .int (0 : Int32)), (10, .long (1 : Int64)), (0, .ref (a 0)), (1, .int x1), (2, .int x2), (3, .int x3), (4, .int x4), (5, .long x5), (7, .long x7), (9, .int x9)]) hx hb dX3_draught_116 hl (by decide) rfl (fun ls hl => ?_)
        exact b118 (fX3_draught_L93 N n) ih N z7 x1 x2 x3 x4 x5 x7 x9 (1 : Int64) (0 : Int32) H locs ls hP hS (lv_sub hl [2, 3, 4, 5, 6, 7, 8, 9, 1, 0] rfl) hf
  have b71 : ∀  (n : Nat) (z : St) (x1 : Int32) (x2 : Int32) (x3 : Int32) (x4 : Int32) (x5 : Int64) (x7 : Int64) (x9 : Int32) (H : Heap) (locs : List Loc) (ls : Array Slot), va_P D vwCl (wMo cI a z) H → va_S A s.heap H locs → lv_has ls 13 [(0, .ref (a 0)), (1, .int x1), (2, .int x2), (3, .int x3), (4, .int x4), (5, .long x5), (7, .long x7), (9, .int x9)] → fX3_draught_L71 N n z x1 x2 x3 x4 x5 x7 x9 = some r → W p l e rmX3_draught s m ([.ref (a 0), .int p1, .int p2, .int p3, .int p4] : List Value).toArray below meth c H locs 0 0 (MQ below (WQl sz D (wMo cI a σ) (wMo cI a (r.2)) r.1) ([.ref (a 0), .int p1, .int p2, .int p3, .int p4] : List Value).toArray s 0 0 A) (F0 m 71 ls []) := by
    intro n
    induction n with
    | zero => intro z x1 x2 x3 x4 x5 x7 x9 H locs ls hP hS hl hf; cases hf
    | succ n ih =>
      intro z x1 x2 x3 x4 x5 x7 x9 H locs ls hP hS hl hf
      rw [fX3_draught_L71] at hf
      refine lv_iload hx hb dX3_draught_71 (lv_at hl 7 rfl) ?_
      refine lv_iload_n hx hb dX3_draught_73 rfl (lv_at hl 1 rfl) ?_
      refine k_icmp_ge (tgt := 90) hx hb dX3_draught_74 (by decide) hf (fun hf => ?_) (fun hf => ?_)
      · refine lv_iconst (v := (0 : Int32)) hx hb dX3_draught_90 (by decide) ?_
        refine lv_istore (lv' := [(9, .int (0 : Int32)), (0, .ref (a 0)), (1, .int x1), (2, .int x2), (3, .int x3), (4, .int x4), (5, .long x5), (7, .long x7)]) hx hb dX3_draught_91 hl (by decide) rfl (fun ls hl => ?_)
        exact b93  N z x1 x2 x3 x4 x5 x7 (0 : Int32) H locs ls hP hS (lv_sub hl [1, 2, 3, 4, 5, 6, 7, 0] rfl) hf
      · refine lv_lload hx hb dX3_draught_77 (lv_at hl 6 rfl) ?_
        refine lv_iload_n hx hb dX3_draught_79 rfl (lv_at hl 2 rfl) ?_
        refine lv_i2l hx hb dX3_draught_80 rfl ?_
        refine lv_lmul hx hb dX3_draught_81 ?_
        refine k_letL hf (fun v16 hf => ?_)
        refine lv_lstore (lv' := [(7, .long v16), (0, .ref (a 0)), (1, .int x1), (2, .int x2), (3, .int x3), (4, .int x4), (5, .long x5), (9, .int x9)]) hx hb dX3_draught_82 hl (by decide) rfl (fun ls hl => ?_)
        refine k_iinc (d := (1 : Int32)) (lv' := fun v17 => [(9, .int v17), (7, .long v16), (0, .ref (a 0)), (1, .int x1), (2, .int x2), (3, .int x3), (4, .int x4), (5, .long x5)]) hx hb dX3_draught_84 hl (k := 7) rfl (by decide) (by decide) (fun _ => rfl) hf (fun v17 ls hl hf => ?_)
        refine lv_goto (tgt := 71) hx hb dX3_draught_87 (by decide) ?_
        exact ih z x1 x2 x3 x4 x5 v16 v17 H locs ls hP hS (lv_sub hl [2, 3, 4, 5, 6, 7, 1, 0] rfl) hf
  unfold fX3_draught at hf
  refine lv_iload_n hx hb dX3_draught_0 rfl (lv_at hl 1 rfl) ?_
  refine k_if_lt (tgt := 13) hx hb dX3_draught_1 (by decide) hf (fun hf => ?_) (fun hf => ?_)
  · exact b13  σ s.heap [] ls hP hS (lv_sub hl [0] rfl) hf
  · refine lv_iload_n hx hb dX3_draught_4 rfl (lv_at hl 3 rfl) ?_
    refine k_if_lt (tgt := 13) hx hb dX3_draught_5 (by decide) hf (fun hf => ?_) (fun hf => ?_)
    · exact b13  σ s.heap [] ls hP hS (lv_sub hl [0] rfl) hf
    · refine lv_iload_n hx hb dX3_draught_8 rfl (lv_at hl 2 rfl) ?_
      refine lv_iconst (v := (2 : Int32)) hx hb dX3_draught_9 (by decide) ?_
      refine k_icmp_ge (tgt := 20) hx hb dX3_draught_10 (by decide) hf (fun hf => ?_) (fun hf => ?_)
      · refine lv_iload_n hx hb dX3_draught_20 rfl (lv_at hl 1 rfl) ?_
        refine lv_bipush (v := (7 : Int32)) hx hb dX3_draught_21 (by decide) ?_
        refine k_icmp_gt (tgt := 38) hx hb dX3_draught_23 (by decide) hf (fun hf => ?_) (fun hf => ?_)
        · exact b38  σ s.heap [] ls hP hS (lv_sub hl [0] rfl) hf
        · refine lv_iload_n hx hb dX3_draught_26 rfl (lv_at hl 2 rfl) ?_
          refine lv_bipush (v := (20 : Int32)) hx hb dX3_draught_27 (by decide) ?_
          refine k_icmp_gt (tgt := 38) hx hb dX3_draught_29 (by decide) hf (fun hf => ?_) (fun hf => ?_)
          · exact b38  σ s.heap [] ls hP hS (lv_sub hl [0] rfl) hf
          · refine lv_iload_n hx hb dX3_draught_32 rfl (lv_at hl 3 rfl) ?_
            refine lv_bipush (v := (20 : Int32)) hx hb dX3_draught_33 (by decide) ?_
            refine k_icmp_le (tgt := 45) hx hb dX3_draught_35 (by decide) hf (fun hf => ?_) (fun hf => ?_)
            · refine lv_iload hx hb dX3_draught_45 (lv_at hl 4 rfl) ?_
              refine lv_iconst (v := (0 : Int32)) hx hb dX3_draught_47 (by decide) ?_
              refine lv_iconst (v := (1 : Int32)) hx hb dX3_draught_48 (by decide) ?_
              refine c_callS (As := [.int p4, .int (0 : Int32), .int (1 : Int32)]) (rest := []) ⟨hx, hb, hml, hown, hts⟩ hf (fun vq hq => mX3_isIn l D cI cJ s.heap.size N p4 (0 : Int32) (1 : Int32) vq hq) (va_cwS 3 hts gX3_draught_X3_isIn rfl rfl rfl qX3_isIn ⟨Nat.le_of_ble_eq_true rfl, Nat.le_of_ble_eq_true rfl⟩) hK hP hS hA va_P_nil rfl hl.1 rfl (Nat.le_of_ble_eq_true rfl) dX3_draught_49 ⟨Nat.le_refl _, Nat.le_refl _⟩ (fun v5 H locs hP hS hf => ?_)
              refine k_if_ne (tgt := 62) hx hb dX3_draught_52 (by decide) hf (fun hf => ?_) (fun hf => ?_)
              · refine lv_lconst (v := (0 : Int64)) hx hb dX3_draught_62 (by decide) ?_
                refine lv_lstore (lv' := [(5, .long (0 : Int64)), (0, .ref (a 0)), (1, .int p1), (2, .int p2), (3, .int p3), (4, .int p4)]) hx hb dX3_draught_63 hl (by decide) rfl (fun ls hl => ?_)
                refine lv_lconst (v := (1 : Int64)) hx hb dX3_draught_65 (by decide) ?_
                refine lv_lstore (lv' := [(7, .long (1 : Int64)), (5, .long (0 : Int64)), (0, .ref (a 0)), (1, .int p1), (2, .int p2), (3, .int p3), (4, .int p4)]) hx hb dX3_draught_66 hl (by decide) rfl (fun ls hl => ?_)
                refine lv_iconst (v := (0 : Int32)) hx hb dX3_draught_68 (by decide) ?_
                refine lv_istore (lv' := [(9, .int (0 : Int32)), (7, .long (1 : Int64)), (5, .long (0 : Int64)), (0, .ref (a 0)), (1, .int p1), (2, .int p2), (3, .int p3), (4, .int p4)]) hx hb dX3_draught_69 hl (by decide) rfl (fun ls hl => ?_)
                exact b71  N σ p1 p2 p3 p4 (0 : Int64) (1 : Int64) (0 : Int32) H locs ls hP hS (lv_sub hl [3, 4, 5, 6, 7, 2, 1, 0] rfl) hf
              · refine lv_aload_n hx hb dX3_draught_55 rfl (lv_at hl 0 rfl) ?_
                refine lv_bipush (v := (-2 : Int32)) hx hb dX3_draught_56 (by decide) ?_
                refine d_callVL (As := [.int (-2 : Int32)]) (rest := []) (w := (fun z => wMo cI a z)) (wc := (wMo cI a)) (put := (fun uq => uq)) (σ := σ) (τ0 := σ) ⟨hx, hb, hml, hown, hts⟩ hf (fun vq zq hq => mX3_noWide l D cI cJ a H.size N σ (-2 : Int32) (vq, zq) hq) (cwV 1 hts gX3_draught_X3_noWide rfl rfl rfl qX3_noWide ⟨Nat.le_of_ble_eq_true rfl, Nat.le_of_ble_eq_true rfl⟩) hK hP hD hS hA ⟨hP, hD _, fun _ _ _ h => h⟩ 3 rfl rfl rfl rfl hl.1 rfl (Nat.le_of_ble_eq_true rfl) dX3_draught_58 ⟨Nat.le_refl _, Nat.le_refl _⟩ (fun v19 z18 H locs hP hS hf => ?_)
                exact W_lret (fun z => wMo cI a z) hx hb hr hlk hP hS hAe hf dX3_draught_61
            · exact b38  σ s.heap [] ls hP hS (lv_sub hl [0] rfl) hf
      · exact b13  σ s.heap [] ls hP hS (lv_sub hl [0] rfl) hf
def fX3_allWeigh_L4 (N : Nat) (σ : St)  : Nat → Int32 → Int32 → Option Int32
  | 0, _, _ => none
  | n + 1, x1, x2 =>
    bo (rdI σ 1 38 (0 : Int32)) (fun v1 =>
    if v1 ≤ x2 then some x1
    else bo (fX3_weighs N (sb [1] σ) x2) (fun v2 =>
    lt_ ((x1 + v2) : Int32) (fun v3 =>
    lt_ (x2 + (1 : Int32) : Int32) (fun v4 =>
    (fX3_allWeigh_L4 N σ n) v3 v4))))
def fX3_allWeigh (N : Nat) (σ : St)  : Option Int32 :=
    fX3_allWeigh_L4 N σ  N (0 : Int32) (0 : Int32)
abbrev rmX3_allWeigh : Room := { frames := 4, cells := 0, slots := 0, locals := 89 }
theorem qX3_allWeigh : yX3_allWeigh.cls = RX3 ∧ yX3_allWeigh.cls ≠ "java/lang/invoke/MethodHandle" ∧ yX3_allWeigh.cls ≠ "java/lang/invoke/VarHandle" ∧ (parseMethodDescriptor yX3_allWeigh.desc).map (fun d => d.parameters.length) = some 0 := by decide +kernel
set_option maxHeartbeats 400000 in
set_option maxRecDepth 100000 in
theorem mX3_allWeigh (l : Launch) (D : va_G) (cI cJ : ClassId) (a : Nat → Nat) (sz N : Nat) (σ : St)  (r : Int32) (hf : fX3_allWeigh N σ = some r) : Met l yX3_allWeigh wsX3_allWeigh rmX3_allWeigh (RPre ([.ref (a 0)] : List Value) sz D (tyIJ cI cJ) (wMo cI a σ)) (RQi sz r) 0 0 (fr0 sz) := by
  refine R_start (cc := cX3_allWeigh) (maxL := 3) (ret := (some .int)) (by decide) rfl (Nat.le_of_ble_eq_true rfl) (fun p e s m below meth c ls hx hb hr hml hown hts hlk hP hK hS hA hsz hl => ?_)
  have hown : s.vm.findClass RX3 = some m.cls := hown
  have hl : lv_has ls 3 [(0, .ref (a 0))] := hl
  have ln1 := hts (Cond.fieldLink RX3 9 "HoistsAreSharedModel" "s" "[I") (List.mem_of_getElem? (i := 1) rfl)
  have inX3 : ∀ w ∈ u_ws RX3 TX3 13, w ∈ wsX3_allWeigh := fun _ h => List.mem_cons_of_mem _ (List.mem_append_right _ h)
  have b4 : ∀  (n : Nat) (x1 : Int32) (x2 : Int32) (H : Heap) (locs : List Loc) (ls : Array Slot), va_P D vwCl (wMo cI a σ) H → va_S (fr0 s.heap.size) s.heap H locs → lv_has ls 3 [(0, .ref (a 0)), (1, .int x1), (2, .int x2)] → fX3_allWeigh_L4 N σ n x1 x2 = some r → W p l e rmX3_allWeigh s m ([.ref (a 0)] : List Value).toArray below meth c H locs 0 0 (MQ below (RQi sz r) ([.ref (a 0)] : List Value).toArray s 0 0 (fr0 sz)) (F0 m 4 ls []) := by
    intro n
    induction n with
    | zero => intro x1 x2 H locs ls hP hS hl hf; cases hf
    | succ n ih =>
      intro x1 x2 H locs ls hP hS hl hf
      rw [fX3_allWeigh_L4] at hf
      refine lv_iload_n hx hb dX3_allWeigh_4 rfl (lv_at hl 2 rfl) ?_
      refine lv_aload_n hx hb dX3_allWeigh_5 rfl (lv_at hl 0 rfl) ?_
      refine va_get (D := D) (ci := 3) (v := .ref (a 1)) (C := RX3) (T := TX3) (N := 13) hx hb hts inX3 hown hK hP 0 rfl rfl 0 (by decide) ln1 (fun _ h9 => h9) rfl dX3_allWeigh_6 ?_
      refine lv_iconst (v := (0 : Int32)) hx hb dX3_allWeigh_9 (by decide) ?_
      refine k_iald hx hb hK hP 1 0 hf rfl rfl dX3_allWeigh_10 (fun v1 hf => ?_)
      refine k_icmp_ge (tgt := 31) hx hb dX3_allWeigh_11 (by decide) hf (fun hf => ?_) (fun hf => ?_)
      · refine lv_iload_n hx hb dX3_allWeigh_31 rfl (lv_at hl 1 rfl) ?_
        exact R_iret hx hb hr hlk hS hsz hf dX3_allWeigh_32
      · refine lv_iload_n hx hb dX3_allWeigh_14 rfl (lv_at hl 1 rfl) ?_
        refine lv_aload_n hx hb dX3_allWeigh_15 rfl (lv_at hl 0 rfl) ?_
        refine va_get (D := D) (ci := 3) (v := .ref (a 1)) (C := RX3) (T := TX3) (N := 13) hx hb hts inX3 hown hK hP 0 rfl rfl 0 (by decide) ln1 (fun _ h9 => h9) rfl dX3_allWeigh_16 ?_
        refine lv_iload_n hx hb dX3_allWeigh_19 rfl (lv_at hl 2 rfl) ?_
        refine c_callS (As := [.ref ((sb [1] a) 0), .int x2]) (rest := [.int x1]) ⟨hx, hb, hml, hown, hts⟩ hf (fun vq hq => mX3_weighs l D cI cJ (sb [1] a) H.size N (sb [1] σ) x2 vq hq) (va_cwS 2 hts gX3_allWeigh_X3_weighs rfl rfl rfl qX3_weighs ⟨Nat.le_of_ble_eq_true rfl, Nat.le_of_ble_eq_true rfl⟩) hK hP hS hA (cmr_Mo_Ar_1 D cI a σ hP) rfl hl.1 rfl (Nat.le_of_ble_eq_true rfl) dX3_allWeigh_20 ⟨Nat.le_refl _, Nat.le_refl _⟩ (fun v2 H locs hP hS hf => ?_)
        refine lv_iadd hx hb dX3_allWeigh_23 ?_
        refine k_let hf (fun v3 hf => ?_)
        refine lv_istore_n (lv' := [(1, .int v3), (0, .ref (a 0)), (2, .int x2)]) hx hb dX3_allWeigh_24 rfl hl (by decide) rfl (fun ls hl => ?_)
        refine k_iinc (d := (1 : Int32)) (lv' := fun v4 => [(2, .int v4), (1, .int v3), (0, .ref (a 0))]) hx hb dX3_allWeigh_25 hl (k := 2) rfl (by decide) (by decide) (fun _ => rfl) hf (fun v4 ls hl hf => ?_)
        refine lv_goto (tgt := 4) hx hb dX3_allWeigh_28 (by decide) ?_
        exact ih v3 v4 H locs ls hP hS (lv_sub hl [2, 1, 0] rfl) hf
  unfold fX3_allWeigh at hf
  refine lv_iconst (v := (0 : Int32)) hx hb dX3_allWeigh_0 (by decide) ?_
  refine lv_istore_n (lv' := [(1, .int (0 : Int32)), (0, .ref (a 0))]) hx hb dX3_allWeigh_1 rfl hl (by decide) rfl (fun ls hl => ?_)
  refine lv_iconst (v := (0 : Int32)) hx hb dX3_allWeigh_2 (by decide) ?_
  refine lv_istore_n (lv' := [(2, .int (0 : Int32)), (1, .int (0 : Int32)), (0, .ref (a 0))]) hx hb dX3_allWeigh_3 rfl hl (by decide) rfl (fun ls hl => ?_)
  exact b4  N (0 : Int32) (0 : Int32) s.heap [] ls hP hS (lv_sub hl [2, 1, 0] rfl) hf
def fX3_mean (N : Nat) (σ : St) (p1 : Int32) : Option (Int64 × St) :=
    bo (fX3_isIn N p1 (0 : Int32) (1 : Int32)) (fun v1 =>
    if v1 = 0 then bx (fX3_noWide N σ (-2 : Int32)) (fun uq => uq) (fun v3 z2 =>
    some (v3, z2))
    else bo (fX3_allWeigh N σ) (fun v4 =>
    bo (rdI σ 1 38 (0 : Int32)) (fun v5 =>
    bo (fX3_partOf N (v4.toInt64) (v5.toInt64) p1) (fun v6 =>
    some (v6, σ)))))
abbrev rmX3_mean : Room := { frames := 5, cells := 0, slots := 0, locals := 111 }
theorem qX3_mean : yX3_mean.cls = RX3 ∧ yX3_mean.cls ≠ "java/lang/invoke/MethodHandle" ∧ yX3_mean.cls ≠ "java/lang/invoke/VarHandle" ∧ (parseMethodDescriptor yX3_mean.desc).map (fun d => d.parameters.length) = some 1 := by decide +kernel
set_option maxHeartbeats 400000 in
set_option maxRecDepth 100000 in
theorem mX3_mean (l : Launch) (D : va_G) (cI cJ : ClassId) (a : Nat → Nat) (sz N : Nat) (σ : St) (p1 : Int32) (r : (Int64 × St)) (hf : fX3_mean N σ p1 = some r) : Met l yX3_mean wsX3_mean rmX3_mean (WPre ([.ref (a 0), .int p1] : List Value) sz D (tyIJ cI cJ) (wMo cI a σ)) (WQl sz D (wMo cI a σ) (wMo cI a (r.2)) r.1) 0 0 (va_A (wMo cI a σ) sz) := by
  refine W_start (cc := cX3_mean) (maxL := 2) (ret := (some .long)) (by decide) rfl (Nat.le_of_ble_eq_true rfl) (fun p e s m below meth c ls A hx hb hr hml hown hts hlk hP hK hS hA hD0 hAe hl => ?_)
  have hD : ∀ z, va_D A ((fun z => wMo cI a z) z) := fun z => hD0.ad rfl
  have hown : s.vm.findClass RX3 = some m.cls := hown
  have hl : lv_has ls 2 [(0, .ref (a 0)), (1, .int p1)] := hl
  have ln1 := hts (Cond.fieldLink RX3 9 "HoistsAreSharedModel" "s" "[I") (List.mem_of_getElem? (i := 1) rfl)
  have inX3 : ∀ w ∈ u_ws RX3 TX3 13, w ∈ wsX3_mean := fun _ h => List.mem_cons_of_mem _ (List.mem_append_right _ h)
  unfold fX3_mean at hf
  refine lv_iload_n hx hb dX3_mean_0 rfl (lv_at hl 1 rfl) ?_
  refine lv_iconst (v := (0 : Int32)) hx hb dX3_mean_1 (by decide) ?_
  refine lv_iconst (v := (1 : Int32)) hx hb dX3_mean_2 (by decide) ?_
  refine c_callS (As := [.int p1, .int (0 : Int32), .int (1 : Int32)]) (rest := []) ⟨hx, hb, hml, hown, hts⟩ hf (fun vq hq => mX3_isIn l D cI cJ s.heap.size N p1 (0 : Int32) (1 : Int32) vq hq) (va_cwS 3 hts gX3_mean_X3_isIn rfl rfl rfl qX3_isIn ⟨Nat.le_of_ble_eq_true rfl, Nat.le_of_ble_eq_true rfl⟩) hK hP hS hA va_P_nil rfl hl.1 rfl (Nat.le_of_ble_eq_true rfl) dX3_mean_3 ⟨Nat.le_refl _, Nat.le_refl _⟩ (fun v1 H locs hP hS hf => ?_)
  refine k_if_eq (tgt := 28) hx hb dX3_mean_6 (by decide) hf (fun hf => ?_) (fun hf => ?_)
  · refine lv_aload_n hx hb dX3_mean_28 rfl (lv_at hl 0 rfl) ?_
    refine lv_bipush (v := (-2 : Int32)) hx hb dX3_mean_29 (by decide) ?_
    refine d_callVL (As := [.int (-2 : Int32)]) (rest := []) (w := (fun z => wMo cI a z)) (wc := (wMo cI a)) (put := (fun uq => uq)) (σ := σ) (τ0 := σ) ⟨hx, hb, hml, hown, hts⟩ hf (fun vq zq hq => mX3_noWide l D cI cJ a H.size N σ (-2 : Int32) (vq, zq) hq) (cwV 1 hts gX3_mean_X3_noWide rfl rfl rfl qX3_noWide ⟨Nat.le_of_ble_eq_true rfl, Nat.le_of_ble_eq_true rfl⟩) hK hP hD hS hA ⟨hP, hD _, fun _ _ _ h => h⟩ 3 rfl rfl rfl rfl hl.1 rfl (Nat.le_of_ble_eq_true rfl) dX3_mean_31 ⟨Nat.le_refl _, Nat.le_refl _⟩ (fun v3 z2 H locs hP hS hf => ?_)
    exact W_lret (fun z => wMo cI a z) hx hb hr hlk hP hS hAe hf dX3_mean_34
  · refine lv_aload_n hx hb dX3_mean_9 rfl (lv_at hl 0 rfl) ?_
    refine c_callV (As := []) (rest := []) ⟨hx, hb, hml, hown, hts⟩ hf (fun vq hq => mX3_allWeigh l D cI cJ a H.size N σ vq hq) (cwV 0 hts gX3_mean_X3_allWeigh rfl rfl rfl qX3_allWeigh ⟨Nat.le_of_ble_eq_true rfl, Nat.le_of_ble_eq_true rfl⟩) hK hP hS hA hP 3 rfl rfl rfl rfl hl.1 rfl (Nat.le_of_ble_eq_true rfl) dX3_mean_10 ⟨Nat.le_refl _, Nat.le_refl _⟩ (fun v4 H locs hP hS hf => ?_)
    refine lv_i2l hx hb dX3_mean_13 rfl ?_
    refine lv_aload_n hx hb dX3_mean_14 rfl (lv_at hl 0 rfl) ?_
    refine va_get (D := D) (ci := 3) (v := .ref (a 1)) (C := RX3) (T := TX3) (N := 13) hx hb hts inX3 hown hK hP 0 rfl rfl 0 (by decide) ln1 (fun _ h9 => h9) rfl dX3_mean_15 ?_
    refine lv_iconst (v := (0 : Int32)) hx hb dX3_mean_18 (by decide) ?_
    refine k_iald hx hb hK hP 1 0 hf rfl rfl dX3_mean_19 (fun v5 hf => ?_)
    refine lv_i2l hx hb dX3_mean_20 rfl ?_
    refine lv_iload_n hx hb dX3_mean_21 rfl (lv_at hl 1 rfl) ?_
    refine c_callSL (As := [.long (v4.toInt64), .long (v5.toInt64), .int p1]) (rest := []) ⟨hx, hb, hml, hown, hts⟩ hf (fun vq hq => mX3_partOf l D cI cJ H.size N (v4.toInt64) (v5.toInt64) p1 vq hq) (va_cwS 3 hts gX3_mean_X3_partOf rfl rfl rfl qX3_partOf ⟨Nat.le_of_ble_eq_true rfl, Nat.le_of_ble_eq_true rfl⟩) hK hP hS hA va_P_nil rfl hl.1 rfl (Nat.le_of_ble_eq_true rfl) dX3_mean_22 ⟨Nat.le_refl _, Nat.le_refl _⟩ (fun v6 H locs hP hS hf => ?_)
    refine lv_goto (tgt := 34) hx hb dX3_mean_25 (by decide) ?_
    exact W_lret (fun z => wMo cI a z) hx hb hr hlk hP hS hAe hf dX3_mean_34
def fX3_whatIs_L143 (N : Nat) (k35 : St → Int32 → Int32 → Int32 → Int32 → Option (Int32 × St)) (z : St) (x1 : Int32) (x2 : Int32) (x4 : Int32) (y0 : Int32) (y1 : Int32) : Option (Int32 × St) :=
    lt_ ((y1 ||| y0) : Int32) (fun v6 =>
    lt_ (x4 + (1 : Int32) : Int32) (fun v7 =>
    k35 z x1 x2 v6 v7))
def fX3_whatIs_L112 (N : Nat) (k35 : St → Int32 → Int32 → Int32 → Int32 → Option (Int32 × St)) (k80 : St → Int32 → Int32 → Int32 → Int32 → Int32 → Int32 → Option (Int32 × St)) (z : St) (x1 : Int32) (x2 : Int32) (x3 : Int32) (x4 : Int32) (x6 : Int32) (y0 : Int32) (y1 : Int32) : Option (Int32 × St) :=
    lt_ ((y1 &&& y0) : Int32) (fun v10 =>
    by_ (fX3_day N (sb [2] z) (0 : Int32)) (fun uq => pb [2] uq z) (fun z11 =>
    lt_ (x6 + (1 : Int32) : Int32) (fun v12 =>
    k80 z11 x1 x2 x3 x4 v10 v12)))
def fX3_whatIs_L80 (N : Nat) (k35 : St → Int32 → Int32 → Int32 → Int32 → Option (Int32 × St)) : Nat → St → Int32 → Int32 → Int32 → Int32 → Int32 → Int32 → Option (Int32 × St)
  | 0, _, _, _, _, _, _, _ => none
  | n + 1, z, x1, x2, x3, x4, x5, x6 =>
    if (z 0 9) ≤ x6 then if x5 = 0 then fX3_whatIs_L143 N k35 z x1 x2 x4 (0 : Int32) x3
    else fX3_whatIs_L143 N k35 z x1 x2 x4 ((1 : Int32) <<< (x4 &&& 31)) x3
    else bo (rdI z 2 38 (2 : Int32)) (fun v8 =>
    bo (rdI z 6 16 x6) (fun v9 =>
    if v8 = v9 then fX3_whatIs_L112 N k35 (fX3_whatIs_L80 N k35 n) z x1 x2 x3 x4 x6 (1 : Int32) x5
    else fX3_whatIs_L112 N k35 (fX3_whatIs_L80 N k35 n) z x1 x2 x3 x4 x6 (0 : Int32) x5))
def fX3_whatIs_L48 (N : Nat) (k35 : St → Int32 → Int32 → Int32 → Int32 → Option (Int32 × St)) (z : St) (x1 : Int32) (x2 : Int32) (x3 : Int32) (x4 : Int32) (y0 : Int32) (y1 : Int32) : Option (Int32 × St) :=
    if y0 ≤ y1 then some (x3, z)
    else by_ (fX3_copies N (sb [1, 2] z)) (fun uq => pb [1, 2] uq z) (fun z3 =>
    bo (fX3_of N x1 x2) (fun v4 =>
    bo (wrI z3 2 38 v4 x4) (fun z5 =>
    fX3_whatIs_L80 N k35 N z5 x1 x2 x3 x4 (1 : Int32) (0 : Int32))))
def fX3_whatIs_L35 (N : Nat)  : Nat → St → Int32 → Int32 → Int32 → Int32 → Option (Int32 × St)
  | 0, _, _, _, _, _ => none
  | n + 1, z, x1, x2, x3, x4 =>
    if x2 = 0 then fX3_whatIs_L48 N (fX3_whatIs_L35 N n) z x1 x2 x3 x4 (6 : Int32) x4
    else fX3_whatIs_L48 N (fX3_whatIs_L35 N n) z x1 x2 x3 x4 (10 : Int32) x4
def fX3_whatIs (N : Nat) (σ : St) (p1 : Int32) (p2 : Int32) : Option (Int32 × St) :=
    bo (fX3_isThing N σ p1) (fun v1 =>
    if v1 = 0 then bx (fX3_no N σ (-1 : Int32)) (fun uq => uq) (fun v16 z15 =>
    some (v16, z15))
    else bo (fX3_isIn N p2 (0 : Int32) (1 : Int32)) (fun v2 =>
    if v2 = 0 then bx (fX3_no N σ (-2 : Int32)) (fun uq => uq) (fun v14 z13 =>
    some (v14, z13))
    else fX3_whatIs_L35 N  N σ p1 p2 (0 : Int32) (0 : Int32)))
abbrev rmX3_whatIs : Room := { frames := 7, cells := 0, slots := 0, locals := 156 }
theorem qX3_whatIs : yX3_whatIs.cls = RX3 ∧ yX3_whatIs.cls ≠ "java/lang/invoke/MethodHandle" ∧ yX3_whatIs.cls ≠ "java/lang/invoke/VarHandle" ∧ (parseMethodDescriptor yX3_whatIs.desc).map (fun d => d.parameters.length) = some 2 := by decide +kernel
set_option maxHeartbeats 400000 in
set_option maxRecDepth 100000 in
theorem mX3_whatIs (l : Launch) (D : va_G) (cI cJ : ClassId) (a : Nat → Nat) (sz N : Nat) (σ : St) (p1 : Int32) (p2 : Int32) (r : (Int32 × St)) (hf : fX3_whatIs N σ p1 p2 = some r) : Met l yX3_whatIs wsX3_whatIs rmX3_whatIs (WPre ([.ref (a 0), .int p1, .int p2] : List Value) sz D (tyIJ cI cJ) (wMo cI a σ)) (WQi sz D (wMo cI a σ) (wMo cI a (r.2)) r.1) 0 0 (va_A (wMo cI a σ) sz) := by
  refine W_start (cc := cX3_whatIs) (maxL := 7) (ret := (some .int)) (by decide) rfl (Nat.le_of_ble_eq_true rfl) (fun p e s m below meth c ls A hx hb hr hml hown hts hlk hP hK hS hA hD0 hAe hl => ?_)
  have hD : ∀ z, va_D A ((fun z => wMo cI a z) z) := fun z => hD0.ad rfl
  have hown : s.vm.findClass RX3 = some m.cls := hown
  have hl : lv_has ls 7 [(0, .ref (a 0)), (1, .int p1), (2, .int p2)] := hl
  have ln1 := hts (Cond.fieldLink RX3 9 "HoistsAreSharedModel" "s" "[I") (List.mem_of_getElem? (i := 1) rfl)
  have inX3 : ∀ w ∈ u_ws RX3 TX3 13, w ∈ wsX3_whatIs := fun _ h => List.mem_cons_of_mem _ (List.mem_append_right _ h)
  have ln3 := hts (Cond.fieldLink RX3 13 "HoistsAreSharedModel" "m" "[I") (List.mem_of_getElem? (i := 2) rfl)
  have ln4 := hts (Cond.fieldLink RX3 199 "HoistsAreSharedModel" "rowMany" "I") (List.mem_of_getElem? (i := 3) rfl)
  have ln5 := hts (Cond.fieldLink RX3 25 "HoistsAreSharedModel" "row" "[I") (List.mem_of_getElem? (i := 4) rfl)
  have b143 : ∀ (k35 : St → Int32 → Int32 → Int32 → Int32 → Option (Int32 × St)) (hk35 : (∀ (z : St) (x1 : Int32) (x2 : Int32) (x3 : Int32) (x4 : Int32) (H : Heap) (locs : List Loc) (ls : Array Slot), va_P D vwCl (wMo cI a z) H → va_S A s.heap H locs → lv_has ls 7 [(0, .ref (a 0)), (1, .int x1), (2, .int x2), (3, .int x3), (4, .int x4)] → k35 z x1 x2 x3 x4 = some r → W p l e rmX3_whatIs s m ([.ref (a 0), .int p1, .int p2] : List Value).toArray below meth c H locs 0 0 (MQ below (WQi sz D (wMo cI a σ) (wMo cI a (r.2)) r.1) ([.ref (a 0), .int p1, .int p2] : List Value).toArray s 0 0 A) (F0 m 35 ls []))) (z : St) (x1 : Int32) (x2 : Int32) (x4 : Int32) (y0 : Int32) (y1 : Int32) (H : Heap) (locs : List Loc) (ls : Array Slot), va_P D vwCl (wMo cI a z) H → va_S A s.heap H locs → lv_has ls 7 [(0, .ref (a 0)), (1, .int x1), (2, .int x2), (4, .int x4)] → fX3_whatIs_L143 N k35 z x1 x2 x4 y0 y1 = some r → W p l e rmX3_whatIs s m ([.ref (a 0), .int p1, .int p2] : List Value).toArray below meth c H locs 0 0 (MQ below (WQi sz D (wMo cI a σ) (wMo cI a (r.2)) r.1) ([.ref (a 0), .int p1, .int p2] : List Value).toArray s 0 0 A) (F0 m 143 ls [.int y0, .int y1]) := by
    intro k35 hk35 z x1 x2 x4 y0 y1 H locs ls hP hS hl hf
    unfold fX3_whatIs_L143 at hf
    refine lv_ior hx hb dX3_whatIs_143 ?_
    refine k_let hf (fun v6 hf => ?_)
    refine lv_istore_n (lv' := [(3, .int v6), (0, .ref (a 0)), (1, .int x1), (2, .int x2), (4, .int x4)]) hx hb dX3_whatIs_144 rfl hl (by decide) rfl (fun ls hl => ?_)
    refine k_iinc (d := (1 : Int32)) (lv' := fun v7 => [(4, .int v7), (3, .int v6), (0, .ref (a 0)), (1, .int x1), (2, .int x2)]) hx hb dX3_whatIs_145 hl (k := 4) rfl (by decide) (by decide) (fun _ => rfl) hf (fun v7 ls hl hf => ?_)
    refine lv_goto (tgt := 35) hx hb dX3_whatIs_148 (by decide) ?_
    exact hk35 z x1 x2 v6 v7 H locs ls hP hS (lv_sub hl [2, 3, 4, 1, 0] rfl) hf
  have b112 : ∀ (k35 : St → Int32 → Int32 → Int32 → Int32 → Option (Int32 × St)) (hk35 : (∀ (z : St) (x1 : Int32) (x2 : Int32) (x3 : Int32) (x4 : Int32) (H : Heap) (locs : List Loc) (ls : Array Slot), va_P D vwCl (wMo cI a z) H → va_S A s.heap H locs → lv_has ls 7 [(0, .ref (a 0)), (1, .int x1), (2, .int x2), (3, .int x3), (4, .int x4)] → k35 z x1 x2 x3 x4 = some r → W p l e rmX3_whatIs s m ([.ref (a 0), .int p1, .int p2] : List Value).toArray below meth c H locs 0 0 (MQ below (WQi sz D (wMo cI a σ) (wMo cI a (r.2)) r.1) ([.ref (a 0), .int p1, .int p2] : List Value).toArray s 0 0 A) (F0 m 35 ls []))) (k80 : St → Int32 → Int32 → Int32 → Int32 → Int32 → Int32 → Option (Int32 × St)) (hk80 : (∀ (z : St) (x1 : Int32) (x2 : Int32) (x3 : Int32) (x4 : Int32) (x5 : Int32) (x6 : Int32) (H : Heap) (locs : List Loc) (ls : Array Slot), va_P D vwCl (wMo cI a z) H → va_S A s.heap H locs → lv_has ls 7 [(0, .ref (a 0)), (1, .int x1), (2, .int x2), (3, .int x3), (4, .int x4), (5, .int x5), (6, .int x6)] → k80 z x1 x2 x3 x4 x5 x6 = some r → W p l e rmX3_whatIs s m ([.ref (a 0), .int p1, .int p2] : List Value).toArray below meth c H locs 0 0 (MQ below (WQi sz D (wMo cI a σ) (wMo cI a (r.2)) r.1) ([.ref (a 0), .int p1, .int p2] : List Value).toArray s 0 0 A) (F0 m 80 ls []))) (z : St) (x1 : Int32) (x2 : Int32) (x3 : Int32) (x4 : Int32) (x6 : Int32) (y0 : Int32) (y1 : Int32) (H : Heap) (locs : List Loc) (ls : Array Slot), va_P D vwCl (wMo cI a z) H → va_S A s.heap H locs → lv_has ls 7 [(0, .ref (a 0)), (1, .int x1), (2, .int x2), (3, .int x3), (4, .int x4), (6, .int x6)] → fX3_whatIs_L112 N k35 k80 z x1 x2 x3 x4 x6 y0 y1 = some r → W p l e rmX3_whatIs s m ([.ref (a 0), .int p1, .int p2] : List Value).toArray below meth c H locs 0 0 (MQ below (WQi sz D (wMo cI a σ) (wMo cI a (r.2)) r.1) ([.ref (a 0), .int p1, .int p2] : List Value).toArray s 0 0 A) (F0 m 112 ls [.int y0, .int y1]) := by
    intro k35 hk35 k80 hk80 z x1 x2 x3 x4 x6 y0 y1 H locs ls hP hS hl hf
    unfold fX3_whatIs_L112 at hf
    refine lv_iand hx hb dX3_whatIs_112 ?_
    refine k_let hf (fun v10 hf => ?_)
    refine lv_istore (lv' := [(5, .int v10), (0, .ref (a 0)), (1, .int x1), (2, .int x2), (3, .int x3), (4, .int x4), (6, .int x6)]) hx hb dX3_whatIs_113 hl (by decide) rfl (fun ls hl => ?_)
    refine lv_aload_n hx hb dX3_whatIs_115 rfl (lv_at hl 1 rfl) ?_
    refine va_get (D := D) (ci := 3) (v := .ref (a 2)) (C := RX3) (T := TX3) (N := 13) hx hb hts inX3 hown hK hP 0 rfl rfl 1 (by decide) ln3 (fun _ h9 => h9) rfl dX3_whatIs_116 ?_
    refine lv_iconst (v := (0 : Int32)) hx hb dX3_whatIs_119 (by decide) ?_
    refine d_callSv (As := [.ref ((sb [2] a) 0), .int (0 : Int32)]) (rest := []) (w := (fun z => wMo cI a z)) (wc := (wAr cI (sb [2] a))) (put := (fun uq => pb [2] uq z)) (σ := z) (τ0 := (sb [2] z)) ⟨hx, hb, hml, hown, hts⟩ hf (fun zq hq => mX3_day l D cI cJ (sb [2] a) H.size N (sb [2] z) (0 : Int32) zq hq) (va_cwS 2 hts gX3_whatIs_X3_day rfl rfl rfl qX3_day ⟨Nat.le_of_ble_eq_true rfl, Nat.le_of_ble_eq_true rfl⟩) hK hP hD hS hA (cmb_Mo_Ar_2 D cI a z hP (hD _)) rfl hl.1 rfl (Nat.le_of_ble_eq_true rfl) dX3_whatIs_120 ⟨Nat.le_refl _, Nat.le_refl _⟩ (fun z11 H locs hP hS hf => ?_)
    refine k_iinc (d := (1 : Int32)) (lv' := fun v12 => [(6, .int v12), (5, .int v10), (0, .ref (a 0)), (1, .int x1), (2, .int x2), (3, .int x3), (4, .int x4)]) hx hb dX3_whatIs_123 hl (k := 6) rfl (by decide) (by decide) (fun _ => rfl) hf (fun v12 ls hl hf => ?_)
    refine lv_goto (tgt := 80) hx hb dX3_whatIs_126 (by decide) ?_
    exact hk80 z11 x1 x2 x3 x4 v10 v12 H locs ls hP hS (lv_sub hl [2, 3, 4, 5, 6, 1, 0] rfl) hf
  have b80 : ∀ (k35 : St → Int32 → Int32 → Int32 → Int32 → Option (Int32 × St)) (hk35 : (∀ (z : St) (x1 : Int32) (x2 : Int32) (x3 : Int32) (x4 : Int32) (H : Heap) (locs : List Loc) (ls : Array Slot), va_P D vwCl (wMo cI a z) H → va_S A s.heap H locs → lv_has ls 7 [(0, .ref (a 0)), (1, .int x1), (2, .int x2), (3, .int x3), (4, .int x4)] → k35 z x1 x2 x3 x4 = some r → W p l e rmX3_whatIs s m ([.ref (a 0), .int p1, .int p2] : List Value).toArray below meth c H locs 0 0 (MQ below (WQi sz D (wMo cI a σ) (wMo cI a (r.2)) r.1) ([.ref (a 0), .int p1, .int p2] : List Value).toArray s 0 0 A) (F0 m 35 ls []))) (n : Nat) (z : St) (x1 : Int32) (x2 : Int32) (x3 : Int32) (x4 : Int32) (x5 : Int32) (x6 : Int32) (H : Heap) (locs : List Loc) (ls : Array Slot), va_P D vwCl (wMo cI a z) H → va_S A s.heap H locs → lv_has ls 7 [(0, .ref (a 0)), (1, .int x1), (2, .int x2), (3, .int x3), (4, .int x4), (5, .int x5), (6, .int x6)] → fX3_whatIs_L80 N k35 n z x1 x2 x3 x4 x5 x6 = some r → W p l e rmX3_whatIs s m ([.ref (a 0), .int p1, .int p2] : List Value).toArray below meth c H locs 0 0 (MQ below (WQi sz D (wMo cI a σ) (wMo cI a (r.2)) r.1) ([.ref (a 0), .int p1, .int p2] : List Value).toArray s 0 0 A) (F0 m 80 ls []) := by
    intro k35 hk35 n
    induction n with
    | zero => intro z x1 x2 x3 x4 x5 x6 H locs ls hP hS hl hf; cases hf
    | succ n ih =>
      intro z x1 x2 x3 x4 x5 x6 H locs ls hP hS hl hf
      rw [fX3_whatIs_L80] at hf
      refine lv_iload hx hb dX3_whatIs_80 (lv_at hl 6 rfl) ?_
      refine lv_aload_n hx hb dX3_whatIs_82 rfl (lv_at hl 0 rfl) ?_
      refine va_get (D := D) (ci := 3) (v := .int (z 0 9)) (C := RX3) (T := TX3) (N := 13) hx hb hts inX3 hown hK hP 0 rfl rfl 9 (by decide) ln4 (fun _ h9 => h9) rfl dX3_whatIs_83 ?_
      refine k_icmp_ge (tgt := 129) hx hb dX3_whatIs_86 (by decide) hf (fun hf => ?_) (fun hf => ?_)
      · refine lv_iload_n hx hb dX3_whatIs_129 rfl (lv_at hl 3 rfl) ?_
        refine lv_iload hx hb dX3_whatIs_130 (lv_at hl 5 rfl) ?_
        refine k_if_eq (tgt := 142) hx hb dX3_whatIs_132 (by decide) hf (fun hf => ?_) (fun hf => ?_)
        · refine lv_iconst (v := (0 : Int32)) hx hb dX3_whatIs_142 (by decide) ?_
          exact b143 k35 hk35 z x1 x2 x4 (0 : Int32) x3 H locs ls hP hS (lv_sub hl [0, 1, 2, 4] rfl) hf
        · refine lv_iconst (v := (1 : Int32)) hx hb dX3_whatIs_135 (by decide) ?_
          refine lv_iload hx hb dX3_whatIs_136 (lv_at hl 4 rfl) ?_
          refine lv_ishl hx hb dX3_whatIs_138 ?_
          refine lv_goto (tgt := 143) hx hb dX3_whatIs_139 (by decide) ?_
          exact b143 k35 hk35 z x1 x2 x4 ((1 : Int32) <<< (x4 &&& 31)) x3 H locs ls hP hS (lv_sub hl [0, 1, 2, 4] rfl) hf
      · refine lv_iload hx hb dX3_whatIs_89 (lv_at hl 5 rfl) ?_
        refine lv_aload_n hx hb dX3_whatIs_91 rfl (lv_at hl 0 rfl) ?_
        refine va_get (D := D) (ci := 3) (v := .ref (a 2)) (C := RX3) (T := TX3) (N := 13) hx hb hts inX3 hown hK hP 0 rfl rfl 1 (by decide) ln3 (fun _ h9 => h9) rfl dX3_whatIs_92 ?_
        refine lv_iconst (v := (2 : Int32)) hx hb dX3_whatIs_95 (by decide) ?_
        refine k_iald hx hb hK hP 2 0 hf rfl rfl dX3_whatIs_96 (fun v8 hf => ?_)
        refine lv_aload_n hx hb dX3_whatIs_97 rfl (lv_at hl 0 rfl) ?_
        refine va_get (D := D) (ci := 3) (v := .ref (a 6)) (C := RX3) (T := TX3) (N := 13) hx hb hts inX3 hown hK hP 0 rfl rfl 6 (by decide) ln5 (fun _ h9 => h9) rfl dX3_whatIs_98 ?_
        refine lv_iload hx hb dX3_whatIs_101 (lv_at hl 6 rfl) ?_
        refine k_iald hx hb hK hP 6 0 hf rfl rfl dX3_whatIs_103 (fun v9 hf => ?_)
        refine k_icmp_ne (tgt := 111) hx hb dX3_whatIs_104 (by decide) hf (fun hf => ?_) (fun hf => ?_)
        · refine lv_iconst (v := (0 : Int32)) hx hb dX3_whatIs_111 (by decide) ?_
          exact b112 k35 hk35 (fX3_whatIs_L80 N k35 n) ih z x1 x2 x3 x4 x6 (0 : Int32) x5 H locs ls hP hS (lv_sub hl [0, 1, 2, 3, 4, 6] rfl) hf
        · refine lv_iconst (v := (1 : Int32)) hx hb dX3_whatIs_107 (by decide) ?_
          refine lv_goto (tgt := 112) hx hb dX3_whatIs_108 (by decide) ?_
          exact b112 k35 hk35 (fX3_whatIs_L80 N k35 n) ih z x1 x2 x3 x4 x6 (1 : Int32) x5 H locs ls hP hS (lv_sub hl [0, 1, 2, 3, 4, 6] rfl) hf
  have b48 : ∀ (k35 : St → Int32 → Int32 → Int32 → Int32 → Option (Int32 × St)) (hk35 : (∀ (z : St) (x1 : Int32) (x2 : Int32) (x3 : Int32) (x4 : Int32) (H : Heap) (locs : List Loc) (ls : Array Slot), va_P D vwCl (wMo cI a z) H → va_S A s.heap H locs → lv_has ls 7 [(0, .ref (a 0)), (1, .int x1), (2, .int x2), (3, .int x3), (4, .int x4)] → k35 z x1 x2 x3 x4 = some r → W p l e rmX3_whatIs s m ([.ref (a 0), .int p1, .int p2] : List Value).toArray below meth c H locs 0 0 (MQ below (WQi sz D (wMo cI a σ) (wMo cI a (r.2)) r.1) ([.ref (a 0), .int p1, .int p2] : List Value).toArray s 0 0 A) (F0 m 35 ls []))) (z : St) (x1 : Int32) (x2 : Int32) (x3 : Int32) (x4 : Int32) (y0 : Int32) (y1 : Int32) (H : Heap) (locs : List Loc) (ls : Array Slot), va_P D vwCl (wMo cI a z) H → va_S A s.heap H locs → lv_has ls 7 [(0, .ref (a 0)), (1, .int x1), (2, .int x2), (3, .int x3), (4, .int x4)] → fX3_whatIs_L48 N k35 z x1 x2 x3 x4 y0 y1 = some r → W p l e rmX3_whatIs s m ([.ref (a 0), .int p1, .int p2] : List Value).toArray below meth c H locs 0 0 (MQ below (WQi sz D (wMo cI a σ) (wMo cI a (r.2)) r.1) ([.ref (a 0), .int p1, .int p2] : List Value).toArray s 0 0 A) (F0 m 48 ls [.int y0, .int y1]) := by
    intro k35 hk35 z x1 x2 x3 x4 y0 y1 H locs ls hP hS hl hf
    unfold fX3_whatIs_L48 at hf
    refine k_icmp_ge (tgt := 151) hx hb dX3_whatIs_48 (by decide) hf (fun hf => ?_) (fun hf => ?_)
    · refine lv_iload_n hx hb dX3_whatIs_151 rfl (lv_at hl 3 rfl) ?_
      exact W_iret (fun z => wMo cI a z) hx hb hr hlk hP hS hAe hf dX3_whatIs_152
    · refine lv_iconst (v := (1 : Int32)) hx hb dX3_whatIs_51 (by decide) ?_
      refine lv_istore (lv' := [(5, .int (1 : Int32)), (0, .ref (a 0)), (1, .int x1), (2, .int x2), (3, .int x3), (4, .int x4)]) hx hb dX3_whatIs_52 hl (by decide) rfl (fun ls hl => ?_)
      refine lv_aload_n hx hb dX3_whatIs_54 rfl (lv_at hl 1 rfl) ?_
      refine va_get (D := D) (ci := 3) (v := .ref (a 1)) (C := RX3) (T := TX3) (N := 13) hx hb hts inX3 hown hK hP 0 rfl rfl 0 (by decide) ln1 (fun _ h9 => h9) rfl dX3_whatIs_55 ?_
      refine lv_aload_n hx hb dX3_whatIs_58 rfl (lv_at hl 1 rfl) ?_
      refine va_get (D := D) (ci := 3) (v := .ref (a 2)) (C := RX3) (T := TX3) (N := 13) hx hb hts inX3 hown hK hP 0 rfl rfl 1 (by decide) ln3 (fun _ h9 => h9) rfl dX3_whatIs_59 ?_
      refine d_callSv (As := [.ref ((sb [1, 2] a) 0), .ref ((sb [1, 2] a) 1)]) (rest := []) (w := (fun z => wMo cI a z)) (wc := (wAr2 cI (sb [1, 2] a))) (put := (fun uq => pb [1, 2] uq z)) (σ := z) (τ0 := (sb [1, 2] z)) ⟨hx, hb, hml, hown, hts⟩ hf (fun zq hq => mX3_copies l D cI cJ (sb [1, 2] a) H.size N (sb [1, 2] z) zq hq) (va_cwS 2 hts gX3_whatIs_X3_copies rfl rfl rfl qX3_copies ⟨Nat.le_of_ble_eq_true rfl, Nat.le_of_ble_eq_true rfl⟩) hK hP hD hS hA (cmb_Mo_Ar2_1_2 D cI a z hP (hD _)) rfl hl.1 rfl (Nat.le_of_ble_eq_true rfl) dX3_whatIs_62 ⟨Nat.le_refl _, Nat.le_refl _⟩ (fun z3 H locs hP hS hf => ?_)
      refine lv_aload_n hx hb dX3_whatIs_65 rfl (lv_at hl 1 rfl) ?_
      refine va_get (D := D) (ci := 3) (v := .ref (a 2)) (C := RX3) (T := TX3) (N := 13) hx hb hts inX3 hown hK hP 0 rfl rfl 1 (by decide) ln3 (fun _ h9 => h9) rfl dX3_whatIs_66 ?_
      refine lv_iload_n hx hb dX3_whatIs_69 rfl (lv_at hl 2 rfl) ?_
      refine lv_iload_n hx hb dX3_whatIs_70 rfl (lv_at hl 3 rfl) ?_
      refine c_callS (As := [.int x1, .int x2]) (rest := [.ref (a 2)]) ⟨hx, hb, hml, hown, hts⟩ hf (fun vq hq => mX3_of l D cI cJ H.size N x1 x2 vq hq) (va_cwS 2 hts gX3_whatIs_X3_of rfl rfl rfl qX3_of ⟨Nat.le_of_ble_eq_true rfl, Nat.le_of_ble_eq_true rfl⟩) hK hP hS hA va_P_nil rfl hl.1 rfl (Nat.le_of_ble_eq_true rfl) dX3_whatIs_71 ⟨Nat.le_refl _, Nat.le_refl _⟩ (fun v4 H locs hP hS hf => ?_)
      refine lv_iload hx hb dX3_whatIs_74 (lv_at hl 5 rfl) ?_
      refine k_iast (w := (fun z => wMo cI a z)) hx hb hK hP hD hS 2 0 hf rfl rfl (fun _ => rfl) dX3_whatIs_76 (fun z5 H locs hP hS hf => ?_)
      refine lv_iconst (v := (0 : Int32)) hx hb dX3_whatIs_77 (by decide) ?_
      refine lv_istore (lv' := [(6, .int (0 : Int32)), (5, .int (1 : Int32)), (0, .ref (a 0)), (1, .int x1), (2, .int x2), (3, .int x3), (4, .int x4)]) hx hb dX3_whatIs_78 hl (by decide) rfl (fun ls hl => ?_)
      exact b80 k35 hk35 N z5 x1 x2 x3 x4 (1 : Int32) (0 : Int32) H locs ls hP hS (lv_sub hl [2, 3, 4, 5, 6, 1, 0] rfl) hf
  have b35 : ∀  (n : Nat) (z : St) (x1 : Int32) (x2 : Int32) (x3 : Int32) (x4 : Int32) (H : Heap) (locs : List Loc) (ls : Array Slot), va_P D vwCl (wMo cI a z) H → va_S A s.heap H locs → lv_has ls 7 [(0, .ref (a 0)), (1, .int x1), (2, .int x2), (3, .int x3), (4, .int x4)] → fX3_whatIs_L35 N n z x1 x2 x3 x4 = some r → W p l e rmX3_whatIs s m ([.ref (a 0), .int p1, .int p2] : List Value).toArray below meth c H locs 0 0 (MQ below (WQi sz D (wMo cI a σ) (wMo cI a (r.2)) r.1) ([.ref (a 0), .int p1, .int p2] : List Value).toArray s 0 0 A) (F0 m 35 ls []) := by
    intro n
    induction n with
    | zero => intro z x1 x2 x3 x4 H locs ls hP hS hl hf; cases hf
    | succ n ih =>
      intro z x1 x2 x3 x4 H locs ls hP hS hl hf
      rw [fX3_whatIs_L35] at hf
      refine lv_iload hx hb dX3_whatIs_35 (lv_at hl 4 rfl) ?_
      refine lv_iload_n hx hb dX3_whatIs_37 rfl (lv_at hl 2 rfl) ?_
      refine k_if_ne (tgt := 46) hx hb dX3_whatIs_38 (by decide) hf (fun hf => ?_) (fun hf => ?_)
      · refine lv_bipush (v := (10 : Int32)) hx hb dX3_whatIs_46 (by decide) ?_
        exact b48 (fX3_whatIs_L35 N n) ih z x1 x2 x3 x4 (10 : Int32) x4 H locs ls hP hS (lv_sub hl [0, 1, 2, 3, 4] rfl) hf
      · refine lv_bipush (v := (6 : Int32)) hx hb dX3_whatIs_41 (by decide) ?_
        refine lv_goto (tgt := 48) hx hb dX3_whatIs_43 (by decide) ?_
        exact b48 (fX3_whatIs_L35 N n) ih z x1 x2 x3 x4 (6 : Int32) x4 H locs ls hP hS (lv_sub hl [0, 1, 2, 3, 4] rfl) hf
  unfold fX3_whatIs at hf
  refine lv_aload_n hx hb dX3_whatIs_0 rfl (lv_at hl 0 rfl) ?_
  refine lv_iload_n hx hb dX3_whatIs_1 rfl (lv_at hl 1 rfl) ?_
  refine c_callV (As := [.int p1]) (rest := []) ⟨hx, hb, hml, hown, hts⟩ hf (fun vq hq => mX3_isThing l D cI cJ a s.heap.size N σ p1 vq hq) (cwV 1 hts gX3_whatIs_X3_isThing rfl rfl rfl qX3_isThing ⟨Nat.le_of_ble_eq_true rfl, Nat.le_of_ble_eq_true rfl⟩) hK hP hS hA hP 3 rfl rfl rfl rfl hl.1 rfl (Nat.le_of_ble_eq_true rfl) dX3_whatIs_2 ⟨Nat.le_refl _, Nat.le_refl _⟩ (fun v1 H locs hP hS hf => ?_)
  refine k_if_ne (tgt := 14) hx hb dX3_whatIs_5 (by decide) hf (fun hf => ?_) (fun hf => ?_)
  · refine lv_iload_n hx hb dX3_whatIs_14 rfl (lv_at hl 2 rfl) ?_
    refine lv_iconst (v := (0 : Int32)) hx hb dX3_whatIs_15 (by decide) ?_
    refine lv_iconst (v := (1 : Int32)) hx hb dX3_whatIs_16 (by decide) ?_
    refine c_callS (As := [.int p2, .int (0 : Int32), .int (1 : Int32)]) (rest := []) ⟨hx, hb, hml, hown, hts⟩ hf (fun vq hq => mX3_isIn l D cI cJ H.size N p2 (0 : Int32) (1 : Int32) vq hq) (va_cwS 3 hts gX3_whatIs_X3_isIn rfl rfl rfl qX3_isIn ⟨Nat.le_of_ble_eq_true rfl, Nat.le_of_ble_eq_true rfl⟩) hK hP hS hA va_P_nil rfl hl.1 rfl (Nat.le_of_ble_eq_true rfl) dX3_whatIs_17 ⟨Nat.le_refl _, Nat.le_refl _⟩ (fun v2 H locs hP hS hf => ?_)
    refine k_if_ne (tgt := 30) hx hb dX3_whatIs_20 (by decide) hf (fun hf => ?_) (fun hf => ?_)
    · refine lv_iconst (v := (0 : Int32)) hx hb dX3_whatIs_30 (by decide) ?_
      refine lv_istore_n (lv' := [(3, .int (0 : Int32)), (0, .ref (a 0)), (1, .int p1), (2, .int p2)]) hx hb dX3_whatIs_31 rfl hl (by decide) rfl (fun ls hl => ?_)
      refine lv_iconst (v := (0 : Int32)) hx hb dX3_whatIs_32 (by decide) ?_
      refine lv_istore (lv' := [(4, .int (0 : Int32)), (3, .int (0 : Int32)), (0, .ref (a 0)), (1, .int p1), (2, .int p2)]) hx hb dX3_whatIs_33 hl (by decide) rfl (fun ls hl => ?_)
      exact b35  N σ p1 p2 (0 : Int32) (0 : Int32) H locs ls hP hS (lv_sub hl [2, 3, 4, 1, 0] rfl) hf
    · refine lv_aload_n hx hb dX3_whatIs_23 rfl (lv_at hl 0 rfl) ?_
      refine lv_bipush (v := (-2 : Int32)) hx hb dX3_whatIs_24 (by decide) ?_
      refine d_callV (As := [.int (-2 : Int32)]) (rest := []) (w := (fun z => wMo cI a z)) (wc := (wMo cI a)) (put := (fun uq => uq)) (σ := σ) (τ0 := σ) ⟨hx, hb, hml, hown, hts⟩ hf (fun vq zq hq => mX3_no l D cI cJ a H.size N σ (-2 : Int32) (vq, zq) hq) (cwV 1 hts gX3_whatIs_X3_no rfl rfl rfl qX3_no ⟨Nat.le_of_ble_eq_true rfl, Nat.le_of_ble_eq_true rfl⟩) hK hP hD hS hA ⟨hP, hD _, fun _ _ _ h => h⟩ 3 rfl rfl rfl rfl hl.1 rfl (Nat.le_of_ble_eq_true rfl) dX3_whatIs_26 ⟨Nat.le_refl _, Nat.le_refl _⟩ (fun v14 z13 H locs hP hS hf => ?_)
      exact W_iret (fun z => wMo cI a z) hx hb hr hlk hP hS hAe hf dX3_whatIs_29
  · refine lv_aload_n hx hb dX3_whatIs_8 rfl (lv_at hl 0 rfl) ?_
    refine lv_iconst (v := (-1 : Int32)) hx hb dX3_whatIs_9 (by decide) ?_
    refine d_callV (As := [.int (-1 : Int32)]) (rest := []) (w := (fun z => wMo cI a z)) (wc := (wMo cI a)) (put := (fun uq => uq)) (σ := σ) (τ0 := σ) ⟨hx, hb, hml, hown, hts⟩ hf (fun vq zq hq => mX3_no l D cI cJ a H.size N σ (-1 : Int32) (vq, zq) hq) (cwV 1 hts gX3_whatIs_X3_no rfl rfl rfl qX3_no ⟨Nat.le_of_ble_eq_true rfl, Nat.le_of_ble_eq_true rfl⟩) hK hP hD hS hA ⟨hP, hD _, fun _ _ _ h => h⟩ 3 rfl rfl rfl rfl hl.1 rfl (Nat.le_of_ble_eq_true rfl) dX3_whatIs_10 ⟨Nat.le_refl _, Nat.le_refl _⟩ (fun v16 z15 H locs hP hS hf => ?_)
    exact W_iret (fun z => wMo cI a z) hx hb hr hlk hP hS hAe hf dX3_whatIs_13
def fX3_row_L24 (N : Nat)  (z : St) (x1 : Int32) (x2 : Int32) : Option (Int32 × St) :=
    if x2 = 0 then bo (wrI z 6 16 (z 0 9) x1) (fun z2 =>
    lt_ (((z2 0 9) + (1 : Int32)) : Int32) (fun v3 =>
    lt_ (up2 z2 0 9 v3) (fun z4 =>
    some ((z4 0 9), z4))))
    else bx (fX3_no N z x2) (fun uq => uq) (fun v6 z5 =>
    some (v6, z5))
def fX3_row (N : Nat) (σ : St) (p1 : Int32) : Option (Int32 × St) :=
    bo (fX3_wrongBy N p1 (0 : Int32) (99 : Int32)) (fun v1 =>
    if v1 = 0 then if (σ 0 9) = (16 : Int32) then fX3_row_L24 N  σ p1 (-6 : Int32)
    else fX3_row_L24 N  σ p1 v1
    else fX3_row_L24 N  σ p1 v1)
abbrev rmX3_row : Room := { frames := 1, cells := 0, slots := 0, locals := 22 }
theorem qX3_row : yX3_row.cls = RX3 ∧ yX3_row.cls ≠ "java/lang/invoke/MethodHandle" ∧ yX3_row.cls ≠ "java/lang/invoke/VarHandle" ∧ (parseMethodDescriptor yX3_row.desc).map (fun d => d.parameters.length) = some 1 := by decide +kernel
set_option maxHeartbeats 400000 in
set_option maxRecDepth 100000 in
theorem mX3_row (l : Launch) (D : va_G) (cI cJ : ClassId) (a : Nat → Nat) (sz N : Nat) (σ : St) (p1 : Int32) (r : (Int32 × St)) (hf : fX3_row N σ p1 = some r) : Met l yX3_row wsX3_row rmX3_row (WPre ([.ref (a 0), .int p1] : List Value) sz D (tyIJ cI cJ) (wMo cI a σ)) (WQi sz D (wMo cI a σ) (wMo cI a (r.2)) r.1) 0 0 (va_A (wMo cI a σ) sz) := by
  refine W_start (cc := cX3_row) (maxL := 3) (ret := (some .int)) (by decide) rfl (Nat.le_of_ble_eq_true rfl) (fun p e s m below meth c ls A hx hb hr hml hown hts hlk hP hK hS hA hD0 hAe hl => ?_)
  have hD : ∀ z, va_D A ((fun z => wMo cI a z) z) := fun z => hD0.ad rfl
  have hown : s.vm.findClass RX3 = some m.cls := hown
  have hl : lv_has ls 3 [(0, .ref (a 0)), (1, .int p1)] := hl
  have ln1 := hts (Cond.fieldLink RX3 25 "HoistsAreSharedModel" "row" "[I") (List.mem_of_getElem? (i := 2) rfl)
  have inX3 : ∀ w ∈ u_ws RX3 TX3 13, w ∈ wsX3_row := fun _ h => List.mem_cons_of_mem _ (List.mem_append_right _ h)
  have ln3 := hts (Cond.fieldLink RX3 199 "HoistsAreSharedModel" "rowMany" "I") (List.mem_of_getElem? (i := 1) rfl)
  have b24 : ∀  (z : St) (x1 : Int32) (x2 : Int32) (H : Heap) (locs : List Loc) (ls : Array Slot), va_P D vwCl (wMo cI a z) H → va_S A s.heap H locs → lv_has ls 3 [(0, .ref (a 0)), (1, .int x1), (2, .int x2)] → fX3_row_L24 N z x1 x2 = some r → W p l e rmX3_row s m ([.ref (a 0), .int p1] : List Value).toArray below meth c H locs 0 0 (MQ below (WQi sz D (wMo cI a σ) (wMo cI a (r.2)) r.1) ([.ref (a 0), .int p1] : List Value).toArray s 0 0 A) (F0 m 24 ls []) := by
    intro  z x1 x2 H locs ls hP hS hl hf
    unfold fX3_row_L24 at hf
    refine lv_iload_n hx hb dX3_row_24 rfl (lv_at hl 2 rfl) ?_
    refine k_if_eq (tgt := 34) hx hb dX3_row_25 (by decide) hf (fun hf => ?_) (fun hf => ?_)
    · refine lv_aload_n hx hb dX3_row_34 rfl (lv_at hl 0 rfl) ?_
      refine va_get (D := D) (ci := 3) (v := .ref (a 6)) (C := RX3) (T := TX3) (N := 13) hx hb hts inX3 hown hK hP 0 rfl rfl 6 (by decide) ln1 (fun _ h9 => h9) rfl dX3_row_35 ?_
      refine lv_aload_n hx hb dX3_row_38 rfl (lv_at hl 0 rfl) ?_
      refine va_get (D := D) (ci := 3) (v := .int (z 0 9)) (C := RX3) (T := TX3) (N := 13) hx hb hts inX3 hown hK hP 0 rfl rfl 9 (by decide) ln3 (fun _ h9 => h9) rfl dX3_row_39 ?_
      refine lv_iload_n hx hb dX3_row_42 rfl (lv_at hl 1 rfl) ?_
      refine k_iast (w := (fun z => wMo cI a z)) hx hb hK hP hD hS 6 0 hf rfl rfl (fun _ => rfl) dX3_row_43 (fun z2 H locs hP hS hf => ?_)
      refine lv_aload_n hx hb dX3_row_44 rfl (lv_at hl 0 rfl) ?_
      refine lv_dup hx hb dX3_row_45 rfl ?_
      refine va_get (D := D) (ci := 3) (v := .int (z2 0 9)) (C := RX3) (T := TX3) (N := 13) hx hb hts inX3 hown hK hP 0 rfl rfl 9 (by decide) ln3 (fun _ h9 => h9) rfl dX3_row_46 ?_
      refine lv_iconst (v := (1 : Int32)) hx hb dX3_row_49 (by decide) ?_
      refine lv_iadd hx hb dX3_row_50 ?_
      refine k_let hf (fun v3 hf => ?_)
      refine k_put (ci := 3) (C := RX3) (T := TX3) (N := 13) (ty := .int) (w := (fun z => wMo cI a z)) hx hb hts inX3 tyX3 tyX3_ok nmX3 hown hK hP hD hS 0 rfl rfl 9 (by decide) ln3 (fun _ h9 => h9) rfl (by decide +kernel) rfl rfl (Nat.le_of_ble_eq_true rfl) (cN := 0) hf rfl dX3_row_51 (fun z4 H locs hP hS hf => ?_)
      refine lv_aload_n hx hb dX3_row_54 rfl (lv_at hl 0 rfl) ?_
      refine va_get (D := D) (ci := 3) (v := .int (z4 0 9)) (C := RX3) (T := TX3) (N := 13) hx hb hts inX3 hown hK hP 0 rfl rfl 9 (by decide) ln3 (fun _ h9 => h9) rfl dX3_row_55 ?_
      exact W_iret (fun z => wMo cI a z) hx hb hr hlk hP hS hAe hf dX3_row_58
    · refine lv_aload_n hx hb dX3_row_28 rfl (lv_at hl 0 rfl) ?_
      refine lv_iload_n hx hb dX3_row_29 rfl (lv_at hl 2 rfl) ?_
      refine d_callV (As := [.int x2]) (rest := []) (w := (fun z => wMo cI a z)) (wc := (wMo cI a)) (put := (fun uq => uq)) (σ := z) (τ0 := z) ⟨hx, hb, hml, hown, hts⟩ hf (fun vq zq hq => mX3_no l D cI cJ a H.size N z x2 (vq, zq) hq) (cwV 1 hts gX3_row_X3_no rfl rfl rfl qX3_no ⟨Nat.le_of_ble_eq_true rfl, Nat.le_of_ble_eq_true rfl⟩) hK hP hD hS hA ⟨hP, hD _, fun _ _ _ h => h⟩ 3 rfl rfl rfl rfl hl.1 rfl (Nat.le_of_ble_eq_true rfl) dX3_row_30 ⟨Nat.le_refl _, Nat.le_refl _⟩ (fun v6 z5 H locs hP hS hf => ?_)
      exact W_iret (fun z => wMo cI a z) hx hb hr hlk hP hS hAe hf dX3_row_33
  unfold fX3_row at hf
  refine lv_iload_n hx hb dX3_row_0 rfl (lv_at hl 1 rfl) ?_
  refine lv_iconst (v := (0 : Int32)) hx hb dX3_row_1 (by decide) ?_
  refine lv_bipush (v := (99 : Int32)) hx hb dX3_row_2 (by decide) ?_
  refine c_callS (As := [.int p1, .int (0 : Int32), .int (99 : Int32)]) (rest := []) ⟨hx, hb, hml, hown, hts⟩ hf (fun vq hq => mX3_wrongBy l D cI cJ s.heap.size N p1 (0 : Int32) (99 : Int32) vq hq) (va_cwS 3 hts gX3_row_X3_wrongBy rfl rfl rfl qX3_wrongBy ⟨Nat.le_of_ble_eq_true rfl, Nat.le_of_ble_eq_true rfl⟩) hK hP hS hA va_P_nil rfl hl.1 rfl (Nat.le_of_ble_eq_true rfl) dX3_row_4 ⟨Nat.le_refl _, Nat.le_refl _⟩ (fun v1 H locs hP hS hf => ?_)
  refine lv_istore_n (lv' := [(2, .int v1), (0, .ref (a 0)), (1, .int p1)]) hx hb dX3_row_7 rfl hl (by decide) rfl (fun ls hl => ?_)
  refine lv_iload_n hx hb dX3_row_8 rfl (lv_at hl 0 rfl) ?_
  refine k_if_ne (tgt := 24) hx hb dX3_row_9 (by decide) hf (fun hf => ?_) (fun hf => ?_)
  · exact b24  σ p1 v1 H locs ls hP hS (lv_sub hl [1, 2, 0] rfl) hf
  · refine lv_aload_n hx hb dX3_row_12 rfl (lv_at hl 1 rfl) ?_
    refine va_get (D := D) (ci := 3) (v := .int (σ 0 9)) (C := RX3) (T := TX3) (N := 13) hx hb hts inX3 hown hK hP 0 rfl rfl 9 (by decide) ln3 (fun _ h9 => h9) rfl dX3_row_13 ?_
    refine lv_bipush (v := (16 : Int32)) hx hb dX3_row_16 (by decide) ?_
    refine k_icmp_ne (tgt := 24) hx hb dX3_row_18 (by decide) hf (fun hf => ?_) (fun hf => ?_)
    · exact b24  σ p1 v1 H locs ls hP hS (lv_sub hl [1, 2, 0] rfl) hf
    · refine lv_bipush (v := (-6 : Int32)) hx hb dX3_row_21 (by decide) ?_
      refine lv_istore_n (lv' := [(2, .int (-6 : Int32)), (0, .ref (a 0)), (1, .int p1)]) hx hb dX3_row_23 rfl hl (by decide) rfl (fun ls hl => ?_)
      exact b24  σ p1 (-6 : Int32) H locs ls hP hS (lv_sub hl [1, 2, 0] rfl) hf
def fX3_judge_L12 (N : Nat)  : Nat → St → Int32 → Int32 → Option (Int32 × St)
  | 0, _, _, _ => none
  | n + 1, z, x1, x2 =>
    if x1 ≤ x2 then some ((-9 : Int32), z)
    else bo (fX3_isThing N z x2) (fun v2 =>
    if v2 = 0 then some (x2, z)
    else bo (fX3_weighs N (sb [1] z) x2) (fun v3 =>
    bo (rdI z 6 16 x2) (fun v4 =>
    if v3 = v4 then lt_ (x2 + (1 : Int32) : Int32) (fun v5 =>
    (fX3_judge_L12 N n) z x1 v5)
    else some (x2, z))))
def fX3_judge (N : Nat) (σ : St)  : Option (Int32 × St) :=
    lt_ (up2 σ 0 9 (0 : Int32)) (fun z1 =>
    fX3_judge_L12 N  N z1 (σ 0 9) (0 : Int32))
abbrev rmX3_judge : Room := { frames := 4, cells := 0, slots := 0, locals := 89 }
theorem qX3_judge : yX3_judge.cls = RX3 ∧ yX3_judge.cls ≠ "java/lang/invoke/MethodHandle" ∧ yX3_judge.cls ≠ "java/lang/invoke/VarHandle" ∧ (parseMethodDescriptor yX3_judge.desc).map (fun d => d.parameters.length) = some 0 := by decide +kernel
set_option maxHeartbeats 400000 in
set_option maxRecDepth 100000 in
theorem mX3_judge (l : Launch) (D : va_G) (cI cJ : ClassId) (a : Nat → Nat) (sz N : Nat) (σ : St)  (r : (Int32 × St)) (hf : fX3_judge N σ = some r) : Met l yX3_judge wsX3_judge rmX3_judge (WPre ([.ref (a 0)] : List Value) sz D (tyIJ cI cJ) (wMo cI a σ)) (WQi sz D (wMo cI a σ) (wMo cI a (r.2)) r.1) 0 0 (va_A (wMo cI a σ) sz) := by
  refine W_start (cc := cX3_judge) (maxL := 3) (ret := (some .int)) (by decide) rfl (Nat.le_of_ble_eq_true rfl) (fun p e s m below meth c ls A hx hb hr hml hown hts hlk hP hK hS hA hD0 hAe hl => ?_)
  have hD : ∀ z, va_D A ((fun z => wMo cI a z) z) := fun z => hD0.ad rfl
  have hown : s.vm.findClass RX3 = some m.cls := hown
  have hl : lv_has ls 3 [(0, .ref (a 0))] := hl
  have ln1 := hts (Cond.fieldLink RX3 199 "HoistsAreSharedModel" "rowMany" "I") (List.mem_of_getElem? (i := 1) rfl)
  have inX3 : ∀ w ∈ u_ws RX3 TX3 13, w ∈ wsX3_judge := fun _ h => List.mem_cons_of_mem _ (List.mem_append_right _ h)
  have ln3 := hts (Cond.fieldLink RX3 9 "HoistsAreSharedModel" "s" "[I") (List.mem_of_getElem? (i := 2) rfl)
  have ln4 := hts (Cond.fieldLink RX3 25 "HoistsAreSharedModel" "row" "[I") (List.mem_of_getElem? (i := 3) rfl)
  have b12 : ∀  (n : Nat) (z : St) (x1 : Int32) (x2 : Int32) (H : Heap) (locs : List Loc) (ls : Array Slot), va_P D vwCl (wMo cI a z) H → va_S A s.heap H locs → lv_has ls 3 [(0, .ref (a 0)), (1, .int x1), (2, .int x2)] → fX3_judge_L12 N n z x1 x2 = some r → W p l e rmX3_judge s m ([.ref (a 0)] : List Value).toArray below meth c H locs 0 0 (MQ below (WQi sz D (wMo cI a σ) (wMo cI a (r.2)) r.1) ([.ref (a 0)] : List Value).toArray s 0 0 A) (F0 m 12 ls []) := by
    intro n
    induction n with
    | zero => intro z x1 x2 H locs ls hP hS hl hf; cases hf
    | succ n ih =>
      intro z x1 x2 H locs ls hP hS hl hf
      rw [fX3_judge_L12] at hf
      refine lv_iload_n hx hb dX3_judge_12 rfl (lv_at hl 2 rfl) ?_
      refine lv_iload_n hx hb dX3_judge_13 rfl (lv_at hl 1 rfl) ?_
      refine k_icmp_ge (tgt := 50) hx hb dX3_judge_14 (by decide) hf (fun hf => ?_) (fun hf => ?_)
      · refine lv_bipush (v := (-9 : Int32)) hx hb dX3_judge_50 (by decide) ?_
        exact W_iret (fun z => wMo cI a z) hx hb hr hlk hP hS hAe hf dX3_judge_52
      · refine lv_aload_n hx hb dX3_judge_17 rfl (lv_at hl 0 rfl) ?_
        refine lv_iload_n hx hb dX3_judge_18 rfl (lv_at hl 2 rfl) ?_
        refine c_callV (As := [.int x2]) (rest := []) ⟨hx, hb, hml, hown, hts⟩ hf (fun vq hq => mX3_isThing l D cI cJ a H.size N z x2 vq hq) (cwV 1 hts gX3_judge_X3_isThing rfl rfl rfl qX3_isThing ⟨Nat.le_of_ble_eq_true rfl, Nat.le_of_ble_eq_true rfl⟩) hK hP hS hA hP 3 rfl rfl rfl rfl hl.1 rfl (Nat.le_of_ble_eq_true rfl) dX3_judge_19 ⟨Nat.le_refl _, Nat.le_refl _⟩ (fun v2 H locs hP hS hf => ?_)
        refine k_if_eq (tgt := 42) hx hb dX3_judge_22 (by decide) hf (fun hf => ?_) (fun hf => ?_)
        · refine lv_iload_n hx hb dX3_judge_42 rfl (lv_at hl 2 rfl) ?_
          exact W_iret (fun z => wMo cI a z) hx hb hr hlk hP hS hAe hf dX3_judge_43
        · refine lv_aload_n hx hb dX3_judge_25 rfl (lv_at hl 0 rfl) ?_
          refine va_get (D := D) (ci := 3) (v := .ref (a 1)) (C := RX3) (T := TX3) (N := 13) hx hb hts inX3 hown hK hP 0 rfl rfl 0 (by decide) ln3 (fun _ h9 => h9) rfl dX3_judge_26 ?_
          refine lv_iload_n hx hb dX3_judge_29 rfl (lv_at hl 2 rfl) ?_
          refine c_callS (As := [.ref ((sb [1] a) 0), .int x2]) (rest := []) ⟨hx, hb, hml, hown, hts⟩ hf (fun vq hq => mX3_weighs l D cI cJ (sb [1] a) H.size N (sb [1] z) x2 vq hq) (va_cwS 2 hts gX3_judge_X3_weighs rfl rfl rfl qX3_weighs ⟨Nat.le_of_ble_eq_true rfl, Nat.le_of_ble_eq_true rfl⟩) hK hP hS hA (cmr_Mo_Ar_1 D cI a z hP) rfl hl.1 rfl (Nat.le_of_ble_eq_true rfl) dX3_judge_30 ⟨Nat.le_refl _, Nat.le_refl _⟩ (fun v3 H locs hP hS hf => ?_)
          refine lv_aload_n hx hb dX3_judge_33 rfl (lv_at hl 0 rfl) ?_
          refine va_get (D := D) (ci := 3) (v := .ref (a 6)) (C := RX3) (T := TX3) (N := 13) hx hb hts inX3 hown hK hP 0 rfl rfl 6 (by decide) ln4 (fun _ h9 => h9) rfl dX3_judge_34 ?_
          refine lv_iload_n hx hb dX3_judge_37 rfl (lv_at hl 2 rfl) ?_
          refine k_iald hx hb hK hP 6 0 hf rfl rfl dX3_judge_38 (fun v4 hf => ?_)
          refine k_icmp_eq (tgt := 44) hx hb dX3_judge_39 (by decide) hf (fun hf => ?_) (fun hf => ?_)
          · refine k_iinc (d := (1 : Int32)) (lv' := fun v5 => [(2, .int v5), (0, .ref (a 0)), (1, .int x1)]) hx hb dX3_judge_44 hl (k := 2) rfl (by decide) (by decide) (fun _ => rfl) hf (fun v5 ls hl hf => ?_)
            refine lv_goto (tgt := 12) hx hb dX3_judge_47 (by decide) ?_
            exact ih z x1 v5 H locs ls hP hS (lv_sub hl [1, 2, 0] rfl) hf
          · refine lv_iload_n hx hb dX3_judge_42 rfl (lv_at hl 2 rfl) ?_
            exact W_iret (fun z => wMo cI a z) hx hb hr hlk hP hS hAe hf dX3_judge_43
  unfold fX3_judge at hf
  refine lv_aload_n hx hb dX3_judge_0 rfl (lv_at hl 0 rfl) ?_
  refine va_get (D := D) (ci := 3) (v := .int (σ 0 9)) (C := RX3) (T := TX3) (N := 13) hx hb hts inX3 hown hK hP 0 rfl rfl 9 (by decide) ln1 (fun _ h9 => h9) rfl dX3_judge_1 ?_
  refine lv_istore_n (lv' := [(1, .int (σ 0 9)), (0, .ref (a 0))]) hx hb dX3_judge_4 rfl hl (by decide) rfl (fun ls hl => ?_)
  refine lv_aload_n hx hb dX3_judge_5 rfl (lv_at hl 1 rfl) ?_
  refine lv_iconst (v := (0 : Int32)) hx hb dX3_judge_6 (by decide) ?_
  refine k_put (ci := 3) (C := RX3) (T := TX3) (N := 13) (ty := .int) (w := (fun z => wMo cI a z)) hx hb hts inX3 tyX3 tyX3_ok nmX3 hown hK hP hD hS 0 rfl rfl 9 (by decide) ln1 (fun _ h9 => h9) rfl (by decide +kernel) rfl rfl (Nat.le_of_ble_eq_true rfl) (cN := 0) hf rfl dX3_judge_7 (fun z1 H locs hP hS hf => ?_)
  refine lv_iconst (v := (0 : Int32)) hx hb dX3_judge_10 (by decide) ?_
  refine lv_istore_n (lv' := [(2, .int (0 : Int32)), (1, .int (σ 0 9)), (0, .ref (a 0))]) hx hb dX3_judge_11 rfl hl (by decide) rfl (fun ls hl => ?_)
  exact b12  N z1 (σ 0 9) (0 : Int32) H locs ls hP hS (lv_sub hl [2, 1, 0] rfl) hf
def fX3_clear (N : Nat) (σ : St)  : Option (Int32 × St) :=
    lt_ (up2 σ 0 9 (0 : Int32)) (fun z1 =>
    some ((σ 0 9), z1))
abbrev rmX3_clear : Room := { frames := 0, cells := 0, slots := 0, locals := 0 }
theorem qX3_clear : yX3_clear.cls = RX3 ∧ yX3_clear.cls ≠ "java/lang/invoke/MethodHandle" ∧ yX3_clear.cls ≠ "java/lang/invoke/VarHandle" ∧ (parseMethodDescriptor yX3_clear.desc).map (fun d => d.parameters.length) = some 0 := by decide +kernel
set_option maxHeartbeats 400000 in
set_option maxRecDepth 100000 in
theorem mX3_clear (l : Launch) (D : va_G) (cI cJ : ClassId) (a : Nat → Nat) (sz N : Nat) (σ : St)  (r : (Int32 × St)) (hf : fX3_clear N σ = some r) : Met l yX3_clear wsX3_clear rmX3_clear (WPre ([.ref (a 0)] : List Value) sz D (tyIJ cI cJ) (wMo cI a σ)) (WQi sz D (wMo cI a σ) (wMo cI a (r.2)) r.1) 0 0 (va_A (wMo cI a σ) sz) := by
  refine W_start (cc := cX3_clear) (maxL := 2) (ret := (some .int)) (by decide) rfl (Nat.le_of_ble_eq_true rfl) (fun p e s m below meth c ls A hx hb hr hml hown hts hlk hP hK hS hA hD0 hAe hl => ?_)
  have hD : ∀ z, va_D A ((fun z => wMo cI a z) z) := fun z => hD0.ad rfl
  have hown : s.vm.findClass RX3 = some m.cls := hown
  have hl : lv_has ls 2 [(0, .ref (a 0))] := hl
  have ln1 := hts (Cond.fieldLink RX3 199 "HoistsAreSharedModel" "rowMany" "I") (List.mem_of_getElem? (i := 1) rfl)
  have inX3 : ∀ w ∈ u_ws RX3 TX3 13, w ∈ wsX3_clear := fun _ h => List.mem_cons_of_mem _ (List.mem_append_right _ h)
  unfold fX3_clear at hf
  refine lv_aload_n hx hb dX3_clear_0 rfl (lv_at hl 0 rfl) ?_
  refine va_get (D := D) (ci := 3) (v := .int (σ 0 9)) (C := RX3) (T := TX3) (N := 13) hx hb hts inX3 hown hK hP 0 rfl rfl 9 (by decide) ln1 (fun _ h9 => h9) rfl dX3_clear_1 ?_
  refine lv_istore_n (lv' := [(1, .int (σ 0 9)), (0, .ref (a 0))]) hx hb dX3_clear_4 rfl hl (by decide) rfl (fun ls hl => ?_)
  refine lv_aload_n hx hb dX3_clear_5 rfl (lv_at hl 1 rfl) ?_
  refine lv_iconst (v := (0 : Int32)) hx hb dX3_clear_6 (by decide) ?_
  refine k_put (ci := 3) (C := RX3) (T := TX3) (N := 13) (ty := .int) (w := (fun z => wMo cI a z)) hx hb hts inX3 tyX3 tyX3_ok nmX3 hown hK hP hD hS 0 rfl rfl 9 (by decide) ln1 (fun _ h9 => h9) rfl (by decide +kernel) rfl rfl (Nat.le_of_ble_eq_true rfl) (cN := 0) hf rfl dX3_clear_7 (fun z1 H locs hP hS hf => ?_)
  refine lv_iload_n hx hb dX3_clear_10 rfl (lv_at hl 0 rfl) ?_
  exact W_iret (fun z => wMo cI a z) hx hb hr hlk hP hS hAe hf dX3_clear_11
def fX3_drawn (N : Nat) (σ : St) (p1 : Int32) : Option (Int32 × St) :=
    lt_ ((((σ 0 12) * (1664525 : Int32)) + (1013904223 : Int32)) : Int32) (fun v1 =>
    lt_ (up2 σ 0 12 v1) (fun z2 =>
    bo (rmI (((z2 0 12) &&& (2147483647 : Int32)) / (256 : Int32)) p1) (fun v3 =>
    some (v3, z2))))
abbrev rmX3_drawn : Room := { frames := 0, cells := 0, slots := 0, locals := 0 }
theorem qX3_drawn : yX3_drawn.cls = RX3 ∧ yX3_drawn.cls ≠ "java/lang/invoke/MethodHandle" ∧ yX3_drawn.cls ≠ "java/lang/invoke/VarHandle" ∧ (parseMethodDescriptor yX3_drawn.desc).map (fun d => d.parameters.length) = some 1 := by decide +kernel
set_option maxHeartbeats 400000 in
set_option maxRecDepth 100000 in
theorem mX3_drawn (l : Launch) (D : va_G) (cI cJ : ClassId) (a : Nat → Nat) (sz N : Nat) (σ : St) (p1 : Int32) (r : (Int32 × St)) (hf : fX3_drawn N σ p1 = some r) : Met l yX3_drawn wsX3_drawn rmX3_drawn (WPre ([.ref (a 0), .int p1] : List Value) sz D (tyIJ cI cJ) (wMo cI a σ)) (WQi sz D (wMo cI a σ) (wMo cI a (r.2)) r.1) 0 0 (va_A (wMo cI a σ) sz) := by
  refine W_start (cc := cX3_drawn) (maxL := 2) (ret := (some .int)) (by decide) rfl (Nat.le_of_ble_eq_true rfl) (fun p e s m below meth c ls A hx hb hr hml hown hts hlk hP hK hS hA hD0 hAe hl => ?_)
  have hD : ∀ z, va_D A ((fun z => wMo cI a z) z) := fun z => hD0.ad rfl
  have hown : s.vm.findClass RX3 = some m.cls := hown
  have hl : lv_has ls 2 [(0, .ref (a 0)), (1, .int p1)] := hl
  have ln1 := hts (Cond.fieldLink RX3 202 "HoistsAreSharedModel" "seed" "I") (List.mem_of_getElem? (i := 1) rfl)
  have inX3 : ∀ w ∈ u_ws RX3 TX3 13, w ∈ wsX3_drawn := fun _ h => List.mem_cons_of_mem _ (List.mem_append_right _ h)
  have ln3 := hts (Cond.constant RX3 205 (1664525)) (List.mem_of_getElem? (i := 2) rfl)
  have ln4 := hts (Cond.constant RX3 206 (1013904223)) (List.mem_of_getElem? (i := 3) rfl)
  have ln5 := hts (Cond.constant RX3 207 (2147483647)) (List.mem_of_getElem? (i := 4) rfl)
  unfold fX3_drawn at hf
  refine lv_aload_n hx hb dX3_drawn_0 rfl (lv_at hl 0 rfl) ?_
  refine lv_aload_n hx hb dX3_drawn_1 rfl (lv_at hl 0 rfl) ?_
  refine va_get (D := D) (ci := 3) (v := .int (σ 0 12)) (C := RX3) (T := TX3) (N := 13) hx hb hts inX3 hown hK hP 0 rfl rfl 12 (by decide) ln1 (fun _ h9 => h9) rfl dX3_drawn_2 ?_
  refine lv_ldc (v := (1664525 : Int32)) hx hb hown ln3 dX3_drawn_5 ?_
  refine lv_imul hx hb dX3_drawn_7 ?_
  refine lv_ldc (v := (1013904223 : Int32)) hx hb hown ln4 dX3_drawn_8 ?_
  refine lv_iadd hx hb dX3_drawn_10 ?_
  refine k_let hf (fun v1 hf => ?_)
  refine k_put (ci := 3) (C := RX3) (T := TX3) (N := 13) (ty := .int) (w := (fun z => wMo cI a z)) hx hb hts inX3 tyX3 tyX3_ok nmX3 hown hK hP hD hS 0 rfl rfl 12 (by decide) ln1 (fun _ h9 => h9) rfl (by decide +kernel) rfl rfl (Nat.le_of_ble_eq_true rfl) (cN := 0) hf rfl dX3_drawn_11 (fun z2 H locs hP hS hf => ?_)
  refine lv_aload_n hx hb dX3_drawn_14 rfl (lv_at hl 0 rfl) ?_
  refine va_get (D := D) (ci := 3) (v := .int (z2 0 12)) (C := RX3) (T := TX3) (N := 13) hx hb hts inX3 hown hK hP 0 rfl rfl 12 (by decide) ln1 (fun _ h9 => h9) rfl dX3_drawn_15 ?_
  refine lv_ldc (v := (2147483647 : Int32)) hx hb hown ln5 dX3_drawn_18 ?_
  refine lv_iand hx hb dX3_drawn_20 ?_
  refine lv_sipush (v := (256 : Int32)) hx hb dX3_drawn_21 (by decide) ?_
  refine lv_idiv hx hb dX3_drawn_24 (by decide) ?_
  refine lv_iload_n hx hb dX3_drawn_25 rfl (lv_at hl 1 rfl) ?_
  refine k_irem hx hb dX3_drawn_26 hf (fun v3 hf => ?_)
  exact W_iret (fun z => wMo cI a z) hx hb hr hlk hP hS hAe hf dX3_drawn_27
def fX3_lots_L170 (N : Nat) (k52 : St → Int32 → Int32 → Int32 → Int32 → Option (Int32 × St)) (z : St) (x1 : Int32) (x3 : Int32) (x5 : Int32) (y0 : Int32) (y1 : Int32) : Option (Int32 × St) :=
    lt_ ((y1 + y0) : Int32) (fun v8 =>
    lt_ (x5 + (1 : Int32) : Int32) (fun v9 =>
    k52 z x1 x3 v8 v9))
def fX3_lots_L169 (N : Nat) (k52 : St → Int32 → Int32 → Int32 → Int32 → Option (Int32 × St)) (z : St) (x1 : Int32) (x3 : Int32) (x5 : Int32) (y0 : Int32) (y1 : Int32) (y2 : Int32) : Option (Int32 × St) :=
    fX3_lots_L170 N k52 z x1 x3 x5 (y1 + y0) y2
def fX3_lots_L153 (N : Nat) (k52 : St → Int32 → Int32 → Int32 → Int32 → Option (Int32 × St)) (z : St) (x1 : Int32) (x3 : Int32) (x5 : Int32) (y0 : Int32) (y1 : Int32) : Option (Int32 × St) :=
    bo (fX3_isAtDoor N (sb [2] z) (1 : Int32)) (fun v7 =>
    if v7 = 0 then fX3_lots_L169 N k52 z x1 x3 x5 (0 : Int32) y0 y1
    else fX3_lots_L169 N k52 z x1 x3 x5 (1 : Int32) y0 y1)
def fX3_lots_L72 (N : Nat) (k52 : St → Int32 → Int32 → Int32 → Int32 → Option (Int32 × St)) : Nat → St → Int32 → Int32 → Int32 → Int32 → Int32 → Option (Int32 × St)
  | 0, _, _, _, _, _, _ => none
  | n + 1, z, x1, x3, x4, x5, x6 =>
    bo (rdI z 1 38 (0 : Int32)) (fun v4 =>
    if v4 ≤ x6 then by_ (fX3_daysOn N (sb [2] z) (12 : Int32)) (fun uq => pb [2] uq z) (fun z5 =>
    if x3 = 0 then bo (rdI z5 2 38 (2 : Int32)) (fun v10 =>
    if v10 = (10 : Int32) then fX3_lots_L170 N k52 z5 x1 x3 x5 (1 : Int32) x4
    else fX3_lots_L170 N k52 z5 x1 x3 x5 (0 : Int32) x4)
    else bo (fX3_isAtDoor N (sb [2] z5) (0 : Int32)) (fun v6 =>
    if v6 = 0 then fX3_lots_L153 N k52 z5 x1 x3 x5 (0 : Int32) x4
    else fX3_lots_L153 N k52 z5 x1 x3 x5 (1 : Int32) x4))
    else bx (fX3_drawn N z (3 : Int32)) (fun uq => uq) (fun v12 z11 =>
    by_ (fX3_hangsIn N (sb [2] z11) x6 v12) (fun uq => pb [2] uq z11) (fun z13 =>
    lt_ (x6 + (1 : Int32) : Int32) (fun v14 =>
    (fX3_lots_L72 N k52 n) z13 x1 x3 x4 x5 v14))))
def fX3_lots_L52 (N : Nat)  : Nat → St → Int32 → Int32 → Int32 → Int32 → Option (Int32 × St)
  | 0, _, _, _, _, _ => none
  | n + 1, z, x1, x3, x4, x5 =>
    if x1 ≤ x5 then some (x4, z)
    else by_ (fX3_copies N (sb [1, 2] z)) (fun uq => pb [1, 2] uq z) (fun z3 =>
    fX3_lots_L72 N (fX3_lots_L52 N n) N z3 x1 x3 x4 x5 (0 : Int32))
def fX3_lots (N : Nat) (σ : St) (p1 : Int32) (p2 : Int32) (p3 : Int32) : Option (Int32 × St) :=
    if (1 : Int32) ≤ p1 then if p1 ≤ (20 : Int32) then bo (fX3_isIn N p3 (0 : Int32) (1 : Int32)) (fun v1 =>
    if v1 = 0 then bx (fX3_no N σ (-2 : Int32)) (fun uq => uq) (fun v16 z15 =>
    some (v16, z15))
    else lt_ (up2 σ 0 12 p2) (fun z2 =>
    fX3_lots_L52 N  N z2 p1 p3 (0 : Int32) (0 : Int32)))
    else bx (fX3_no N σ (-6 : Int32)) (fun uq => uq) (fun v18 z17 =>
    some (v18, z17))
    else bx (fX3_no N σ (-4 : Int32)) (fun uq => uq) (fun v20 z19 =>
    some (v20, z19))
abbrev rmX3_lots : Room := { frames := 8, cells := 0, slots := 0, locals := 178 }
theorem qX3_lots : yX3_lots.cls = RX3 ∧ yX3_lots.cls ≠ "java/lang/invoke/MethodHandle" ∧ yX3_lots.cls ≠ "java/lang/invoke/VarHandle" ∧ (parseMethodDescriptor yX3_lots.desc).map (fun d => d.parameters.length) = some 3 := by decide +kernel
set_option maxHeartbeats 400000 in
set_option maxRecDepth 100000 in
theorem mX3_lots (l : Launch) (D : va_G) (cI cJ : ClassId) (a : Nat → Nat) (sz N : Nat) (σ : St) (p1 : Int32) (p2 : Int32) (p3 : Int32) (r : (Int32 × St)) (hf : fX3_lots N σ p1 p2 p3 = some r) : Met l yX3_lots wsX3_lots rmX3_lots (WPre ([.ref (a 0), .int p1, .int p2, .int p3] : List Value) sz D (tyIJ cI cJ) (wMo cI a σ)) (WQi sz D (wMo cI a σ) (wMo cI a (r.2)) r.1) 0 0 (va_A (wMo cI a σ) sz) := by
  refine W_start (cc := cX3_lots) (maxL := 7) (ret := (some .int)) (by decide) rfl (Nat.le_of_ble_eq_true rfl) (fun p e s m below meth c ls A hx hb hr hml hown hts hlk hP hK hS hA hD0 hAe hl => ?_)
  have hD : ∀ z, va_D A ((fun z => wMo cI a z) z) := fun z => hD0.ad rfl
  have hown : s.vm.findClass RX3 = some m.cls := hown
  have hl : lv_has ls 7 [(0, .ref (a 0)), (1, .int p1), (2, .int p2), (3, .int p3)] := hl
  have ln1 := hts (Cond.fieldLink RX3 202 "HoistsAreSharedModel" "seed" "I") (List.mem_of_getElem? (i := 1) rfl)
  have inX3 : ∀ w ∈ u_ws RX3 TX3 13, w ∈ wsX3_lots := fun _ h => List.mem_cons_of_mem _ (List.mem_append_right _ h)
  have ln3 := hts (Cond.fieldLink RX3 9 "HoistsAreSharedModel" "s" "[I") (List.mem_of_getElem? (i := 2) rfl)
  have ln4 := hts (Cond.fieldLink RX3 13 "HoistsAreSharedModel" "m" "[I") (List.mem_of_getElem? (i := 3) rfl)
  have b170 : ∀ (k52 : St → Int32 → Int32 → Int32 → Int32 → Option (Int32 × St)) (hk52 : (∀ (z : St) (x1 : Int32) (x3 : Int32) (x4 : Int32) (x5 : Int32) (H : Heap) (locs : List Loc) (ls : Array Slot), va_P D vwCl (wMo cI a z) H → va_S A s.heap H locs → lv_has ls 7 [(0, .ref (a 0)), (1, .int x1), (3, .int x3), (4, .int x4), (5, .int x5)] → k52 z x1 x3 x4 x5 = some r → W p l e rmX3_lots s m ([.ref (a 0), .int p1, .int p2, .int p3] : List Value).toArray below meth c H locs 0 0 (MQ below (WQi sz D (wMo cI a σ) (wMo cI a (r.2)) r.1) ([.ref (a 0), .int p1, .int p2, .int p3] : List Value).toArray s 0 0 A) (F0 m 52 ls []))) (z : St) (x1 : Int32) (x3 : Int32) (x5 : Int32) (y0 : Int32) (y1 : Int32) (H : Heap) (locs : List Loc) (ls : Array Slot), va_P D vwCl (wMo cI a z) H → va_S A s.heap H locs → lv_has ls 7 [(0, .ref (a 0)), (1, .int x1), (3, .int x3), (5, .int x5)] → fX3_lots_L170 N k52 z x1 x3 x5 y0 y1 = some r → W p l e rmX3_lots s m ([.ref (a 0), .int p1, .int p2, .int p3] : List Value).toArray below meth c H locs 0 0 (MQ below (WQi sz D (wMo cI a σ) (wMo cI a (r.2)) r.1) ([.ref (a 0), .int p1, .int p2, .int p3] : List Value).toArray s 0 0 A) (F0 m 170 ls [.int y0, .int y1]) := by
    intro k52 hk52 z x1 x3 x5 y0 y1 H locs ls hP hS hl hf
    unfold fX3_lots_L170 at hf
    refine lv_iadd hx hb dX3_lots_170 ?_
    refine k_let hf (fun v8 hf => ?_)
    refine lv_istore (lv' := [(4, .int v8), (0, .ref (a 0)), (1, .int x1), (3, .int x3), (5, .int x5)]) hx hb dX3_lots_171 hl (by decide) rfl (fun ls hl => ?_)
    refine k_iinc (d := (1 : Int32)) (lv' := fun v9 => [(5, .int v9), (4, .int v8), (0, .ref (a 0)), (1, .int x1), (3, .int x3)]) hx hb dX3_lots_173 hl (k := 4) rfl (by decide) (by decide) (fun _ => rfl) hf (fun v9 ls hl hf => ?_)
    refine lv_goto (tgt := 52) hx hb dX3_lots_176 (by decide) ?_
    exact hk52 z x1 x3 v8 v9 H locs ls hP hS (lv_sub hl [2, 3, 4, 1, 0] rfl) hf
  have b169 : ∀ (k52 : St → Int32 → Int32 → Int32 → Int32 → Option (Int32 × St)) (hk52 : (∀ (z : St) (x1 : Int32) (x3 : Int32) (x4 : Int32) (x5 : Int32) (H : Heap) (locs : List Loc) (ls : Array Slot), va_P D vwCl (wMo cI a z) H → va_S A s.heap H locs → lv_has ls 7 [(0, .ref (a 0)), (1, .int x1), (3, .int x3), (4, .int x4), (5, .int x5)] → k52 z x1 x3 x4 x5 = some r → W p l e rmX3_lots s m ([.ref (a 0), .int p1, .int p2, .int p3] : List Value).toArray below meth c H locs 0 0 (MQ below (WQi sz D (wMo cI a σ) (wMo cI a (r.2)) r.1) ([.ref (a 0), .int p1, .int p2, .int p3] : List Value).toArray s 0 0 A) (F0 m 52 ls []))) (z : St) (x1 : Int32) (x3 : Int32) (x5 : Int32) (y0 : Int32) (y1 : Int32) (y2 : Int32) (H : Heap) (locs : List Loc) (ls : Array Slot), va_P D vwCl (wMo cI a z) H → va_S A s.heap H locs → lv_has ls 7 [(0, .ref (a 0)), (1, .int x1), (3, .int x3), (5, .int x5)] → fX3_lots_L169 N k52 z x1 x3 x5 y0 y1 y2 = some r → W p l e rmX3_lots s m ([.ref (a 0), .int p1, .int p2, .int p3] : List Value).toArray below meth c H locs 0 0 (MQ below (WQi sz D (wMo cI a σ) (wMo cI a (r.2)) r.1) ([.ref (a 0), .int p1, .int p2, .int p3] : List Value).toArray s 0 0 A) (F0 m 169 ls [.int y0, .int y1, .int y2]) := by
    intro k52 hk52 z x1 x3 x5 y0 y1 y2 H locs ls hP hS hl hf
    unfold fX3_lots_L169 at hf
    refine lv_iadd hx hb dX3_lots_169 ?_
    exact b170 k52 hk52 z x1 x3 x5 (y1 + y0) y2 H locs ls hP hS (lv_sub hl [0, 1, 2, 3] rfl) hf
  have b153 : ∀ (k52 : St → Int32 → Int32 → Int32 → Int32 → Option (Int32 × St)) (hk52 : (∀ (z : St) (x1 : Int32) (x3 : Int32) (x4 : Int32) (x5 : Int32) (H : Heap) (locs : List Loc) (ls : Array Slot), va_P D vwCl (wMo cI a z) H → va_S A s.heap H locs → lv_has ls 7 [(0, .ref (a 0)), (1, .int x1), (3, .int x3), (4, .int x4), (5, .int x5)] → k52 z x1 x3 x4 x5 = some r → W p l e rmX3_lots s m ([.ref (a 0), .int p1, .int p2, .int p3] : List Value).toArray below meth c H locs 0 0 (MQ below (WQi sz D (wMo cI a σ) (wMo cI a (r.2)) r.1) ([.ref (a 0), .int p1, .int p2, .int p3] : List Value).toArray s 0 0 A) (F0 m 52 ls []))) (z : St) (x1 : Int32) (x3 : Int32) (x5 : Int32) (y0 : Int32) (y1 : Int32) (H : Heap) (locs : List Loc) (ls : Array Slot), va_P D vwCl (wMo cI a z) H → va_S A s.heap H locs → lv_has ls 7 [(0, .ref (a 0)), (1, .int x1), (3, .int x3), (5, .int x5)] → fX3_lots_L153 N k52 z x1 x3 x5 y0 y1 = some r → W p l e rmX3_lots s m ([.ref (a 0), .int p1, .int p2, .int p3] : List Value).toArray below meth c H locs 0 0 (MQ below (WQi sz D (wMo cI a σ) (wMo cI a (r.2)) r.1) ([.ref (a 0), .int p1, .int p2, .int p3] : List Value).toArray s 0 0 A) (F0 m 153 ls [.int y0, .int y1]) := by
    intro k52 hk52 z x1 x3 x5 y0 y1 H locs ls hP hS hl hf
    unfold fX3_lots_L153 at hf
    refine lv_aload_n hx hb dX3_lots_153 rfl (lv_at hl 0 rfl) ?_
    refine va_get (D := D) (ci := 3) (v := .ref (a 2)) (C := RX3) (T := TX3) (N := 13) hx hb hts inX3 hown hK hP 0 rfl rfl 1 (by decide) ln4 (fun _ h9 => h9) rfl dX3_lots_154 ?_
    refine lv_iconst (v := (1 : Int32)) hx hb dX3_lots_157 (by decide) ?_
    refine c_callS (As := [.ref ((sb [2] a) 0), .int (1 : Int32)]) (rest := [.int y0, .int y1]) ⟨hx, hb, hml, hown, hts⟩ hf (fun vq hq => mX3_isAtDoor l D cI cJ (sb [2] a) H.size N (sb [2] z) (1 : Int32) vq hq) (va_cwS 2 hts gX3_lots_X3_isAtDoor rfl rfl rfl qX3_isAtDoor ⟨Nat.le_of_ble_eq_true rfl, Nat.le_of_ble_eq_true rfl⟩) hK hP hS hA (cmr_Mo_Ar_2 D cI a z hP) rfl hl.1 rfl (Nat.le_of_ble_eq_true rfl) dX3_lots_158 ⟨Nat.le_refl _, Nat.le_refl _⟩ (fun v7 H locs hP hS hf => ?_)
    refine k_if_eq (tgt := 168) hx hb dX3_lots_161 (by decide) hf (fun hf => ?_) (fun hf => ?_)
    · refine lv_iconst (v := (0 : Int32)) hx hb dX3_lots_168 (by decide) ?_
      exact b169 k52 hk52 z x1 x3 x5 (0 : Int32) y0 y1 H locs ls hP hS (lv_sub hl [0, 1, 2, 3] rfl) hf
    · refine lv_iconst (v := (1 : Int32)) hx hb dX3_lots_164 (by decide) ?_
      refine lv_goto (tgt := 169) hx hb dX3_lots_165 (by decide) ?_
      exact b169 k52 hk52 z x1 x3 x5 (1 : Int32) y0 y1 H locs ls hP hS (lv_sub hl [0, 1, 2, 3] rfl) hf
  have b72 : ∀ (k52 : St → Int32 → Int32 → Int32 → Int32 → Option (Int32 × St)) (hk52 : (∀ (z : St) (x1 : Int32) (x3 : Int32) (x4 : Int32) (x5 : Int32) (H : Heap) (locs : List Loc) (ls : Array Slot), va_P D vwCl (wMo cI a z) H → va_S A s.heap H locs → lv_has ls 7 [(0, .ref (a 0)), (1, .int x1), (3, .int x3), (4, .int x4), (5, .int x5)] → k52 z x1 x3 x4 x5 = some r → W p l e rmX3_lots s m ([.ref (a 0), .int p1, .int p2, .int p3] : List Value).toArray below meth c H locs 0 0 (MQ below (WQi sz D (wMo cI a σ) (wMo cI a (r.2)) r.1) ([.ref (a 0), .int p1, .int p2, .int p3] : List Value).toArray s 0 0 A) (F0 m 52 ls []))) (n : Nat) (z : St) (x1 : Int32) (x3 : Int32) (x4 : Int32) (x5 : Int32) (x6 : Int32) (H : Heap) (locs : List Loc) (ls : Array Slot), va_P D vwCl (wMo cI a z) H → va_S A s.heap H locs → lv_has ls 7 [(0, .ref (a 0)), (1, .int x1), (3, .int x3), (4, .int x4), (5, .int x5), (6, .int x6)] → fX3_lots_L72 N k52 n z x1 x3 x4 x5 x6 = some r → W p l e rmX3_lots s m ([.ref (a 0), .int p1, .int p2, .int p3] : List Value).toArray below meth c H locs 0 0 (MQ below (WQi sz D (wMo cI a σ) (wMo cI a (r.2)) r.1) ([.ref (a 0), .int p1, .int p2, .int p3] : List Value).toArray s 0 0 A) (F0 m 72 ls []) := by
    intro k52 hk52 n
    induction n with
    | zero => intro z x1 x3 x4 x5 x6 H locs ls hP hS hl hf; cases hf
    | succ n ih =>
      intro z x1 x3 x4 x5 x6 H locs ls hP hS hl hf
      rw [fX3_lots_L72] at hf
      refine lv_iload hx hb dX3_lots_72 (lv_at hl 5 rfl) ?_
      refine lv_aload_n hx hb dX3_lots_74 rfl (lv_at hl 0 rfl) ?_
      refine va_get (D := D) (ci := 3) (v := .ref (a 1)) (C := RX3) (T := TX3) (N := 13) hx hb hts inX3 hown hK hP 0 rfl rfl 0 (by decide) ln3 (fun _ h9 => h9) rfl dX3_lots_75 ?_
      refine lv_iconst (v := (0 : Int32)) hx hb dX3_lots_78 (by decide) ?_
      refine k_iald hx hb hK hP 1 0 hf rfl rfl dX3_lots_79 (fun v4 hf => ?_)
      refine k_icmp_ge (tgt := 103) hx hb dX3_lots_80 (by decide) hf (fun hf => ?_) (fun hf => ?_)
      · refine lv_aload_n hx hb dX3_lots_103 rfl (lv_at hl 0 rfl) ?_
        refine va_get (D := D) (ci := 3) (v := .ref (a 2)) (C := RX3) (T := TX3) (N := 13) hx hb hts inX3 hown hK hP 0 rfl rfl 1 (by decide) ln4 (fun _ h9 => h9) rfl dX3_lots_104 ?_
        refine lv_bipush (v := (12 : Int32)) hx hb dX3_lots_107 (by decide) ?_
        refine d_callSv (As := [.ref ((sb [2] a) 0), .int (12 : Int32)]) (rest := []) (w := (fun z => wMo cI a z)) (wc := (wAr cI (sb [2] a))) (put := (fun uq => pb [2] uq z)) (σ := z) (τ0 := (sb [2] z)) ⟨hx, hb, hml, hown, hts⟩ hf (fun zq hq => mX3_daysOn l D cI cJ (sb [2] a) H.size N (sb [2] z) (12 : Int32) zq hq) (va_cwS 2 hts gX3_lots_X3_daysOn rfl rfl rfl qX3_daysOn ⟨Nat.le_of_ble_eq_true rfl, Nat.le_of_ble_eq_true rfl⟩) hK hP hD hS hA (cmb_Mo_Ar_2 D cI a z hP (hD _)) rfl hl.1 rfl (Nat.le_of_ble_eq_true rfl) dX3_lots_109 ⟨Nat.le_refl _, Nat.le_refl _⟩ (fun z5 H locs hP hS hf => ?_)
        refine lv_iload hx hb dX3_lots_112 (lv_at hl 3 rfl) ?_
        refine lv_iload_n hx hb dX3_lots_114 rfl (lv_at hl 2 rfl) ?_
        refine k_if_ne (tgt := 137) hx hb dX3_lots_115 (by decide) hf (fun hf => ?_) (fun hf => ?_)
        · refine lv_aload_n hx hb dX3_lots_137 rfl (lv_at hl 0 rfl) ?_
          refine va_get (D := D) (ci := 3) (v := .ref (a 2)) (C := RX3) (T := TX3) (N := 13) hx hb hts inX3 hown hK hP 0 rfl rfl 1 (by decide) ln4 (fun _ h9 => h9) rfl dX3_lots_138 ?_
          refine lv_iconst (v := (0 : Int32)) hx hb dX3_lots_141 (by decide) ?_
          refine c_callS (As := [.ref ((sb [2] a) 0), .int (0 : Int32)]) (rest := [.int x4]) ⟨hx, hb, hml, hown, hts⟩ hf (fun vq hq => mX3_isAtDoor l D cI cJ (sb [2] a) H.size N (sb [2] z5) (0 : Int32) vq hq) (va_cwS 2 hts gX3_lots_X3_isAtDoor rfl rfl rfl qX3_isAtDoor ⟨Nat.le_of_ble_eq_true rfl, Nat.le_of_ble_eq_true rfl⟩) hK hP hS hA (cmr_Mo_Ar_2 D cI a z5 hP) rfl hl.1 rfl (Nat.le_of_ble_eq_true rfl) dX3_lots_142 ⟨Nat.le_refl _, Nat.le_refl _⟩ (fun v6 H locs hP hS hf => ?_)
          refine k_if_eq (tgt := 152) hx hb dX3_lots_145 (by decide) hf (fun hf => ?_) (fun hf => ?_)
          · refine lv_iconst (v := (0 : Int32)) hx hb dX3_lots_152 (by decide) ?_
            exact b153 k52 hk52 z5 x1 x3 x5 (0 : Int32) x4 H locs ls hP hS (lv_sub hl [0, 1, 2, 4] rfl) hf
          · refine lv_iconst (v := (1 : Int32)) hx hb dX3_lots_148 (by decide) ?_
            refine lv_goto (tgt := 153) hx hb dX3_lots_149 (by decide) ?_
            exact b153 k52 hk52 z5 x1 x3 x5 (1 : Int32) x4 H locs ls hP hS (lv_sub hl [0, 1, 2, 4] rfl) hf
        · refine lv_aload_n hx hb dX3_lots_118 rfl (lv_at hl 0 rfl) ?_
          refine va_get (D := D) (ci := 3) (v := .ref (a 2)) (C := RX3) (T := TX3) (N := 13) hx hb hts inX3 hown hK hP 0 rfl rfl 1 (by decide) ln4 (fun _ h9 => h9) rfl dX3_lots_119 ?_
          refine lv_iconst (v := (2 : Int32)) hx hb dX3_lots_122 (by decide) ?_
          refine k_iald hx hb hK hP 2 0 hf rfl rfl dX3_lots_123 (fun v10 hf => ?_)
          refine lv_bipush (v := (10 : Int32)) hx hb dX3_lots_124 (by decide) ?_
          refine k_icmp_ne (tgt := 133) hx hb dX3_lots_126 (by decide) hf (fun hf => ?_) (fun hf => ?_)
          · refine lv_iconst (v := (0 : Int32)) hx hb dX3_lots_133 (by decide) ?_
            refine lv_goto (tgt := 170) hx hb dX3_lots_134 (by decide) ?_
            exact b170 k52 hk52 z5 x1 x3 x5 (0 : Int32) x4 H locs ls hP hS (lv_sub hl [0, 1, 2, 4] rfl) hf
          · refine lv_iconst (v := (1 : Int32)) hx hb dX3_lots_129 (by decide) ?_
            refine lv_goto (tgt := 170) hx hb dX3_lots_130 (by decide) ?_
            exact b170 k52 hk52 z5 x1 x3 x5 (1 : Int32) x4 H locs ls hP hS (lv_sub hl [0, 1, 2, 4] rfl) hf
      · refine lv_aload_n hx hb dX3_lots_83 rfl (lv_at hl 0 rfl) ?_
        refine va_get (D := D) (ci := 3) (v := .ref (a 2)) (C := RX3) (T := TX3) (N := 13) hx hb hts inX3 hown hK hP 0 rfl rfl 1 (by decide) ln4 (fun _ h9 => h9) rfl dX3_lots_84 ?_
        refine lv_iload hx hb dX3_lots_87 (lv_at hl 5 rfl) ?_
        refine lv_aload_n hx hb dX3_lots_89 rfl (lv_at hl 0 rfl) ?_
        refine lv_iconst (v := (3 : Int32)) hx hb dX3_lots_90 (by decide) ?_
        refine d_callV (As := [.int (3 : Int32)]) (rest := [.int x6, .ref (a 2)]) (w := (fun z => wMo cI a z)) (wc := (wMo cI a)) (put := (fun uq => uq)) (σ := z) (τ0 := z) ⟨hx, hb, hml, hown, hts⟩ hf (fun vq zq hq => mX3_drawn l D cI cJ a H.size N z (3 : Int32) (vq, zq) hq) (cwV 1 hts gX3_lots_X3_drawn rfl rfl rfl qX3_drawn ⟨Nat.le_of_ble_eq_true rfl, Nat.le_of_ble_eq_true rfl⟩) hK hP hD hS hA ⟨hP, hD _, fun _ _ _ h => h⟩ 3 rfl rfl rfl rfl hl.1 rfl (Nat.le_of_ble_eq_true rfl) dX3_lots_91 ⟨Nat.le_refl _, Nat.le_refl _⟩ (fun v12 z11 H locs hP hS hf => ?_)
        refine d_callSv (As := [.ref ((sb [2] a) 0), .int x6, .int v12]) (rest := []) (w := (fun z => wMo cI a z)) (wc := (wAr cI (sb [2] a))) (put := (fun uq => pb [2] uq z11)) (σ := z11) (τ0 := (sb [2] z11)) ⟨hx, hb, hml, hown, hts⟩ hf (fun zq hq => mX3_hangsIn l D cI cJ (sb [2] a) H.size N (sb [2] z11) x6 v12 zq hq) (va_cwS 3 hts gX3_lots_X3_hangsIn rfl rfl rfl qX3_hangsIn ⟨Nat.le_of_ble_eq_true rfl, Nat.le_of_ble_eq_true rfl⟩) hK hP hD hS hA (cmb_Mo_Ar_2 D cI a z11 hP (hD _)) rfl hl.1 rfl (Nat.le_of_ble_eq_true rfl) dX3_lots_94 ⟨Nat.le_refl _, Nat.le_refl _⟩ (fun z13 H locs hP hS hf => ?_)
        refine k_iinc (d := (1 : Int32)) (lv' := fun v14 => [(6, .int v14), (0, .ref (a 0)), (1, .int x1), (3, .int x3), (4, .int x4), (5, .int x5)]) hx hb dX3_lots_97 hl (k := 5) rfl (by decide) (by decide) (fun _ => rfl) hf (fun v14 ls hl hf => ?_)
        refine lv_goto (tgt := 72) hx hb dX3_lots_100 (by decide) ?_
        exact ih z13 x1 x3 x4 x5 v14 H locs ls hP hS (lv_sub hl [1, 2, 3, 4, 5, 0] rfl) hf
  have b52 : ∀  (n : Nat) (z : St) (x1 : Int32) (x3 : Int32) (x4 : Int32) (x5 : Int32) (H : Heap) (locs : List Loc) (ls : Array Slot), va_P D vwCl (wMo cI a z) H → va_S A s.heap H locs → lv_has ls 7 [(0, .ref (a 0)), (1, .int x1), (3, .int x3), (4, .int x4), (5, .int x5)] → fX3_lots_L52 N n z x1 x3 x4 x5 = some r → W p l e rmX3_lots s m ([.ref (a 0), .int p1, .int p2, .int p3] : List Value).toArray below meth c H locs 0 0 (MQ below (WQi sz D (wMo cI a σ) (wMo cI a (r.2)) r.1) ([.ref (a 0), .int p1, .int p2, .int p3] : List Value).toArray s 0 0 A) (F0 m 52 ls []) := by
    intro n
    induction n with
    | zero => intro z x1 x3 x4 x5 H locs ls hP hS hl hf; cases hf
    | succ n ih =>
      intro z x1 x3 x4 x5 H locs ls hP hS hl hf
      rw [fX3_lots_L52] at hf
      refine lv_iload hx hb dX3_lots_52 (lv_at hl 4 rfl) ?_
      refine lv_iload_n hx hb dX3_lots_54 rfl (lv_at hl 1 rfl) ?_
      refine k_icmp_ge (tgt := 179) hx hb dX3_lots_55 (by decide) hf (fun hf => ?_) (fun hf => ?_)
      · refine lv_iload hx hb dX3_lots_179 (lv_at hl 3 rfl) ?_
        exact W_iret (fun z => wMo cI a z) hx hb hr hlk hP hS hAe hf dX3_lots_181
      · refine lv_aload_n hx hb dX3_lots_58 rfl (lv_at hl 0 rfl) ?_
        refine va_get (D := D) (ci := 3) (v := .ref (a 1)) (C := RX3) (T := TX3) (N := 13) hx hb hts inX3 hown hK hP 0 rfl rfl 0 (by decide) ln3 (fun _ h9 => h9) rfl dX3_lots_59 ?_
        refine lv_aload_n hx hb dX3_lots_62 rfl (lv_at hl 0 rfl) ?_
        refine va_get (D := D) (ci := 3) (v := .ref (a 2)) (C := RX3) (T := TX3) (N := 13) hx hb hts inX3 hown hK hP 0 rfl rfl 1 (by decide) ln4 (fun _ h9 => h9) rfl dX3_lots_63 ?_
        refine d_callSv (As := [.ref ((sb [1, 2] a) 0), .ref ((sb [1, 2] a) 1)]) (rest := []) (w := (fun z => wMo cI a z)) (wc := (wAr2 cI (sb [1, 2] a))) (put := (fun uq => pb [1, 2] uq z)) (σ := z) (τ0 := (sb [1, 2] z)) ⟨hx, hb, hml, hown, hts⟩ hf (fun zq hq => mX3_copies l D cI cJ (sb [1, 2] a) H.size N (sb [1, 2] z) zq hq) (va_cwS 2 hts gX3_lots_X3_copies rfl rfl rfl qX3_copies ⟨Nat.le_of_ble_eq_true rfl, Nat.le_of_ble_eq_true rfl⟩) hK hP hD hS hA (cmb_Mo_Ar2_1_2 D cI a z hP (hD _)) rfl hl.1 rfl (Nat.le_of_ble_eq_true rfl) dX3_lots_66 ⟨Nat.le_refl _, Nat.le_refl _⟩ (fun z3 H locs hP hS hf => ?_)
        refine lv_iconst (v := (0 : Int32)) hx hb dX3_lots_69 (by decide) ?_
        refine lv_istore (lv' := [(6, .int (0 : Int32)), (0, .ref (a 0)), (1, .int x1), (3, .int x3), (4, .int x4), (5, .int x5)]) hx hb dX3_lots_70 hl (by decide) rfl (fun ls hl => ?_)
        exact b72 (fX3_lots_L52 N n) ih N z3 x1 x3 x4 x5 (0 : Int32) H locs ls hP hS (lv_sub hl [1, 2, 3, 4, 5, 0] rfl) hf
  unfold fX3_lots at hf
  refine lv_iload_n hx hb dX3_lots_0 rfl (lv_at hl 1 rfl) ?_
  refine lv_iconst (v := (1 : Int32)) hx hb dX3_lots_1 (by decide) ?_
  refine k_icmp_ge (tgt := 12) hx hb dX3_lots_2 (by decide) hf (fun hf => ?_) (fun hf => ?_)
  · refine lv_iload_n hx hb dX3_lots_12 rfl (lv_at hl 1 rfl) ?_
    refine lv_bipush (v := (20 : Int32)) hx hb dX3_lots_13 (by decide) ?_
    refine k_icmp_le (tgt := 25) hx hb dX3_lots_15 (by decide) hf (fun hf => ?_) (fun hf => ?_)
    · refine lv_iload_n hx hb dX3_lots_25 rfl (lv_at hl 3 rfl) ?_
      refine lv_iconst (v := (0 : Int32)) hx hb dX3_lots_26 (by decide) ?_
      refine lv_iconst (v := (1 : Int32)) hx hb dX3_lots_27 (by decide) ?_
      refine c_callS (As := [.int p3, .int (0 : Int32), .int (1 : Int32)]) (rest := []) ⟨hx, hb, hml, hown, hts⟩ hf (fun vq hq => mX3_isIn l D cI cJ s.heap.size N p3 (0 : Int32) (1 : Int32) vq hq) (va_cwS 3 hts gX3_lots_X3_isIn rfl rfl rfl qX3_isIn ⟨Nat.le_of_ble_eq_true rfl, Nat.le_of_ble_eq_true rfl⟩) hK hP hS hA va_P_nil rfl hl.1 rfl (Nat.le_of_ble_eq_true rfl) dX3_lots_28 ⟨Nat.le_refl _, Nat.le_refl _⟩ (fun v1 H locs hP hS hf => ?_)
      refine k_if_ne (tgt := 41) hx hb dX3_lots_31 (by decide) hf (fun hf => ?_) (fun hf => ?_)
      · refine lv_aload_n hx hb dX3_lots_41 rfl (lv_at hl 0 rfl) ?_
        refine lv_iload_n hx hb dX3_lots_42 rfl (lv_at hl 2 rfl) ?_
        refine k_put (ci := 3) (C := RX3) (T := TX3) (N := 13) (ty := .int) (w := (fun z => wMo cI a z)) hx hb hts inX3 tyX3 tyX3_ok nmX3 hown hK hP hD hS 0 rfl rfl 12 (by decide) ln1 (fun _ h9 => h9) rfl (by decide +kernel) rfl rfl (Nat.le_of_ble_eq_true rfl) (cN := 0) hf rfl dX3_lots_43 (fun z2 H locs hP hS hf => ?_)
        refine lv_iconst (v := (0 : Int32)) hx hb dX3_lots_46 (by decide) ?_
        refine lv_istore (lv' := [(4, .int (0 : Int32)), (0, .ref (a 0)), (1, .int p1), (2, .int p2), (3, .int p3)]) hx hb dX3_lots_47 hl (by decide) rfl (fun ls hl => ?_)
        refine lv_iconst (v := (0 : Int32)) hx hb dX3_lots_49 (by decide) ?_
        refine lv_istore (lv' := [(5, .int (0 : Int32)), (4, .int (0 : Int32)), (0, .ref (a 0)), (1, .int p1), (2, .int p2), (3, .int p3)]) hx hb dX3_lots_50 hl (by decide) rfl (fun ls hl => ?_)
        exact b52  N z2 p1 p3 (0 : Int32) (0 : Int32) H locs ls hP hS (lv_sub hl [2, 3, 5, 1, 0] rfl) hf
      · refine lv_aload_n hx hb dX3_lots_34 rfl (lv_at hl 0 rfl) ?_
        refine lv_bipush (v := (-2 : Int32)) hx hb dX3_lots_35 (by decide) ?_
        refine d_callV (As := [.int (-2 : Int32)]) (rest := []) (w := (fun z => wMo cI a z)) (wc := (wMo cI a)) (put := (fun uq => uq)) (σ := σ) (τ0 := σ) ⟨hx, hb, hml, hown, hts⟩ hf (fun vq zq hq => mX3_no l D cI cJ a H.size N σ (-2 : Int32) (vq, zq) hq) (cwV 1 hts gX3_lots_X3_no rfl rfl rfl qX3_no ⟨Nat.le_of_ble_eq_true rfl, Nat.le_of_ble_eq_true rfl⟩) hK hP hD hS hA ⟨hP, hD _, fun _ _ _ h => h⟩ 3 rfl rfl rfl rfl hl.1 rfl (Nat.le_of_ble_eq_true rfl) dX3_lots_37 ⟨Nat.le_refl _, Nat.le_refl _⟩ (fun v16 z15 H locs hP hS hf => ?_)
        exact W_iret (fun z => wMo cI a z) hx hb hr hlk hP hS hAe hf dX3_lots_40
    · refine lv_aload_n hx hb dX3_lots_18 rfl (lv_at hl 0 rfl) ?_
      refine lv_bipush (v := (-6 : Int32)) hx hb dX3_lots_19 (by decide) ?_
      refine d_callV (As := [.int (-6 : Int32)]) (rest := []) (w := (fun z => wMo cI a z)) (wc := (wMo cI a)) (put := (fun uq => uq)) (σ := σ) (τ0 := σ) ⟨hx, hb, hml, hown, hts⟩ hf (fun vq zq hq => mX3_no l D cI cJ a s.heap.size N σ (-6 : Int32) (vq, zq) hq) (cwV 1 hts gX3_lots_X3_no rfl rfl rfl qX3_no ⟨Nat.le_of_ble_eq_true rfl, Nat.le_of_ble_eq_true rfl⟩) hK hP hD hS hA ⟨hP, hD _, fun _ _ _ h => h⟩ 3 rfl rfl rfl rfl hl.1 rfl (Nat.le_of_ble_eq_true rfl) dX3_lots_21 ⟨Nat.le_refl _, Nat.le_refl _⟩ (fun v18 z17 H locs hP hS hf => ?_)
      exact W_iret (fun z => wMo cI a z) hx hb hr hlk hP hS hAe hf dX3_lots_24
  · refine lv_aload_n hx hb dX3_lots_5 rfl (lv_at hl 0 rfl) ?_
    refine lv_bipush (v := (-4 : Int32)) hx hb dX3_lots_6 (by decide) ?_
    refine d_callV (As := [.int (-4 : Int32)]) (rest := []) (w := (fun z => wMo cI a z)) (wc := (wMo cI a)) (put := (fun uq => uq)) (σ := σ) (τ0 := σ) ⟨hx, hb, hml, hown, hts⟩ hf (fun vq zq hq => mX3_no l D cI cJ a s.heap.size N σ (-4 : Int32) (vq, zq) hq) (cwV 1 hts gX3_lots_X3_no rfl rfl rfl qX3_no ⟨Nat.le_of_ble_eq_true rfl, Nat.le_of_ble_eq_true rfl⟩) hK hP hD hS hA ⟨hP, hD _, fun _ _ _ h => h⟩ 3 rfl rfl rfl rfl hl.1 rfl (Nat.le_of_ble_eq_true rfl) dX3_lots_8 ⟨Nat.le_refl _, Nat.le_refl _⟩ (fun v20 z19 H locs hP hS hf => ?_)
    exact W_iret (fun z => wMo cI a z) hx hb hr hlk hP hS hAe hf dX3_lots_11
def fX3_image (N : Nat) (σ : St)  : Option (Int32 × St) :=
    by_ (fX3_copies N (sb [1, 3] σ)) (fun uq => pb [1, 3] uq σ) (fun z1 =>
    lt_ (up2 z1 0 4 (1 : Int32)) (fun z2 =>
    bo (rdI z2 1 38 (1 : Int32)) (fun v3 =>
    some (v3, z2))))
abbrev rmX3_image : Room := { frames := 1, cells := 0, slots := 0, locals := 22 }
theorem qX3_image : yX3_image.cls = RX3 ∧ yX3_image.cls ≠ "java/lang/invoke/MethodHandle" ∧ yX3_image.cls ≠ "java/lang/invoke/VarHandle" ∧ (parseMethodDescriptor yX3_image.desc).map (fun d => d.parameters.length) = some 0 := by decide +kernel
set_option maxHeartbeats 400000 in
set_option maxRecDepth 100000 in
theorem mX3_image (l : Launch) (D : va_G) (cI cJ : ClassId) (a : Nat → Nat) (sz N : Nat) (σ : St)  (r : (Int32 × St)) (hf : fX3_image N σ = some r) : Met l yX3_image wsX3_image rmX3_image (WPre ([.ref (a 0)] : List Value) sz D (tyIJ cI cJ) (wMo cI a σ)) (WQi sz D (wMo cI a σ) (wMo cI a (r.2)) r.1) 0 0 (va_A (wMo cI a σ) sz) := by
  refine W_start (cc := cX3_image) (maxL := 1) (ret := (some .int)) (by decide) rfl (Nat.le_of_ble_eq_true rfl) (fun p e s m below meth c ls A hx hb hr hml hown hts hlk hP hK hS hA hD0 hAe hl => ?_)
  have hD : ∀ z, va_D A ((fun z => wMo cI a z) z) := fun z => hD0.ad rfl
  have hown : s.vm.findClass RX3 = some m.cls := hown
  have hl : lv_has ls 1 [(0, .ref (a 0))] := hl
  have ln1 := hts (Cond.fieldLink RX3 9 "HoistsAreSharedModel" "s" "[I") (List.mem_of_getElem? (i := 1) rfl)
  have inX3 : ∀ w ∈ u_ws RX3 TX3 13, w ∈ wsX3_image := fun _ h => List.mem_cons_of_mem _ (List.mem_append_right _ h)
  have ln3 := hts (Cond.fieldLink RX3 16 "HoistsAreSharedModel" "image" "[I") (List.mem_of_getElem? (i := 2) rfl)
  have ln4 := hts (Cond.fieldLink RX3 211 "HoistsAreSharedModel" "hasImage" "Z") (List.mem_of_getElem? (i := 3) rfl)
  unfold fX3_image at hf
  refine lv_aload_n hx hb dX3_image_0 rfl (lv_at hl 0 rfl) ?_
  refine va_get (D := D) (ci := 3) (v := .ref (a 1)) (C := RX3) (T := TX3) (N := 13) hx hb hts inX3 hown hK hP 0 rfl rfl 0 (by decide) ln1 (fun _ h9 => h9) rfl dX3_image_1 ?_
  refine lv_aload_n hx hb dX3_image_4 rfl (lv_at hl 0 rfl) ?_
  refine va_get (D := D) (ci := 3) (v := .ref (a 3)) (C := RX3) (T := TX3) (N := 13) hx hb hts inX3 hown hK hP 0 rfl rfl 2 (by decide) ln3 (fun _ h9 => h9) rfl dX3_image_5 ?_
  refine d_callSv (As := [.ref ((sb [1, 3] a) 0), .ref ((sb [1, 3] a) 1)]) (rest := []) (w := (fun z => wMo cI a z)) (wc := (wAr2 cI (sb [1, 3] a))) (put := (fun uq => pb [1, 3] uq σ)) (σ := σ) (τ0 := (sb [1, 3] σ)) ⟨hx, hb, hml, hown, hts⟩ hf (fun zq hq => mX3_copies l D cI cJ (sb [1, 3] a) s.heap.size N (sb [1, 3] σ) zq hq) (va_cwS 2 hts gX3_image_X3_copies rfl rfl rfl qX3_copies ⟨Nat.le_of_ble_eq_true rfl, Nat.le_of_ble_eq_true rfl⟩) hK hP hD hS hA (cmb_Mo_Ar2_1_3 D cI a σ hP (hD _)) rfl hl.1 rfl (Nat.le_of_ble_eq_true rfl) dX3_image_8 ⟨Nat.le_refl _, Nat.le_refl _⟩ (fun z1 H locs hP hS hf => ?_)
  refine lv_aload_n hx hb dX3_image_11 rfl (lv_at hl 0 rfl) ?_
  refine lv_iconst (v := (1 : Int32)) hx hb dX3_image_12 (by decide) ?_
  refine k_put (ci := 3) (C := RX3) (T := TX3) (N := 13) (ty := .boolean) (w := (fun z => wMo cI a z)) hx hb hts inX3 tyX3 tyX3_ok nmX3 hown hK hP hD hS 0 rfl rfl 4 (by decide) ln4 (fun _ h9 => h9) rfl (by decide +kernel) rfl rfl (Nat.le_of_ble_eq_true rfl) (cN := 0) hf rfl dX3_image_13 (fun z2 H locs hP hS hf => ?_)
  refine lv_aload_n hx hb dX3_image_16 rfl (lv_at hl 0 rfl) ?_
  refine va_get (D := D) (ci := 3) (v := .ref (a 1)) (C := RX3) (T := TX3) (N := 13) hx hb hts inX3 hown hK hP 0 rfl rfl 0 (by decide) ln1 (fun _ h9 => h9) rfl dX3_image_17 ?_
  refine lv_iconst (v := (1 : Int32)) hx hb dX3_image_20 (by decide) ?_
  refine k_iald hx hb hK hP 1 0 hf rfl rfl dX3_image_21 (fun v3 hf => ?_)
  exact W_iret (fun z => wMo cI a z) hx hb hr hlk hP hS hAe hf dX3_image_22
def fX3_on (N : Nat) (σ : St)  : Option (Int32 × St) :=
    if (σ 0 4) = 0 then bx (fX3_no N σ (-3 : Int32)) (fun uq => uq) (fun v4 z3 =>
    some (v4, z3))
    else by_ (fX3_copies N (sb [3, 1] σ)) (fun uq => pb [3, 1] uq σ) (fun z1 =>
    bo (rdI z1 1 38 (1 : Int32)) (fun v2 =>
    some (v2, z1)))
abbrev rmX3_on : Room := { frames := 1, cells := 0, slots := 0, locals := 22 }
theorem qX3_on : yX3_on.cls = RX3 ∧ yX3_on.cls ≠ "java/lang/invoke/MethodHandle" ∧ yX3_on.cls ≠ "java/lang/invoke/VarHandle" ∧ (parseMethodDescriptor yX3_on.desc).map (fun d => d.parameters.length) = some 0 := by decide +kernel
set_option maxHeartbeats 400000 in
set_option maxRecDepth 100000 in
theorem mX3_on (l : Launch) (D : va_G) (cI cJ : ClassId) (a : Nat → Nat) (sz N : Nat) (σ : St)  (r : (Int32 × St)) (hf : fX3_on N σ = some r) : Met l yX3_on wsX3_on rmX3_on (WPre ([.ref (a 0)] : List Value) sz D (tyIJ cI cJ) (wMo cI a σ)) (WQi sz D (wMo cI a σ) (wMo cI a (r.2)) r.1) 0 0 (va_A (wMo cI a σ) sz) := by
  refine W_start (cc := cX3_on) (maxL := 1) (ret := (some .int)) (by decide) rfl (Nat.le_of_ble_eq_true rfl) (fun p e s m below meth c ls A hx hb hr hml hown hts hlk hP hK hS hA hD0 hAe hl => ?_)
  have hD : ∀ z, va_D A ((fun z => wMo cI a z) z) := fun z => hD0.ad rfl
  have hown : s.vm.findClass RX3 = some m.cls := hown
  have hl : lv_has ls 1 [(0, .ref (a 0))] := hl
  have ln1 := hts (Cond.fieldLink RX3 211 "HoistsAreSharedModel" "hasImage" "Z") (List.mem_of_getElem? (i := 1) rfl)
  have inX3 : ∀ w ∈ u_ws RX3 TX3 13, w ∈ wsX3_on := fun _ h => List.mem_cons_of_mem _ (List.mem_append_right _ h)
  have ln3 := hts (Cond.fieldLink RX3 16 "HoistsAreSharedModel" "image" "[I") (List.mem_of_getElem? (i := 2) rfl)
  have ln4 := hts (Cond.fieldLink RX3 9 "HoistsAreSharedModel" "s" "[I") (List.mem_of_getElem? (i := 3) rfl)
  unfold fX3_on at hf
  refine lv_aload_n hx hb dX3_on_0 rfl (lv_at hl 0 rfl) ?_
  refine va_get (D := D) (ci := 3) (v := .int (σ 0 4)) (C := RX3) (T := TX3) (N := 13) hx hb hts inX3 hown hK hP 0 rfl rfl 4 (by decide) ln1 (fun _ h9 => h9) rfl dX3_on_1 ?_
  refine k_if_ne (tgt := 14) hx hb dX3_on_4 (by decide) hf (fun hf => ?_) (fun hf => ?_)
  · refine lv_aload_n hx hb dX3_on_14 rfl (lv_at hl 0 rfl) ?_
    refine va_get (D := D) (ci := 3) (v := .ref (a 3)) (C := RX3) (T := TX3) (N := 13) hx hb hts inX3 hown hK hP 0 rfl rfl 2 (by decide) ln3 (fun _ h9 => h9) rfl dX3_on_15 ?_
    refine lv_aload_n hx hb dX3_on_18 rfl (lv_at hl 0 rfl) ?_
    refine va_get (D := D) (ci := 3) (v := .ref (a 1)) (C := RX3) (T := TX3) (N := 13) hx hb hts inX3 hown hK hP 0 rfl rfl 0 (by decide) ln4 (fun _ h9 => h9) rfl dX3_on_19 ?_
    refine d_callSv (As := [.ref ((sb [3, 1] a) 0), .ref ((sb [3, 1] a) 1)]) (rest := []) (w := (fun z => wMo cI a z)) (wc := (wAr2 cI (sb [3, 1] a))) (put := (fun uq => pb [3, 1] uq σ)) (σ := σ) (τ0 := (sb [3, 1] σ)) ⟨hx, hb, hml, hown, hts⟩ hf (fun zq hq => mX3_copies l D cI cJ (sb [3, 1] a) s.heap.size N (sb [3, 1] σ) zq hq) (va_cwS 2 hts gX3_on_X3_copies rfl rfl rfl qX3_copies ⟨Nat.le_of_ble_eq_true rfl, Nat.le_of_ble_eq_true rfl⟩) hK hP hD hS hA (cmb_Mo_Ar2_3_1 D cI a σ hP (hD _)) rfl hl.1 rfl (Nat.le_of_ble_eq_true rfl) dX3_on_22 ⟨Nat.le_refl _, Nat.le_refl _⟩ (fun z1 H locs hP hS hf => ?_)
    refine lv_aload_n hx hb dX3_on_25 rfl (lv_at hl 0 rfl) ?_
    refine va_get (D := D) (ci := 3) (v := .ref (a 1)) (C := RX3) (T := TX3) (N := 13) hx hb hts inX3 hown hK hP 0 rfl rfl 0 (by decide) ln4 (fun _ h9 => h9) rfl dX3_on_26 ?_
    refine lv_iconst (v := (1 : Int32)) hx hb dX3_on_29 (by decide) ?_
    refine k_iald hx hb hK hP 1 0 hf rfl rfl dX3_on_30 (fun v2 hf => ?_)
    exact W_iret (fun z => wMo cI a z) hx hb hr hlk hP hS hAe hf dX3_on_31
  · refine lv_aload_n hx hb dX3_on_7 rfl (lv_at hl 0 rfl) ?_
    refine lv_bipush (v := (-3 : Int32)) hx hb dX3_on_8 (by decide) ?_
    refine d_callV (As := [.int (-3 : Int32)]) (rest := []) (w := (fun z => wMo cI a z)) (wc := (wMo cI a)) (put := (fun uq => uq)) (σ := σ) (τ0 := σ) ⟨hx, hb, hml, hown, hts⟩ hf (fun vq zq hq => mX3_no l D cI cJ a s.heap.size N σ (-3 : Int32) (vq, zq) hq) (cwV 1 hts gX3_on_X3_no rfl rfl rfl qX3_no ⟨Nat.le_of_ble_eq_true rfl, Nat.le_of_ble_eq_true rfl⟩) hK hP hD hS hA ⟨hP, hD _, fun _ _ _ h => h⟩ 3 rfl rfl rfl rfl hl.1 rfl (Nat.le_of_ble_eq_true rfl) dX3_on_10 ⟨Nat.le_refl _, Nat.le_refl _⟩ (fun v4 z3 H locs hP hS hf => ?_)
    exact W_iret (fun z => wMo cI a z) hx hb hr hlk hP hS hAe hf dX3_on_13
def fX3_count (N : Nat) (σ : St) (p1 : Int32) : Option Int32 :=
    bo (fX3_isIn N p1 (11 : Int32) (16 : Int32)) (fun v1 =>
    if v1 = 0 then if p1 = (0 : Int32) then bo (rdI σ 1 38 p1) (fun v2 =>
    some v2)
    else if p1 = (1 : Int32) then bo (rdI σ 1 38 p1) (fun v4 =>
    some v4)
    else if p1 = (2 : Int32) then bo (rdI σ 1 38 p1) (fun v6 =>
    some v6)
    else if p1 = (3 : Int32) then bo (rdI σ 1 38 p1) (fun v8 =>
    some v8)
    else if p1 = (4 : Int32) then bo (fX3_onSide N σ (2 : Int32)) (fun v10 =>
    some v10)
    else if p1 = (5 : Int32) then bo (fX3_allWeigh N σ) (fun v12 =>
    some v12)
    else if p1 = (6 : Int32) then some (σ 0 9)
    else if p1 = (7 : Int32) then some (σ 0 8)
    else some (-9 : Int32)
    else bo (rdI σ 7 7 (p1 - (10 : Int32))) (fun v16 =>
    some v16))
abbrev rmX3_count : Room := { frames := 5, cells := 0, slots := 0, locals := 111 }
theorem qX3_count : yX3_count.cls = RX3 ∧ yX3_count.cls ≠ "java/lang/invoke/MethodHandle" ∧ yX3_count.cls ≠ "java/lang/invoke/VarHandle" ∧ (parseMethodDescriptor yX3_count.desc).map (fun d => d.parameters.length) = some 1 := by decide +kernel
set_option maxHeartbeats 400000 in
set_option maxRecDepth 100000 in
theorem mX3_count (l : Launch) (D : va_G) (cI cJ : ClassId) (a : Nat → Nat) (sz N : Nat) (σ : St) (p1 : Int32) (r : Int32) (hf : fX3_count N σ p1 = some r) : Met l yX3_count wsX3_count rmX3_count (RPre ([.ref (a 0), .int p1] : List Value) sz D (tyIJ cI cJ) (wMo cI a σ)) (RQi sz r) 0 0 (fr0 sz) := by
  refine R_start (cc := cX3_count) (maxL := 2) (ret := (some .int)) (by decide) rfl (Nat.le_of_ble_eq_true rfl) (fun p e s m below meth c ls hx hb hr hml hown hts hlk hP hK hS hA hsz hl => ?_)
  have hown : s.vm.findClass RX3 = some m.cls := hown
  have hl : lv_has ls 2 [(0, .ref (a 0)), (1, .int p1)] := hl
  have ln1 := hts (Cond.fieldLink RX3 9 "HoistsAreSharedModel" "s" "[I") (List.mem_of_getElem? (i := 2) rfl)
  have inX3 : ∀ w ∈ u_ws RX3 TX3 13, w ∈ wsX3_count := fun _ h => List.mem_cons_of_mem _ (List.mem_append_right _ h)
  have ln3 := hts (Cond.fieldLink RX3 199 "HoistsAreSharedModel" "rowMany" "I") (List.mem_of_getElem? (i := 3) rfl)
  have ln4 := hts (Cond.fieldLink RX3 86 "HoistsAreSharedModel" "letterMany" "I") (List.mem_of_getElem? (i := 4) rfl)
  have ln5 := hts (Cond.fieldLink RX3 28 "HoistsAreSharedModel" "refused" "[I") (List.mem_of_getElem? (i := 1) rfl)
  unfold fX3_count at hf
  refine lv_iload_n hx hb dX3_count_0 rfl (lv_at hl 1 rfl) ?_
  refine lv_bipush (v := (11 : Int32)) hx hb dX3_count_1 (by decide) ?_
  refine lv_bipush (v := (16 : Int32)) hx hb dX3_count_3 (by decide) ?_
  refine c_callS (As := [.int p1, .int (11 : Int32), .int (16 : Int32)]) (rest := []) ⟨hx, hb, hml, hown, hts⟩ hf (fun vq hq => mX3_isIn l D cI cJ s.heap.size N p1 (11 : Int32) (16 : Int32) vq hq) (va_cwS 3 hts gX3_count_X3_isIn rfl rfl rfl qX3_isIn ⟨Nat.le_of_ble_eq_true rfl, Nat.le_of_ble_eq_true rfl⟩) hK hP hS hA va_P_nil rfl hl.1 rfl (Nat.le_of_ble_eq_true rfl) dX3_count_5 ⟨Nat.le_refl _, Nat.le_refl _⟩ (fun v1 H locs hP hS hf => ?_)
  refine k_if_eq (tgt := 21) hx hb dX3_count_8 (by decide) hf (fun hf => ?_) (fun hf => ?_)
  · refine lv_iload_n hx hb dX3_count_21 rfl (lv_at hl 1 rfl) ?_
    refine sw_if hf (fun c3 hf => ?_) (fun c3 hf => ?_)
    · refine lv_tableIn (off := 46) (tgt := 68) hx hb dX3_count_22 (by rw [c3]; decide) (by rw [c3]; decide) (by rw [c3]; decide) (by decide) ?_
      refine lv_aload_n hx hb dX3_count_68 rfl (lv_at hl 0 rfl) ?_
      refine va_get (D := D) (ci := 3) (v := .ref (a 1)) (C := RX3) (T := TX3) (N := 13) hx hb hts inX3 hown hK hP 0 rfl rfl 0 (by decide) ln1 (fun _ h9 => h9) rfl dX3_count_69 ?_
      refine lv_iload_n hx hb dX3_count_72 rfl (lv_at hl 1 rfl) ?_
      refine k_iald hx hb hK hP 1 0 hf rfl rfl dX3_count_73 (fun v2 hf => ?_)
      exact R_iret hx hb hr hlk hS hsz hf dX3_count_74
    · have c3 := i32_ne c3 (n := 0) (by decide)
      refine sw_if hf (fun c5 hf => ?_) (fun c5 hf => ?_)
      · refine lv_tableIn (off := 46) (tgt := 68) hx hb dX3_count_22 (by rw [c5]; decide) (by rw [c5]; decide) (by rw [c5]; decide) (by decide) ?_
        refine lv_aload_n hx hb dX3_count_68 rfl (lv_at hl 0 rfl) ?_
        refine va_get (D := D) (ci := 3) (v := .ref (a 1)) (C := RX3) (T := TX3) (N := 13) hx hb hts inX3 hown hK hP 0 rfl rfl 0 (by decide) ln1 (fun _ h9 => h9) rfl dX3_count_69 ?_
        refine lv_iload_n hx hb dX3_count_72 rfl (lv_at hl 1 rfl) ?_
        refine k_iald hx hb hK hP 1 0 hf rfl rfl dX3_count_73 (fun v4 hf => ?_)
        exact R_iret hx hb hr hlk hS hsz hf dX3_count_74
      · have c5 := i32_ne c5 (n := 1) (by decide)
        refine sw_if hf (fun c7 hf => ?_) (fun c7 hf => ?_)
        · refine lv_tableIn (off := 46) (tgt := 68) hx hb dX3_count_22 (by rw [c7]; decide) (by rw [c7]; decide) (by rw [c7]; decide) (by decide) ?_
          refine lv_aload_n hx hb dX3_count_68 rfl (lv_at hl 0 rfl) ?_
          refine va_get (D := D) (ci := 3) (v := .ref (a 1)) (C := RX3) (T := TX3) (N := 13) hx hb hts inX3 hown hK hP 0 rfl rfl 0 (by decide) ln1 (fun _ h9 => h9) rfl dX3_count_69 ?_
          refine lv_iload_n hx hb dX3_count_72 rfl (lv_at hl 1 rfl) ?_
          refine k_iald hx hb hK hP 1 0 hf rfl rfl dX3_count_73 (fun v6 hf => ?_)
          exact R_iret hx hb hr hlk hS hsz hf dX3_count_74
        · have c7 := i32_ne c7 (n := 2) (by decide)
          refine sw_if hf (fun c9 hf => ?_) (fun c9 hf => ?_)
          · refine lv_tableIn (off := 46) (tgt := 68) hx hb dX3_count_22 (by rw [c9]; decide) (by rw [c9]; decide) (by rw [c9]; decide) (by decide) ?_
            refine lv_aload_n hx hb dX3_count_68 rfl (lv_at hl 0 rfl) ?_
            refine va_get (D := D) (ci := 3) (v := .ref (a 1)) (C := RX3) (T := TX3) (N := 13) hx hb hts inX3 hown hK hP 0 rfl rfl 0 (by decide) ln1 (fun _ h9 => h9) rfl dX3_count_69 ?_
            refine lv_iload_n hx hb dX3_count_72 rfl (lv_at hl 1 rfl) ?_
            refine k_iald hx hb hK hP 1 0 hf rfl rfl dX3_count_73 (fun v8 hf => ?_)
            exact R_iret hx hb hr hlk hS hsz hf dX3_count_74
          · have c9 := i32_ne c9 (n := 3) (by decide)
            refine sw_if hf (fun c11 hf => ?_) (fun c11 hf => ?_)
            · refine lv_tableIn (off := 53) (tgt := 75) hx hb dX3_count_22 (by rw [c11]; decide) (by rw [c11]; decide) (by rw [c11]; decide) (by decide) ?_
              refine lv_aload_n hx hb dX3_count_75 rfl (lv_at hl 0 rfl) ?_
              refine lv_iconst (v := (2 : Int32)) hx hb dX3_count_76 (by decide) ?_
              refine c_callV (As := [.int (2 : Int32)]) (rest := []) ⟨hx, hb, hml, hown, hts⟩ hf (fun vq hq => mX3_onSide l D cI cJ a H.size N σ (2 : Int32) vq hq) (cwV 1 hts gX3_count_X3_onSide rfl rfl rfl qX3_onSide ⟨Nat.le_of_ble_eq_true rfl, Nat.le_of_ble_eq_true rfl⟩) hK hP hS hA hP 3 rfl rfl rfl rfl hl.1 rfl (Nat.le_of_ble_eq_true rfl) dX3_count_77 ⟨Nat.le_refl _, Nat.le_refl _⟩ (fun v10 H locs hP hS hf => ?_)
              exact R_iret hx hb hr hlk hS hsz hf dX3_count_80
            · have c11 := i32_ne c11 (n := 4) (by decide)
              refine sw_if hf (fun c13 hf => ?_) (fun c13 hf => ?_)
              · refine lv_tableIn (off := 59) (tgt := 81) hx hb dX3_count_22 (by rw [c13]; decide) (by rw [c13]; decide) (by rw [c13]; decide) (by decide) ?_
                refine lv_aload_n hx hb dX3_count_81 rfl (lv_at hl 0 rfl) ?_
                refine c_callV (As := []) (rest := []) ⟨hx, hb, hml, hown, hts⟩ hf (fun vq hq => mX3_allWeigh l D cI cJ a H.size N σ vq hq) (cwV 0 hts gX3_count_X3_allWeigh rfl rfl rfl qX3_allWeigh ⟨Nat.le_of_ble_eq_true rfl, Nat.le_of_ble_eq_true rfl⟩) hK hP hS hA hP 3 rfl rfl rfl rfl hl.1 rfl (Nat.le_of_ble_eq_true rfl) dX3_count_82 ⟨Nat.le_refl _, Nat.le_refl _⟩ (fun v12 H locs hP hS hf => ?_)
                exact R_iret hx hb hr hlk hS hsz hf dX3_count_85
              · have c13 := i32_ne c13 (n := 5) (by decide)
                refine sw_if hf (fun c14 hf => ?_) (fun c14 hf => ?_)
                · refine lv_tableIn (off := 64) (tgt := 86) hx hb dX3_count_22 (by rw [c14]; decide) (by rw [c14]; decide) (by rw [c14]; decide) (by decide) ?_
                  refine lv_aload_n hx hb dX3_count_86 rfl (lv_at hl 0 rfl) ?_
                  refine va_get (D := D) (ci := 3) (v := .int (σ 0 9)) (C := RX3) (T := TX3) (N := 13) hx hb hts inX3 hown hK hP 0 rfl rfl 9 (by decide) ln3 (fun _ h9 => h9) rfl dX3_count_87 ?_
                  exact R_iret hx hb hr hlk hS hsz hf dX3_count_90
                · have c14 := i32_ne c14 (n := 6) (by decide)
                  refine sw_if hf (fun c15 hf => ?_) (fun c15 hf => ?_)
                  · refine lv_tableIn (off := 69) (tgt := 91) hx hb dX3_count_22 (by rw [c15]; decide) (by rw [c15]; decide) (by rw [c15]; decide) (by decide) ?_
                    refine lv_aload_n hx hb dX3_count_91 rfl (lv_at hl 0 rfl) ?_
                    refine va_get (D := D) (ci := 3) (v := .int (σ 0 8)) (C := RX3) (T := TX3) (N := 13) hx hb hts inX3 hown hK hP 0 rfl rfl 8 (by decide) ln4 (fun _ h9 => h9) rfl dX3_count_92 ?_
                    exact R_iret hx hb hr hlk hS hsz hf dX3_count_95
                  · have c15 := i32_ne c15 (n := 7) (by decide)
                    refine lv_tableOut (tgt := 96) hx hb dX3_count_22 (by omega) (by decide) ?_
                    refine lv_bipush (v := (-9 : Int32)) hx hb dX3_count_96 (by decide) ?_
                    exact R_iret hx hb hr hlk hS hsz hf dX3_count_98
  · refine lv_aload_n hx hb dX3_count_11 rfl (lv_at hl 0 rfl) ?_
    refine va_get (D := D) (ci := 3) (v := .ref (a 7)) (C := RX3) (T := TX3) (N := 13) hx hb hts inX3 hown hK hP 0 rfl rfl 7 (by decide) ln5 (fun _ h9 => h9) rfl dX3_count_12 ?_
    refine lv_iload_n hx hb dX3_count_15 rfl (lv_at hl 1 rfl) ?_
    refine lv_bipush (v := (10 : Int32)) hx hb dX3_count_16 (by decide) ?_
    refine lv_isub hx hb dX3_count_18 ?_
    refine k_iald hx hb hK hP 7 0 hf rfl rfl dX3_count_19 (fun v16 hf => ?_)
    exact R_iret hx hb hr hlk hS hsz hf dX3_count_20
