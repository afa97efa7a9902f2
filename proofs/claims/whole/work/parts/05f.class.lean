def fX2_ballast_L120 (N : Nat) (k66 : St → Int32 → Int32 → Int32 → Int32 → Int32 → Int32 → Option (Int32 × St)) (z : St) (x1 : Int32) (x2 : Int32) (x3 : Int32) (x5 : Int32) (x6 : Int32) (x7 : Int32) : Option (Int32 × St) :=
    lt_ (x7 + (1 : Int32) : Int32) (fun v7 =>
    k66 z x1 x2 x3 x5 x6 v7)
def fX2_ballast_L99 (N : Nat) (k66 : St → Int32 → Int32 → Int32 → Int32 → Int32 → Int32 → Option (Int32 × St)) (z : St) (x1 : Int32) (x2 : Int32) (x3 : Int32) (x5 : Int32) (x6 : Int32) (x7 : Int32) (y0 : Int32) : Option (Int32 × St) :=
    bo (fX2_apartIfPulled N z y0 x2) (fun v6 =>
    if x5 ≤ v6 then fX2_ballast_L120 N k66 z x1 x2 x3 x5 x6 x7
    else fX2_ballast_L120 N k66 z x1 x2 x3 v6 x7 x7)
def fX2_ballast_L66 (N : Nat)  : Nat → St → Int32 → Int32 → Int32 → Int32 → Int32 → Int32 → Option (Int32 × St)
  | 0, _, _, _, _, _, _, _ => none
  | n + 1, z, x1, x2, x3, x5, x6, x7 =>
    if (50 : Int32) < x7 then if x3 = 0 then some (x6, z)
    else some (x5, z)
    else bo (fX0_ballastOf N (sb [1, 2, 3, 4, 5, 6] z) x1) (fun v4 =>
    lt_ ((x7 - v4) : Int32) (fun v5 =>
    if x1 = 0 then fX2_ballast_L99 N (fX2_ballast_L66 N n) z x1 x2 x3 x5 x6 x7 v5
    else fX2_ballast_L99 N (fX2_ballast_L66 N n) z x1 x2 x3 x5 x6 x7 (-v5)))
def fX2_ballast_L50 (N : Nat)  (z : St) (x1 : Int32) (x2 : Int32) (x3 : Int32) : Option (Int32 × St) :=
    by_ (fX2_reckonPulls N z x2) (fun uq => uq) (fun z3 =>
    fX2_ballast_L66 N  N z3 x1 x2 x3 (21 : Int32) (-9 : Int32) (0 : Int32))
def fX2_ballast (N : Nat) (σ : St) (p1 : Int32) (p2 : Int32) (p3 : Int32) : Option (Int32 × St) :=
    bo (fX0_isSide N p1) (fun v1 =>
    if v1 = 0 then bx (fX2_refuse N σ (-1 : Int32)) (fun uq => uq) (fun v13 z12 =>
    some (v13, z12))
    else bo (fX2_faultOf N p2 (0 : Int32) (30 : Int32)) (fun v2 =>
    if v2 = 0 then if p3 = 0 then fX2_ballast_L50 N  σ p1 p2 p3
    else if p3 = (1 : Int32) then fX2_ballast_L50 N  σ p1 p2 p3
    else bx (fX2_refuse N σ (-2 : Int32)) (fun uq => uq) (fun v9 z8 =>
    some (v9, z8))
    else bx (fX2_refuse N σ v2) (fun uq => uq) (fun v11 z10 =>
    some (v11, z10))))
abbrev rmX2_ballast : Room := { frames := 4, cells := 0, slots := 0, locals := 94 }
theorem qX2_ballast : yX2_ballast.cls = RX2 ∧ yX2_ballast.cls ≠ "java/lang/invoke/MethodHandle" ∧ yX2_ballast.cls ≠ "java/lang/invoke/VarHandle" ∧ (parseMethodDescriptor yX2_ballast.desc).map (fun d => d.parameters.length) = some 3 := by decide +kernel
set_option maxHeartbeats 400000 in
set_option maxRecDepth 100000 in
theorem mX2_ballast (l : Launch) (D : va_G) (cI cJ : ClassId) (a : Nat → Nat) (sz N : Nat) (τ : LSt) (σ : St) (p1 : Int32) (p2 : Int32) (p3 : Int32) (r : (Int32 × St)) (hf : fX2_ballast N σ p1 p2 p3 = some r) : Met l yX2_ballast wsX2_ballast rmX2_ballast (WPre ([.ref (a 0), .int p1, .int p2, .int p3] : List Value) sz D (tyIJ cI cJ) (wHA cI cJ a τ σ)) (WQi sz D (wHA cI cJ a τ σ) (wHA cI cJ a τ (r.2)) r.1) 0 0 (va_A (wHA cI cJ a τ σ) sz) := by
  refine W_start (cc := cX2_ballast) (maxL := 10) (ret := (some .int)) (by decide) rfl (Nat.le_of_ble_eq_true rfl) (fun p e s m below meth c ls A hx hb hr hml hown hts hlk hP hK hS hA hD0 hAe hl => ?_)
  have hD : ∀ z, va_D A ((wHA cI cJ a τ) z) := fun z => hD0.ad rfl
  have hown : s.vm.findClass RX2 = some m.cls := hown
  have hl : lv_has ls 10 [(0, .ref (a 0)), (1, .int p1), (2, .int p2), (3, .int p3)] := hl
  have ln1 := hts (Cond.fieldLink RX2 10 "HoistsAreShared" "now" "LHoistsAreShared$Hoist;") (List.mem_of_getElem? (i := 1) rfl)
  have inX2 : ∀ w ∈ u_ws RX2 TX2 14, w ∈ wsX2_ballast := fun _ h => List.mem_cons_of_mem _ (List.mem_append_left _ (List.mem_append_right _ h))
  have b120 : ∀ (k66 : St → Int32 → Int32 → Int32 → Int32 → Int32 → Int32 → Option (Int32 × St)) (hk66 : (∀ (z : St) (x1 : Int32) (x2 : Int32) (x3 : Int32) (x5 : Int32) (x6 : Int32) (x7 : Int32) (H : Heap) (locs : List Loc) (ls : Array Slot), va_P D vwCl (wHA cI cJ a τ z) H → va_S A s.heap H locs → lv_has ls 10 [(0, .ref (a 0)), (1, .int x1), (2, .int x2), (3, .int x3), (5, .int x5), (6, .int x6), (7, .int x7)] → k66 z x1 x2 x3 x5 x6 x7 = some r → W p l e rmX2_ballast s m ([.ref (a 0), .int p1, .int p2, .int p3] : List Value).toArray below meth c H locs 0 0 (MQ below (WQi sz D (wHA cI cJ a τ σ) (wHA cI cJ a τ (r.2)) r.1) ([.ref (a 0), .int p1, .int p2, .int p3] : List Value).toArray s 0 0 A) (F0 m 66 ls []))) (z : St) (x1 : Int32) (x2 : Int32) (x3 : Int32) (x5 : Int32) (x6 : Int32) (x7 : Int32) (H : Heap) (locs : List Loc) (ls : Array Slot), va_P D vwCl (wHA cI cJ a τ z) H → va_S A s.heap H locs → lv_has ls 10 [(0, .ref (a 0)), (1, .int x1), (2, .int x2), (3, .int x3), (5, .int x5), (6, .int x6), (7, .int x7)] → fX2_ballast_L120 N k66 z x1 x2 x3 x5 x6 x7 = some r → W p l e rmX2_ballast s m ([.ref (a 0), .int p1, .int p2, .int p3] : List Value).toArray below meth c H locs 0 0 (MQ below (WQi sz D (wHA cI cJ a τ σ) (wHA cI cJ a τ (r.2)) r.1) ([.ref (a 0), .int p1, .int p2, .int p3] : List Value).toArray s 0 0 A) (F0 m 120 ls []) := by
    intro k66 hk66 z x1 x2 x3 x5 x6 x7 H locs ls hP hS hl hf
    unfold fX2_ballast_L120 at hf
    refine k_iinc (d := (1 : Int32)) (lv' := fun v7 => [(7, .int v7), (0, .ref (a 0)), (1, .int x1), (2, .int x2), (3, .int x3), (5, .int x5), (6, .int x6)]) hx hb dX2_ballast_120 hl (k := 6) rfl (by decide) (by decide) (fun _ => rfl) hf (fun v7 ls hl hf => ?_)
    refine lv_goto (tgt := 66) hx hb dX2_ballast_123 (by decide) ?_
    exact hk66 z x1 x2 x3 x5 x6 v7 H locs ls hP hS (lv_sub hl [1, 2, 3, 4, 5, 6, 0] rfl) hf
  have b99 : ∀ (k66 : St → Int32 → Int32 → Int32 → Int32 → Int32 → Int32 → Option (Int32 × St)) (hk66 : (∀ (z : St) (x1 : Int32) (x2 : Int32) (x3 : Int32) (x5 : Int32) (x6 : Int32) (x7 : Int32) (H : Heap) (locs : List Loc) (ls : Array Slot), va_P D vwCl (wHA cI cJ a τ z) H → va_S A s.heap H locs → lv_has ls 10 [(0, .ref (a 0)), (1, .int x1), (2, .int x2), (3, .int x3), (5, .int x5), (6, .int x6), (7, .int x7)] → k66 z x1 x2 x3 x5 x6 x7 = some r → W p l e rmX2_ballast s m ([.ref (a 0), .int p1, .int p2, .int p3] : List Value).toArray below meth c H locs 0 0 (MQ below (WQi sz D (wHA cI cJ a τ σ) (wHA cI cJ a τ (r.2)) r.1) ([.ref (a 0), .int p1, .int p2, .int p3] : List Value).toArray s 0 0 A) (F0 m 66 ls []))) (z : St) (x1 : Int32) (x2 : Int32) (x3 : Int32) (x5 : Int32) (x6 : Int32) (x7 : Int32) (y0 : Int32) (H : Heap) (locs : List Loc) (ls : Array Slot), va_P D vwCl (wHA cI cJ a τ z) H → va_S A s.heap H locs → lv_has ls 10 [(0, .ref (a 0)), (1, .int x1), (2, .int x2), (3, .int x3), (5, .int x5), (6, .int x6), (7, .int x7)] → fX2_ballast_L99 N k66 z x1 x2 x3 x5 x6 x7 y0 = some r → W p l e rmX2_ballast s m ([.ref (a 0), .int p1, .int p2, .int p3] : List Value).toArray below meth c H locs 0 0 (MQ below (WQi sz D (wHA cI cJ a τ σ) (wHA cI cJ a τ (r.2)) r.1) ([.ref (a 0), .int p1, .int p2, .int p3] : List Value).toArray s 0 0 A) (F0 m 99 ls [.int y0, .ref (a 0)]) := by
    intro k66 hk66 z x1 x2 x3 x5 x6 x7 y0 H locs ls hP hS hl hf
    unfold fX2_ballast_L99 at hf
    refine lv_iload_n hx hb dX2_ballast_99 rfl (lv_at hl 2 rfl) ?_
    refine c_callV (As := [.int y0, .int x2]) (rest := []) ⟨hx, hb, hml, hown, hts⟩ hf (fun vq hq => mX2_apartIfPulled l D cI cJ a H.size N τ z y0 x2 vq hq) (cwV 2 hts gX2_ballast_X2_apartIfPulled rfl rfl rfl qX2_apartIfPulled ⟨Nat.le_of_ble_eq_true rfl, Nat.le_of_ble_eq_true rfl⟩) hK hP hS hA hP 2 rfl rfl rfl rfl hl.1 rfl (Nat.le_of_ble_eq_true rfl) dX2_ballast_100 ⟨Nat.le_refl _, Nat.le_refl _⟩ (fun v6 H locs hP hS hf => ?_)
    refine lv_istore (lv' := [(9, .int v6), (0, .ref (a 0)), (1, .int x1), (2, .int x2), (3, .int x3), (5, .int x5), (6, .int x6), (7, .int x7)]) hx hb dX2_ballast_103 hl (by decide) rfl (fun ls hl => ?_)
    refine lv_iload hx hb dX2_ballast_105 (lv_at hl 0 rfl) ?_
    refine lv_iload hx hb dX2_ballast_107 (lv_at hl 5 rfl) ?_
    refine k_icmp_ge (tgt := 120) hx hb dX2_ballast_109 (by decide) hf (fun hf => ?_) (fun hf => ?_)
    · exact b120 k66 hk66 z x1 x2 x3 x5 x6 x7 H locs ls hP hS (lv_sub hl [1, 2, 3, 4, 5, 6, 7] rfl) hf
    · refine lv_iload hx hb dX2_ballast_112 (lv_at hl 0 rfl) ?_
      refine lv_istore (lv' := [(5, .int v6), (9, .int v6), (0, .ref (a 0)), (1, .int x1), (2, .int x2), (3, .int x3), (6, .int x6), (7, .int x7)]) hx hb dX2_ballast_114 hl (by decide) rfl (fun ls hl => ?_)
      refine lv_iload hx hb dX2_ballast_116 (lv_at hl 7 rfl) ?_
      refine lv_istore (lv' := [(6, .int x7), (5, .int v6), (9, .int v6), (0, .ref (a 0)), (1, .int x1), (2, .int x2), (3, .int x3), (7, .int x7)]) hx hb dX2_ballast_118 hl (by decide) rfl (fun ls hl => ?_)
      exact b120 k66 hk66 z x1 x2 x3 v6 x7 x7 H locs ls hP hS (lv_sub hl [3, 4, 5, 6, 1, 0, 7] rfl) hf
  have b66 : ∀  (n : Nat) (z : St) (x1 : Int32) (x2 : Int32) (x3 : Int32) (x5 : Int32) (x6 : Int32) (x7 : Int32) (H : Heap) (locs : List Loc) (ls : Array Slot), va_P D vwCl (wHA cI cJ a τ z) H → va_S A s.heap H locs → lv_has ls 10 [(0, .ref (a 0)), (1, .int x1), (2, .int x2), (3, .int x3), (5, .int x5), (6, .int x6), (7, .int x7)] → fX2_ballast_L66 N n z x1 x2 x3 x5 x6 x7 = some r → W p l e rmX2_ballast s m ([.ref (a 0), .int p1, .int p2, .int p3] : List Value).toArray below meth c H locs 0 0 (MQ below (WQi sz D (wHA cI cJ a τ σ) (wHA cI cJ a τ (r.2)) r.1) ([.ref (a 0), .int p1, .int p2, .int p3] : List Value).toArray s 0 0 A) (F0 m 66 ls []) := by
    intro n
    induction n with
    | zero => intro z x1 x2 x3 x5 x6 x7 H locs ls hP hS hl hf; cases hf
    | succ n ih =>
      intro z x1 x2 x3 x5 x6 x7 H locs ls hP hS hl hf
      rw [fX2_ballast_L66] at hf
      refine lv_iload hx hb dX2_ballast_66 (lv_at hl 6 rfl) ?_
      refine lv_bipush (v := (50 : Int32)) hx hb dX2_ballast_68 (by decide) ?_
      refine k_icmp_gt (tgt := 126) hx hb dX2_ballast_70 (by decide) hf (fun hf => ?_) (fun hf => ?_)
      · refine lv_iload_n hx hb dX2_ballast_126 rfl (lv_at hl 3 rfl) ?_
        refine k_if_ne (tgt := 135) hx hb dX2_ballast_127 (by decide) hf (fun hf => ?_) (fun hf => ?_)
        · refine lv_iload hx hb dX2_ballast_135 (lv_at hl 4 rfl) ?_
          exact W_iret (wHA cI cJ a τ) hx hb hr hlk hP hS hAe hf dX2_ballast_137
        · refine lv_iload hx hb dX2_ballast_130 (lv_at hl 5 rfl) ?_
          refine lv_goto (tgt := 137) hx hb dX2_ballast_132 (by decide) ?_
          exact W_iret (wHA cI cJ a τ) hx hb hr hlk hP hS hAe hf dX2_ballast_137
      · refine lv_iload hx hb dX2_ballast_73 (lv_at hl 6 rfl) ?_
        refine lv_aload_n hx hb dX2_ballast_75 rfl (lv_at hl 0 rfl) ?_
        refine va_get (D := D) (ci := 2) (v := .ref (a 1)) (C := RX2) (T := TX2) (N := 14) hx hb hts inX2 hown hK hP 0 rfl rfl 0 (by decide) ln1 (fun _ h9 => h9) rfl dX2_ballast_76 ?_
        refine lv_iload_n hx hb dX2_ballast_79 rfl (lv_at hl 1 rfl) ?_
        refine c_callV (As := [.int x1]) (rest := [.int x7]) ⟨hx, hb, hml, hown, hts⟩ hf (fun vq hq => mX0_ballastOf l D cI cJ (sb [1, 2, 3, 4, 5, 6] a) H.size N (sb [1, 2, 3, 4, 5, 6] z) x1 vq hq) (cwV 1 hts gX2_ballast_X0_ballastOf rfl rfl rfl qX0_ballastOf ⟨Nat.le_of_ble_eq_true rfl, Nat.le_of_ble_eq_true rfl⟩) hK hP hS hA (cmr_HA_Ho_1_2_3_4_5_6 D cI cJ a τ z hP) 0 rfl rfl rfl rfl hl.1 rfl (Nat.le_of_ble_eq_true rfl) dX2_ballast_80 ⟨Nat.le_refl _, Nat.le_refl _⟩ (fun v4 H locs hP hS hf => ?_)
        refine lv_isub hx hb dX2_ballast_83 ?_
        refine k_let hf (fun v5 hf => ?_)
        refine lv_istore (lv' := [(8, .int v5), (0, .ref (a 0)), (1, .int x1), (2, .int x2), (3, .int x3), (5, .int x5), (6, .int x6), (7, .int x7)]) hx hb dX2_ballast_84 hl (by decide) rfl (fun ls hl => ?_)
        refine lv_aload_n hx hb dX2_ballast_86 rfl (lv_at hl 1 rfl) ?_
        refine lv_iload_n hx hb dX2_ballast_87 rfl (lv_at hl 2 rfl) ?_
        refine k_if_ne (tgt := 96) hx hb dX2_ballast_88 (by decide) hf (fun hf => ?_) (fun hf => ?_)
        · refine lv_iload hx hb dX2_ballast_96 (lv_at hl 0 rfl) ?_
          refine lv_ineg hx hb dX2_ballast_98 ?_
          exact b99 (fX2_ballast_L66 N n) ih z x1 x2 x3 x5 x6 x7 (-v5) H locs ls hP hS (lv_sub hl [1, 2, 3, 4, 5, 6, 7] rfl) hf
        · refine lv_iload hx hb dX2_ballast_91 (lv_at hl 0 rfl) ?_
          refine lv_goto (tgt := 99) hx hb dX2_ballast_93 (by decide) ?_
          exact b99 (fX2_ballast_L66 N n) ih z x1 x2 x3 x5 x6 x7 v5 H locs ls hP hS (lv_sub hl [1, 2, 3, 4, 5, 6, 7] rfl) hf
  have b50 : ∀  (z : St) (x1 : Int32) (x2 : Int32) (x3 : Int32) (H : Heap) (locs : List Loc) (ls : Array Slot), va_P D vwCl (wHA cI cJ a τ z) H → va_S A s.heap H locs → lv_has ls 10 [(0, .ref (a 0)), (1, .int x1), (2, .int x2), (3, .int x3)] → fX2_ballast_L50 N z x1 x2 x3 = some r → W p l e rmX2_ballast s m ([.ref (a 0), .int p1, .int p2, .int p3] : List Value).toArray below meth c H locs 0 0 (MQ below (WQi sz D (wHA cI cJ a τ σ) (wHA cI cJ a τ (r.2)) r.1) ([.ref (a 0), .int p1, .int p2, .int p3] : List Value).toArray s 0 0 A) (F0 m 50 ls []) := by
    intro  z x1 x2 x3 H locs ls hP hS hl hf
    unfold fX2_ballast_L50 at hf
    refine lv_aload_n hx hb dX2_ballast_50 rfl (lv_at hl 0 rfl) ?_
    refine lv_iload_n hx hb dX2_ballast_51 rfl (lv_at hl 2 rfl) ?_
    refine d_callVv (As := [.int x2]) (rest := []) (w := (wHA cI cJ a τ)) (wc := (wHA cI cJ a τ)) (put := (fun uq => uq)) (σ := z) (τ0 := z) ⟨hx, hb, hml, hown, hts⟩ hf (fun zq hq => mX2_reckonPulls l D cI cJ a H.size N τ z x2 zq hq) (cwV 1 hts gX2_ballast_X2_reckonPulls rfl rfl rfl qX2_reckonPulls ⟨Nat.le_of_ble_eq_true rfl, Nat.le_of_ble_eq_true rfl⟩) hK hP hD hS hA ⟨hP, hD _, fun _ _ _ h => h⟩ 2 rfl rfl rfl rfl hl.1 rfl (Nat.le_of_ble_eq_true rfl) dX2_ballast_52 ⟨Nat.le_refl _, Nat.le_refl _⟩ (fun z3 H locs hP hS hf => ?_)
    refine lv_bipush (v := (21 : Int32)) hx hb dX2_ballast_55 (by decide) ?_
    refine lv_istore (lv' := [(5, .int (21 : Int32)), (0, .ref (a 0)), (1, .int x1), (2, .int x2), (3, .int x3)]) hx hb dX2_ballast_57 hl (by decide) rfl (fun ls hl => ?_)
    refine lv_bipush (v := (-9 : Int32)) hx hb dX2_ballast_59 (by decide) ?_
    refine lv_istore (lv' := [(6, .int (-9 : Int32)), (5, .int (21 : Int32)), (0, .ref (a 0)), (1, .int x1), (2, .int x2), (3, .int x3)]) hx hb dX2_ballast_61 hl (by decide) rfl (fun ls hl => ?_)
    refine lv_iconst (v := (0 : Int32)) hx hb dX2_ballast_63 (by decide) ?_
    refine lv_istore (lv' := [(7, .int (0 : Int32)), (6, .int (-9 : Int32)), (5, .int (21 : Int32)), (0, .ref (a 0)), (1, .int x1), (2, .int x2), (3, .int x3)]) hx hb dX2_ballast_64 hl (by decide) rfl (fun ls hl => ?_)
    exact b66  N z3 x1 x2 x3 (21 : Int32) (-9 : Int32) (0 : Int32) H locs ls hP hS (lv_sub hl [3, 4, 5, 6, 2, 1, 0] rfl) hf
  unfold fX2_ballast at hf
  refine lv_iload_n hx hb dX2_ballast_0 rfl (lv_at hl 1 rfl) ?_
  refine c_callS (As := [.int p1]) (rest := []) ⟨hx, hb, hml, hown, hts⟩ hf (fun vq hq => mX0_isSide l D cI cJ s.heap.size N p1 vq hq) (va_cwS 1 hts gX2_ballast_X0_isSide rfl rfl rfl qX0_isSide ⟨Nat.le_of_ble_eq_true rfl, Nat.le_of_ble_eq_true rfl⟩) hK hP hS hA va_P_nil rfl hl.1 rfl (Nat.le_of_ble_eq_true rfl) dX2_ballast_1 ⟨Nat.le_refl _, Nat.le_refl _⟩ (fun v1 H locs hP hS hf => ?_)
  refine k_if_ne (tgt := 13) hx hb dX2_ballast_4 (by decide) hf (fun hf => ?_) (fun hf => ?_)
  · refine lv_iload_n hx hb dX2_ballast_13 rfl (lv_at hl 2 rfl) ?_
    refine lv_iconst (v := (0 : Int32)) hx hb dX2_ballast_14 (by decide) ?_
    refine lv_bipush (v := (30 : Int32)) hx hb dX2_ballast_15 (by decide) ?_
    refine c_callS (As := [.int p2, .int (0 : Int32), .int (30 : Int32)]) (rest := []) ⟨hx, hb, hml, hown, hts⟩ hf (fun vq hq => mX2_faultOf l D cI cJ H.size N p2 (0 : Int32) (30 : Int32) vq hq) (va_cwS 3 hts gX2_ballast_X2_faultOf rfl rfl rfl qX2_faultOf ⟨Nat.le_of_ble_eq_true rfl, Nat.le_of_ble_eq_true rfl⟩) hK hP hS hA va_P_nil rfl hl.1 rfl (Nat.le_of_ble_eq_true rfl) dX2_ballast_17 ⟨Nat.le_refl _, Nat.le_refl _⟩ (fun v2 H locs hP hS hf => ?_)
    refine lv_istore (lv' := [(4, .int v2), (0, .ref (a 0)), (1, .int p1), (2, .int p2), (3, .int p3)]) hx hb dX2_ballast_20 hl (by decide) rfl (fun ls hl => ?_)
    refine lv_iload hx hb dX2_ballast_22 (lv_at hl 0 rfl) ?_
    refine k_if_eq (tgt := 34) hx hb dX2_ballast_24 (by decide) hf (fun hf => ?_) (fun hf => ?_)
    · refine lv_iload_n hx hb dX2_ballast_34 rfl (lv_at hl 4 rfl) ?_
      refine k_if_eq (tgt := 50) hx hb dX2_ballast_35 (by decide) hf (fun hf => ?_) (fun hf => ?_)
      · exact b50  σ p1 p2 p3 H locs ls hP hS (lv_sub hl [1, 2, 3, 4] rfl) hf
      · refine lv_iload_n hx hb dX2_ballast_38 rfl (lv_at hl 4 rfl) ?_
        refine lv_iconst (v := (1 : Int32)) hx hb dX2_ballast_39 (by decide) ?_
        refine k_icmp_eq (tgt := 50) hx hb dX2_ballast_40 (by decide) hf (fun hf => ?_) (fun hf => ?_)
        · exact b50  σ p1 p2 p3 H locs ls hP hS (lv_sub hl [1, 2, 3, 4] rfl) hf
        · refine lv_aload_n hx hb dX2_ballast_43 rfl (lv_at hl 1 rfl) ?_
          refine lv_bipush (v := (-2 : Int32)) hx hb dX2_ballast_44 (by decide) ?_
          refine d_callV (As := [.int (-2 : Int32)]) (rest := []) (w := (wHA cI cJ a τ)) (wc := (wHA cI cJ a τ)) (put := (fun uq => uq)) (σ := σ) (τ0 := σ) ⟨hx, hb, hml, hown, hts⟩ hf (fun vq zq hq => mX2_refuse l D cI cJ a H.size N τ σ (-2 : Int32) (vq, zq) hq) (cwV 1 hts gX2_ballast_X2_refuse rfl rfl rfl qX2_refuse ⟨Nat.le_of_ble_eq_true rfl, Nat.le_of_ble_eq_true rfl⟩) hK hP hD hS hA ⟨hP, hD _, fun _ _ _ h => h⟩ 2 rfl rfl rfl rfl hl.1 rfl (Nat.le_of_ble_eq_true rfl) dX2_ballast_46 ⟨Nat.le_refl _, Nat.le_refl _⟩ (fun v9 z8 H locs hP hS hf => ?_)
          exact W_iret (wHA cI cJ a τ) hx hb hr hlk hP hS hAe hf dX2_ballast_49
    · refine lv_aload_n hx hb dX2_ballast_27 rfl (lv_at hl 1 rfl) ?_
      refine lv_iload hx hb dX2_ballast_28 (lv_at hl 0 rfl) ?_
      refine d_callV (As := [.int v2]) (rest := []) (w := (wHA cI cJ a τ)) (wc := (wHA cI cJ a τ)) (put := (fun uq => uq)) (σ := σ) (τ0 := σ) ⟨hx, hb, hml, hown, hts⟩ hf (fun vq zq hq => mX2_refuse l D cI cJ a H.size N τ σ v2 (vq, zq) hq) (cwV 1 hts gX2_ballast_X2_refuse rfl rfl rfl qX2_refuse ⟨Nat.le_of_ble_eq_true rfl, Nat.le_of_ble_eq_true rfl⟩) hK hP hD hS hA ⟨hP, hD _, fun _ _ _ h => h⟩ 2 rfl rfl rfl rfl hl.1 rfl (Nat.le_of_ble_eq_true rfl) dX2_ballast_30 ⟨Nat.le_refl _, Nat.le_refl _⟩ (fun v11 z10 H locs hP hS hf => ?_)
      exact W_iret (wHA cI cJ a τ) hx hb hr hlk hP hS hAe hf dX2_ballast_33
  · refine lv_aload_n hx hb dX2_ballast_7 rfl (lv_at hl 0 rfl) ?_
    refine lv_iconst (v := (-1 : Int32)) hx hb dX2_ballast_8 (by decide) ?_
    refine d_callV (As := [.int (-1 : Int32)]) (rest := []) (w := (wHA cI cJ a τ)) (wc := (wHA cI cJ a τ)) (put := (fun uq => uq)) (σ := σ) (τ0 := σ) ⟨hx, hb, hml, hown, hts⟩ hf (fun vq zq hq => mX2_refuse l D cI cJ a H.size N τ σ (-1 : Int32) (vq, zq) hq) (cwV 1 hts gX2_ballast_X2_refuse rfl rfl rfl qX2_refuse ⟨Nat.le_of_ble_eq_true rfl, Nat.le_of_ble_eq_true rfl⟩) hK hP hD hS hA ⟨hP, hD _, fun _ _ _ h => h⟩ 2 rfl rfl rfl rfl hl.1 rfl (Nat.le_of_ble_eq_true rfl) dX2_ballast_9 ⟨Nat.le_refl _, Nat.le_refl _⟩ (fun v13 z12 H locs hP hS hf => ?_)
    exact W_iret (wHA cI cJ a τ) hx hb hr hlk hP hS hAe hf dX2_ballast_12
def fX2_mustWeigh_L18 (N : Nat)  (z : St) : Option (Int32 × St) :=
    bx (fX2_refuse N z (-1 : Int32)) (fun uq => uq) (fun v3 z2 =>
    some (v3, z2))
def fX2_mustWeigh_L59 (N : Nat)  : Nat → St → Int32 → Int32 → Int32 → Int32 → Option (Int32 × St)
  | 0, _, _, _, _, _ => none
  | n + 1, z, x1, x2, x3, x5 =>
    if (9 : Int32) < x5 then some ((-9 : Int32), z)
    else bo (fX0_kindOf N (sb [1, 2, 3, 4, 5, 6] z) x1) (fun v7 =>
    by_ (fX0_become N (sb [7, 8, 9, 10, 11, 12] z) x1 v7 x5) (fun uq => pb [7, 8, 9, 10, 11, 12] uq z) (fun z8 =>
    bo (fX0_floorAfter N (sb [7, 8, 9, 10, 11, 12] z8) x3) (fun v9 =>
    bo (fX0_heightOf N x2 v9) (fun v10 =>
    bo (fX0_isDoor N (sb [7, 8, 9, 10, 11, 12] z8) v10) (fun v11 =>
    if v11 = 0 then lt_ (x5 + (1 : Int32) : Int32) (fun v12 =>
    (fX2_mustWeigh_L59 N n) z8 x1 x2 x3 v12)
    else some (x5, z8))))))
def fX2_mustWeigh (N : Nat) (σ : St) (p1 : Int32) (p2 : Int32) (p3 : Int32) : Option (Int32 × St) :=
    bo (fX0_has N (sb [1, 2, 3, 4, 5, 6] σ) p1) (fun v1 =>
    if v1 = 0 then fX2_mustWeigh_L18 N  σ
    else bo (fX0_isSide N p2) (fun v4 =>
    if v4 = 0 then fX2_mustWeigh_L18 N  σ
    else bo (fX2_faultOf N p3 (0 : Int32) (30 : Int32)) (fun v5 =>
    if v5 = 0 then by_ (fX0_copy N (sb [7, 8, 9, 10, 11, 12, 1, 2, 3, 4, 5, 6] σ)) (fun uq => pb [7, 8, 9, 10, 11, 12, 1, 2, 3, 4, 5, 6] uq σ) (fun z6 =>
    fX2_mustWeigh_L59 N  N z6 p1 p2 p3 (0 : Int32))
    else bx (fX2_refuse N σ v5) (fun uq => uq) (fun v14 z13 =>
    some (v14, z13)))))
abbrev rmX2_mustWeigh : Room := { frames := 4, cells := 0, slots := 0, locals := 95 }
theorem qX2_mustWeigh : yX2_mustWeigh.cls = RX2 ∧ yX2_mustWeigh.cls ≠ "java/lang/invoke/MethodHandle" ∧ yX2_mustWeigh.cls ≠ "java/lang/invoke/VarHandle" ∧ (parseMethodDescriptor yX2_mustWeigh.desc).map (fun d => d.parameters.length) = some 3 := by decide +kernel
set_option maxHeartbeats 400000 in
set_option maxRecDepth 100000 in
theorem mX2_mustWeigh (l : Launch) (D : va_G) (cI cJ : ClassId) (a : Nat → Nat) (sz N : Nat) (τ : LSt) (σ : St) (p1 : Int32) (p2 : Int32) (p3 : Int32) (r : (Int32 × St)) (hf : fX2_mustWeigh N σ p1 p2 p3 = some r) : Met l yX2_mustWeigh wsX2_mustWeigh rmX2_mustWeigh (WPre ([.ref (a 0), .int p1, .int p2, .int p3] : List Value) sz D (tyIJ cI cJ) (wHA cI cJ a τ σ)) (WQi sz D (wHA cI cJ a τ σ) (wHA cI cJ a τ (r.2)) r.1) 0 0 (va_A (wHA cI cJ a τ σ) sz) := by
  refine W_start (cc := cX2_mustWeigh) (maxL := 6) (ret := (some .int)) (by decide) rfl (Nat.le_of_ble_eq_true rfl) (fun p e s m below meth c ls A hx hb hr hml hown hts hlk hP hK hS hA hD0 hAe hl => ?_)
  have hD : ∀ z, va_D A ((wHA cI cJ a τ) z) := fun z => hD0.ad rfl
  have hown : s.vm.findClass RX2 = some m.cls := hown
  have hl : lv_has ls 6 [(0, .ref (a 0)), (1, .int p1), (2, .int p2), (3, .int p3)] := hl
  have ln1 := hts (Cond.fieldLink RX2 10 "HoistsAreShared" "now" "LHoistsAreShared$Hoist;") (List.mem_of_getElem? (i := 1) rfl)
  have inX2 : ∀ w ∈ u_ws RX2 TX2 14, w ∈ wsX2_mustWeigh := fun _ h => List.mem_cons_of_mem _ (List.mem_append_left _ (List.mem_append_right _ h))
  have ln3 := hts (Cond.fieldLink RX2 16 "HoistsAreShared" "mind" "LHoistsAreShared$Hoist;") (List.mem_of_getElem? (i := 2) rfl)
  have b18 : ∀  (z : St) (H : Heap) (locs : List Loc) (ls : Array Slot), va_P D vwCl (wHA cI cJ a τ z) H → va_S A s.heap H locs → lv_has ls 6 [(0, .ref (a 0))] → fX2_mustWeigh_L18 N z = some r → W p l e rmX2_mustWeigh s m ([.ref (a 0), .int p1, .int p2, .int p3] : List Value).toArray below meth c H locs 0 0 (MQ below (WQi sz D (wHA cI cJ a τ σ) (wHA cI cJ a τ (r.2)) r.1) ([.ref (a 0), .int p1, .int p2, .int p3] : List Value).toArray s 0 0 A) (F0 m 18 ls []) := by
    intro  z H locs ls hP hS hl hf
    unfold fX2_mustWeigh_L18 at hf
    refine lv_aload_n hx hb dX2_mustWeigh_18 rfl (lv_at hl 0 rfl) ?_
    refine lv_iconst (v := (-1 : Int32)) hx hb dX2_mustWeigh_19 (by decide) ?_
    refine d_callV (As := [.int (-1 : Int32)]) (rest := []) (w := (wHA cI cJ a τ)) (wc := (wHA cI cJ a τ)) (put := (fun uq => uq)) (σ := z) (τ0 := z) ⟨hx, hb, hml, hown, hts⟩ hf (fun vq zq hq => mX2_refuse l D cI cJ a H.size N τ z (-1 : Int32) (vq, zq) hq) (cwV 1 hts gX2_mustWeigh_X2_refuse rfl rfl rfl qX2_refuse ⟨Nat.le_of_ble_eq_true rfl, Nat.le_of_ble_eq_true rfl⟩) hK hP hD hS hA ⟨hP, hD _, fun _ _ _ h => h⟩ 2 rfl rfl rfl rfl hl.1 rfl (Nat.le_of_ble_eq_true rfl) dX2_mustWeigh_20 ⟨Nat.le_refl _, Nat.le_refl _⟩ (fun v3 z2 H locs hP hS hf => ?_)
    exact W_iret (wHA cI cJ a τ) hx hb hr hlk hP hS hAe hf dX2_mustWeigh_23
  have b59 : ∀  (n : Nat) (z : St) (x1 : Int32) (x2 : Int32) (x3 : Int32) (x5 : Int32) (H : Heap) (locs : List Loc) (ls : Array Slot), va_P D vwCl (wHA cI cJ a τ z) H → va_S A s.heap H locs → lv_has ls 6 [(0, .ref (a 0)), (1, .int x1), (2, .int x2), (3, .int x3), (5, .int x5)] → fX2_mustWeigh_L59 N n z x1 x2 x3 x5 = some r → W p l e rmX2_mustWeigh s m ([.ref (a 0), .int p1, .int p2, .int p3] : List Value).toArray below meth c H locs 0 0 (MQ below (WQi sz D (wHA cI cJ a τ σ) (wHA cI cJ a τ (r.2)) r.1) ([.ref (a 0), .int p1, .int p2, .int p3] : List Value).toArray s 0 0 A) (F0 m 59 ls []) := by
    intro n
    induction n with
    | zero => intro z x1 x2 x3 x5 H locs ls hP hS hl hf; cases hf
    | succ n ih =>
      intro z x1 x2 x3 x5 H locs ls hP hS hl hf
      rw [fX2_mustWeigh_L59] at hf
      refine lv_iload hx hb dX2_mustWeigh_59 (lv_at hl 4 rfl) ?_
      refine lv_bipush (v := (9 : Int32)) hx hb dX2_mustWeigh_61 (by decide) ?_
      refine k_icmp_gt (tgt := 115) hx hb dX2_mustWeigh_63 (by decide) hf (fun hf => ?_) (fun hf => ?_)
      · refine lv_bipush (v := (-9 : Int32)) hx hb dX2_mustWeigh_115 (by decide) ?_
        exact W_iret (wHA cI cJ a τ) hx hb hr hlk hP hS hAe hf dX2_mustWeigh_117
      · refine lv_aload_n hx hb dX2_mustWeigh_66 rfl (lv_at hl 0 rfl) ?_
        refine va_get (D := D) (ci := 2) (v := .ref (a 7)) (C := RX2) (T := TX2) (N := 14) hx hb hts inX2 hown hK hP 0 rfl rfl 1 (by decide) ln3 (fun _ h9 => h9) rfl dX2_mustWeigh_67 ?_
        refine lv_iload_n hx hb dX2_mustWeigh_70 rfl (lv_at hl 1 rfl) ?_
        refine lv_aload_n hx hb dX2_mustWeigh_71 rfl (lv_at hl 0 rfl) ?_
        refine va_get (D := D) (ci := 2) (v := .ref (a 1)) (C := RX2) (T := TX2) (N := 14) hx hb hts inX2 hown hK hP 0 rfl rfl 0 (by decide) ln1 (fun _ h9 => h9) rfl dX2_mustWeigh_72 ?_
        refine lv_iload_n hx hb dX2_mustWeigh_75 rfl (lv_at hl 1 rfl) ?_
        refine c_callV (As := [.int x1]) (rest := [.int x1, .ref (a 7)]) ⟨hx, hb, hml, hown, hts⟩ hf (fun vq hq => mX0_kindOf l D cI cJ (sb [1, 2, 3, 4, 5, 6] a) H.size N (sb [1, 2, 3, 4, 5, 6] z) x1 vq hq) (cwV 1 hts gX2_mustWeigh_X0_kindOf rfl rfl rfl qX0_kindOf ⟨Nat.le_of_ble_eq_true rfl, Nat.le_of_ble_eq_true rfl⟩) hK hP hS hA (cmr_HA_Ho_1_2_3_4_5_6 D cI cJ a τ z hP) 0 rfl rfl rfl rfl hl.1 rfl (Nat.le_of_ble_eq_true rfl) dX2_mustWeigh_76 ⟨Nat.le_refl _, Nat.le_refl _⟩ (fun v7 H locs hP hS hf => ?_)
        refine lv_iload hx hb dX2_mustWeigh_79 (lv_at hl 4 rfl) ?_
        refine d_callVv (As := [.int x1, .int v7, .int x5]) (rest := []) (w := (wHA cI cJ a τ)) (wc := (wHo cI (sb [7, 8, 9, 10, 11, 12] a))) (put := (fun uq => pb [7, 8, 9, 10, 11, 12] uq z)) (σ := z) (τ0 := (sb [7, 8, 9, 10, 11, 12] z)) ⟨hx, hb, hml, hown, hts⟩ hf (fun zq hq => mX0_become l D cI cJ (sb [7, 8, 9, 10, 11, 12] a) H.size N (sb [7, 8, 9, 10, 11, 12] z) x1 v7 x5 zq hq) (cwV 3 hts gX2_mustWeigh_X0_become rfl rfl rfl qX0_become ⟨Nat.le_of_ble_eq_true rfl, Nat.le_of_ble_eq_true rfl⟩) hK hP hD hS hA (cmb_HA_Ho_7_8_9_10_11_12 D cI cJ a τ z hP (hD _)) 0 rfl rfl rfl rfl hl.1 rfl (Nat.le_of_ble_eq_true rfl) dX2_mustWeigh_81 ⟨Nat.le_refl _, Nat.le_refl _⟩ (fun z8 H locs hP hS hf => ?_)
        refine lv_aload_n hx hb dX2_mustWeigh_84 rfl (lv_at hl 0 rfl) ?_
        refine va_get (D := D) (ci := 2) (v := .ref (a 7)) (C := RX2) (T := TX2) (N := 14) hx hb hts inX2 hown hK hP 0 rfl rfl 1 (by decide) ln3 (fun _ h9 => h9) rfl dX2_mustWeigh_85 ?_
        refine lv_iload_n hx hb dX2_mustWeigh_88 rfl (lv_at hl 2 rfl) ?_
        refine lv_aload_n hx hb dX2_mustWeigh_89 rfl (lv_at hl 0 rfl) ?_
        refine va_get (D := D) (ci := 2) (v := .ref (a 7)) (C := RX2) (T := TX2) (N := 14) hx hb hts inX2 hown hK hP 0 rfl rfl 1 (by decide) ln3 (fun _ h9 => h9) rfl dX2_mustWeigh_90 ?_
        refine lv_iload_n hx hb dX2_mustWeigh_93 rfl (lv_at hl 3 rfl) ?_
        refine c_callV (As := [.int x3]) (rest := [.int x2, .ref (a 7)]) ⟨hx, hb, hml, hown, hts⟩ hf (fun vq hq => mX0_floorAfter l D cI cJ (sb [7, 8, 9, 10, 11, 12] a) H.size N (sb [7, 8, 9, 10, 11, 12] z8) x3 vq hq) (cwV 1 hts gX2_mustWeigh_X0_floorAfter rfl rfl rfl qX0_floorAfter ⟨Nat.le_of_ble_eq_true rfl, Nat.le_of_ble_eq_true rfl⟩) hK hP hS hA (cmr_HA_Ho_7_8_9_10_11_12 D cI cJ a τ z8 hP) 0 rfl rfl rfl rfl hl.1 rfl (Nat.le_of_ble_eq_true rfl) dX2_mustWeigh_94 ⟨Nat.le_refl _, Nat.le_refl _⟩ (fun v9 H locs hP hS hf => ?_)
        refine c_callS (As := [.int x2, .int v9]) (rest := [.ref (a 7)]) ⟨hx, hb, hml, hown, hts⟩ hf (fun vq hq => mX0_heightOf l D cI cJ H.size N x2 v9 vq hq) (va_cwS 2 hts gX2_mustWeigh_X0_heightOf rfl rfl rfl qX0_heightOf ⟨Nat.le_of_ble_eq_true rfl, Nat.le_of_ble_eq_true rfl⟩) hK hP hS hA va_P_nil rfl hl.1 rfl (Nat.le_of_ble_eq_true rfl) dX2_mustWeigh_97 ⟨Nat.le_refl _, Nat.le_refl _⟩ (fun v10 H locs hP hS hf => ?_)
        refine c_callV (As := [.int v10]) (rest := []) ⟨hx, hb, hml, hown, hts⟩ hf (fun vq hq => mX0_isDoor l D cI cJ (sb [7, 8, 9, 10, 11, 12] a) H.size N (sb [7, 8, 9, 10, 11, 12] z8) v10 vq hq) (cwV 1 hts gX2_mustWeigh_X0_isDoor rfl rfl rfl qX0_isDoor ⟨Nat.le_of_ble_eq_true rfl, Nat.le_of_ble_eq_true rfl⟩) hK hP hS hA (cmr_HA_Ho_7_8_9_10_11_12 D cI cJ a τ z8 hP) 0 rfl rfl rfl rfl hl.1 rfl (Nat.le_of_ble_eq_true rfl) dX2_mustWeigh_100 ⟨Nat.le_refl _, Nat.le_refl _⟩ (fun v11 H locs hP hS hf => ?_)
        refine k_if_eq (tgt := 109) hx hb dX2_mustWeigh_103 (by decide) hf (fun hf => ?_) (fun hf => ?_)
        · refine k_iinc (d := (1 : Int32)) (lv' := fun v12 => [(5, .int v12), (0, .ref (a 0)), (1, .int x1), (2, .int x2), (3, .int x3)]) hx hb dX2_mustWeigh_109 hl (k := 4) rfl (by decide) (by decide) (fun _ => rfl) hf (fun v12 ls hl hf => ?_)
          refine lv_goto (tgt := 59) hx hb dX2_mustWeigh_112 (by decide) ?_
          exact ih z8 x1 x2 x3 v12 H locs ls hP hS (lv_sub hl [1, 2, 3, 4, 0] rfl) hf
        · refine lv_iload hx hb dX2_mustWeigh_106 (lv_at hl 4 rfl) ?_
          exact W_iret (wHA cI cJ a τ) hx hb hr hlk hP hS hAe hf dX2_mustWeigh_108
  unfold fX2_mustWeigh at hf
  refine lv_aload_n hx hb dX2_mustWeigh_0 rfl (lv_at hl 0 rfl) ?_
  refine va_get (D := D) (ci := 2) (v := .ref (a 1)) (C := RX2) (T := TX2) (N := 14) hx hb hts inX2 hown hK hP 0 rfl rfl 0 (by decide) ln1 (fun _ h9 => h9) rfl dX2_mustWeigh_1 ?_
  refine lv_iload_n hx hb dX2_mustWeigh_4 rfl (lv_at hl 1 rfl) ?_
  refine c_callV (As := [.int p1]) (rest := []) ⟨hx, hb, hml, hown, hts⟩ hf (fun vq hq => mX0_has l D cI cJ (sb [1, 2, 3, 4, 5, 6] a) s.heap.size N (sb [1, 2, 3, 4, 5, 6] σ) p1 vq hq) (cwV 1 hts gX2_mustWeigh_X0_has rfl rfl rfl qX0_has ⟨Nat.le_of_ble_eq_true rfl, Nat.le_of_ble_eq_true rfl⟩) hK hP hS hA (cmr_HA_Ho_1_2_3_4_5_6 D cI cJ a τ σ hP) 0 rfl rfl rfl rfl hl.1 rfl (Nat.le_of_ble_eq_true rfl) dX2_mustWeigh_5 ⟨Nat.le_refl _, Nat.le_refl _⟩ (fun v1 H locs hP hS hf => ?_)
  refine k_if_eq (tgt := 18) hx hb dX2_mustWeigh_8 (by decide) hf (fun hf => ?_) (fun hf => ?_)
  · exact b18  σ H locs ls hP hS (lv_sub hl [0] rfl) hf
  · refine lv_iload_n hx hb dX2_mustWeigh_11 rfl (lv_at hl 2 rfl) ?_
    refine c_callS (As := [.int p2]) (rest := []) ⟨hx, hb, hml, hown, hts⟩ hf (fun vq hq => mX0_isSide l D cI cJ H.size N p2 vq hq) (va_cwS 1 hts gX2_mustWeigh_X0_isSide rfl rfl rfl qX0_isSide ⟨Nat.le_of_ble_eq_true rfl, Nat.le_of_ble_eq_true rfl⟩) hK hP hS hA va_P_nil rfl hl.1 rfl (Nat.le_of_ble_eq_true rfl) dX2_mustWeigh_12 ⟨Nat.le_refl _, Nat.le_refl _⟩ (fun v4 H locs hP hS hf => ?_)
    refine k_if_ne (tgt := 24) hx hb dX2_mustWeigh_15 (by decide) hf (fun hf => ?_) (fun hf => ?_)
    · refine lv_iload_n hx hb dX2_mustWeigh_24 rfl (lv_at hl 3 rfl) ?_
      refine lv_iconst (v := (0 : Int32)) hx hb dX2_mustWeigh_25 (by decide) ?_
      refine lv_bipush (v := (30 : Int32)) hx hb dX2_mustWeigh_26 (by decide) ?_
      refine c_callS (As := [.int p3, .int (0 : Int32), .int (30 : Int32)]) (rest := []) ⟨hx, hb, hml, hown, hts⟩ hf (fun vq hq => mX2_faultOf l D cI cJ H.size N p3 (0 : Int32) (30 : Int32) vq hq) (va_cwS 3 hts gX2_mustWeigh_X2_faultOf rfl rfl rfl qX2_faultOf ⟨Nat.le_of_ble_eq_true rfl, Nat.le_of_ble_eq_true rfl⟩) hK hP hS hA va_P_nil rfl hl.1 rfl (Nat.le_of_ble_eq_true rfl) dX2_mustWeigh_28 ⟨Nat.le_refl _, Nat.le_refl _⟩ (fun v5 H locs hP hS hf => ?_)
      refine lv_istore (lv' := [(4, .int v5), (0, .ref (a 0)), (1, .int p1), (2, .int p2), (3, .int p3)]) hx hb dX2_mustWeigh_31 hl (by decide) rfl (fun ls hl => ?_)
      refine lv_iload hx hb dX2_mustWeigh_33 (lv_at hl 0 rfl) ?_
      refine k_if_eq (tgt := 45) hx hb dX2_mustWeigh_35 (by decide) hf (fun hf => ?_) (fun hf => ?_)
      · refine lv_aload_n hx hb dX2_mustWeigh_45 rfl (lv_at hl 1 rfl) ?_
        refine va_get (D := D) (ci := 2) (v := .ref (a 7)) (C := RX2) (T := TX2) (N := 14) hx hb hts inX2 hown hK hP 0 rfl rfl 1 (by decide) ln3 (fun _ h9 => h9) rfl dX2_mustWeigh_46 ?_
        refine lv_aload_n hx hb dX2_mustWeigh_49 rfl (lv_at hl 1 rfl) ?_
        refine va_get (D := D) (ci := 2) (v := .ref (a 1)) (C := RX2) (T := TX2) (N := 14) hx hb hts inX2 hown hK hP 0 rfl rfl 0 (by decide) ln1 (fun _ h9 => h9) rfl dX2_mustWeigh_50 ?_
        refine d_callVv (As := [.ref ((sb [7, 8, 9, 10, 11, 12, 1, 2, 3, 4, 5, 6] a) 6)]) (rest := []) (w := (wHA cI cJ a τ)) (wc := (wHo2 cI (sb [7, 8, 9, 10, 11, 12, 1, 2, 3, 4, 5, 6] a))) (put := (fun uq => pb [7, 8, 9, 10, 11, 12, 1, 2, 3, 4, 5, 6] uq σ)) (σ := σ) (τ0 := (sb [7, 8, 9, 10, 11, 12, 1, 2, 3, 4, 5, 6] σ)) ⟨hx, hb, hml, hown, hts⟩ hf (fun zq hq => mX0_copy l D cI cJ (sb [7, 8, 9, 10, 11, 12, 1, 2, 3, 4, 5, 6] a) H.size N (sb [7, 8, 9, 10, 11, 12, 1, 2, 3, 4, 5, 6] σ) zq hq) (cwV 1 hts gX2_mustWeigh_X0_copy rfl rfl rfl qX0_copy ⟨Nat.le_of_ble_eq_true rfl, Nat.le_of_ble_eq_true rfl⟩) hK hP hD hS hA (cmb_HA_Ho2_7_8_9_10_11_12_1_2_3_4_5_6 D cI cJ a τ σ hP (hD _)) 0 rfl rfl rfl rfl hl.1 rfl (Nat.le_of_ble_eq_true rfl) dX2_mustWeigh_53 ⟨Nat.le_refl _, Nat.le_refl _⟩ (fun z6 H locs hP hS hf => ?_)
        refine lv_iconst (v := (0 : Int32)) hx hb dX2_mustWeigh_56 (by decide) ?_
        refine lv_istore (lv' := [(5, .int (0 : Int32)), (4, .int v5), (0, .ref (a 0)), (1, .int p1), (2, .int p2), (3, .int p3)]) hx hb dX2_mustWeigh_57 hl (by decide) rfl (fun ls hl => ?_)
        exact b59  N z6 p1 p2 p3 (0 : Int32) H locs ls hP hS (lv_sub hl [2, 3, 4, 5, 0] rfl) hf
      · refine lv_aload_n hx hb dX2_mustWeigh_38 rfl (lv_at hl 1 rfl) ?_
        refine lv_iload hx hb dX2_mustWeigh_39 (lv_at hl 0 rfl) ?_
        refine d_callV (As := [.int v5]) (rest := []) (w := (wHA cI cJ a τ)) (wc := (wHA cI cJ a τ)) (put := (fun uq => uq)) (σ := σ) (τ0 := σ) ⟨hx, hb, hml, hown, hts⟩ hf (fun vq zq hq => mX2_refuse l D cI cJ a H.size N τ σ v5 (vq, zq) hq) (cwV 1 hts gX2_mustWeigh_X2_refuse rfl rfl rfl qX2_refuse ⟨Nat.le_of_ble_eq_true rfl, Nat.le_of_ble_eq_true rfl⟩) hK hP hD hS hA ⟨hP, hD _, fun _ _ _ h => h⟩ 2 rfl rfl rfl rfl hl.1 rfl (Nat.le_of_ble_eq_true rfl) dX2_mustWeigh_41 ⟨Nat.le_refl _, Nat.le_refl _⟩ (fun v14 z13 H locs hP hS hf => ?_)
        exact W_iret (wHA cI cJ a τ) hx hb hr hlk hP hS hAe hf dX2_mustWeigh_44
    · exact b18  σ H locs ls hP hS (lv_sub hl [0] rfl) hf
def fX2_bestKind_L126 (N : Nat) (k76 : St → Int32 → Int32 → Int32 → Int32 → Int32 → Int32 → Option (Int32 × St)) (z : St) (x1 : Int32) (x2 : Int32) (x3 : Int32) (x5 : Int32) (x6 : Int32) (x7 : Int32) : Option (Int32 × St) :=
    lt_ (x7 + (1 : Int32) : Int32) (fun v7 =>
    k76 z x1 x2 x3 x5 x6 v7)
def fX2_bestKind_L76 (N : Nat)  : Nat → St → Int32 → Int32 → Int32 → Int32 → Int32 → Int32 → Option (Int32 × St)
  | 0, _, _, _, _, _, _, _ => none
  | n + 1, z, x1, x2, x3, x5, x6, x7 =>
    if (6 : Int32) ≤ x7 then if x3 = 0 then some (x6, z)
    else some (x5, z)
    else bo (fX0_figureOf N (sb [1, 2, 3, 4, 5, 6] z) x1) (fun v4 =>
    by_ (fX0_become N (sb [7, 8, 9, 10, 11, 12] z) x1 x7 v4) (fun uq => pb [7, 8, 9, 10, 11, 12] uq z) (fun z5 =>
    bo (fX0_apartAfter N (sb [7, 8, 9, 10, 11, 12] z5) x2) (fun v6 =>
    if x5 ≤ v6 then fX2_bestKind_L126 N (fX2_bestKind_L76 N n) z5 x1 x2 x3 x5 x6 x7
    else fX2_bestKind_L126 N (fX2_bestKind_L76 N n) z5 x1 x2 x3 v6 x7 x7)))
def fX2_bestKind_L54 (N : Nat)  (z : St) (x1 : Int32) (x2 : Int32) (x3 : Int32) : Option (Int32 × St) :=
    by_ (fX0_copy N (sb [7, 8, 9, 10, 11, 12, 1, 2, 3, 4, 5, 6] z)) (fun uq => pb [7, 8, 9, 10, 11, 12, 1, 2, 3, 4, 5, 6] uq z) (fun z3 =>
    fX2_bestKind_L76 N  N z3 x1 x2 x3 (21 : Int32) (-9 : Int32) (0 : Int32))
def fX2_bestKind (N : Nat) (σ : St) (p1 : Int32) (p2 : Int32) (p3 : Int32) : Option (Int32 × St) :=
    bo (fX0_has N (sb [1, 2, 3, 4, 5, 6] σ) p1) (fun v1 =>
    if v1 = 0 then bx (fX2_refuse N σ (-1 : Int32)) (fun uq => uq) (fun v13 z12 =>
    some (v13, z12))
    else bo (fX2_faultOf N p2 (0 : Int32) (30 : Int32)) (fun v2 =>
    if v2 = 0 then if p3 = 0 then fX2_bestKind_L54 N  σ p1 p2 p3
    else if p3 = (1 : Int32) then fX2_bestKind_L54 N  σ p1 p2 p3
    else bx (fX2_refuse N σ (-2 : Int32)) (fun uq => uq) (fun v9 z8 =>
    some (v9, z8))
    else bx (fX2_refuse N σ v2) (fun uq => uq) (fun v11 z10 =>
    some (v11, z10))))
abbrev rmX2_bestKind : Room := { frames := 5, cells := 0, slots := 0, locals := 116 }
theorem qX2_bestKind : yX2_bestKind.cls = RX2 ∧ yX2_bestKind.cls ≠ "java/lang/invoke/MethodHandle" ∧ yX2_bestKind.cls ≠ "java/lang/invoke/VarHandle" ∧ (parseMethodDescriptor yX2_bestKind.desc).map (fun d => d.parameters.length) = some 3 := by decide +kernel
set_option maxHeartbeats 400000 in
set_option maxRecDepth 100000 in
theorem mX2_bestKind (l : Launch) (D : va_G) (cI cJ : ClassId) (a : Nat → Nat) (sz N : Nat) (τ : LSt) (σ : St) (p1 : Int32) (p2 : Int32) (p3 : Int32) (r : (Int32 × St)) (hf : fX2_bestKind N σ p1 p2 p3 = some r) : Met l yX2_bestKind wsX2_bestKind rmX2_bestKind (WPre ([.ref (a 0), .int p1, .int p2, .int p3] : List Value) sz D (tyIJ cI cJ) (wHA cI cJ a τ σ)) (WQi sz D (wHA cI cJ a τ σ) (wHA cI cJ a τ (r.2)) r.1) 0 0 (va_A (wHA cI cJ a τ σ) sz) := by
  refine W_start (cc := cX2_bestKind) (maxL := 9) (ret := (some .int)) (by decide) rfl (Nat.le_of_ble_eq_true rfl) (fun p e s m below meth c ls A hx hb hr hml hown hts hlk hP hK hS hA hD0 hAe hl => ?_)
  have hD : ∀ z, va_D A ((wHA cI cJ a τ) z) := fun z => hD0.ad rfl
  have hown : s.vm.findClass RX2 = some m.cls := hown
  have hl : lv_has ls 9 [(0, .ref (a 0)), (1, .int p1), (2, .int p2), (3, .int p3)] := hl
  have ln1 := hts (Cond.fieldLink RX2 10 "HoistsAreShared" "now" "LHoistsAreShared$Hoist;") (List.mem_of_getElem? (i := 1) rfl)
  have inX2 : ∀ w ∈ u_ws RX2 TX2 14, w ∈ wsX2_bestKind := fun _ h => List.mem_cons_of_mem _ (List.mem_append_left _ (List.mem_append_right _ h))
  have ln3 := hts (Cond.fieldLink RX2 16 "HoistsAreShared" "mind" "LHoistsAreShared$Hoist;") (List.mem_of_getElem? (i := 2) rfl)
  have b126 : ∀ (k76 : St → Int32 → Int32 → Int32 → Int32 → Int32 → Int32 → Option (Int32 × St)) (hk76 : (∀ (z : St) (x1 : Int32) (x2 : Int32) (x3 : Int32) (x5 : Int32) (x6 : Int32) (x7 : Int32) (H : Heap) (locs : List Loc) (ls : Array Slot), va_P D vwCl (wHA cI cJ a τ z) H → va_S A s.heap H locs → lv_has ls 9 [(0, .ref (a 0)), (1, .int x1), (2, .int x2), (3, .int x3), (5, .int x5), (6, .int x6), (7, .int x7)] → k76 z x1 x2 x3 x5 x6 x7 = some r → W p l e rmX2_bestKind s m ([.ref (a 0), .int p1, .int p2, .int p3] : List Value).toArray below meth c H locs 0 0 (MQ below (WQi sz D (wHA cI cJ a τ σ) (wHA cI cJ a τ (r.2)) r.1) ([.ref (a 0), .int p1, .int p2, .int p3] : List Value).toArray s 0 0 A) (F0 m 76 ls []))) (z : St) (x1 : Int32) (x2 : Int32) (x3 : Int32) (x5 : Int32) (x6 : Int32) (x7 : Int32) (H : Heap) (locs : List Loc) (ls : Array Slot), va_P D vwCl (wHA cI cJ a τ z) H → va_S A s.heap H locs → lv_has ls 9 [(0, .ref (a 0)), (1, .int x1), (2, .int x2), (3, .int x3), (5, .int x5), (6, .int x6), (7, .int x7)] → fX2_bestKind_L126 N k76 z x1 x2 x3 x5 x6 x7 = some r → W p l e rmX2_bestKind s m ([.ref (a 0), .int p1, .int p2, .int p3] : List Value).toArray below meth c H locs 0 0 (MQ below (WQi sz D (wHA cI cJ a τ σ) (wHA cI cJ a τ (r.2)) r.1) ([.ref (a 0), .int p1, .int p2, .int p3] : List Value).toArray s 0 0 A) (F0 m 126 ls []) := by
    intro k76 hk76 z x1 x2 x3 x5 x6 x7 H locs ls hP hS hl hf
    unfold fX2_bestKind_L126 at hf
    refine k_iinc (d := (1 : Int32)) (lv' := fun v7 => [(7, .int v7), (0, .ref (a 0)), (1, .int x1), (2, .int x2), (3, .int x3), (5, .int x5), (6, .int x6)]) hx hb dX2_bestKind_126 hl (k := 6) rfl (by decide) (by decide) (fun _ => rfl) hf (fun v7 ls hl hf => ?_)
    refine lv_goto (tgt := 76) hx hb dX2_bestKind_129 (by decide) ?_
    exact hk76 z x1 x2 x3 x5 x6 v7 H locs ls hP hS (lv_sub hl [1, 2, 3, 4, 5, 6, 0] rfl) hf
  have b76 : ∀  (n : Nat) (z : St) (x1 : Int32) (x2 : Int32) (x3 : Int32) (x5 : Int32) (x6 : Int32) (x7 : Int32) (H : Heap) (locs : List Loc) (ls : Array Slot), va_P D vwCl (wHA cI cJ a τ z) H → va_S A s.heap H locs → lv_has ls 9 [(0, .ref (a 0)), (1, .int x1), (2, .int x2), (3, .int x3), (5, .int x5), (6, .int x6), (7, .int x7)] → fX2_bestKind_L76 N n z x1 x2 x3 x5 x6 x7 = some r → W p l e rmX2_bestKind s m ([.ref (a 0), .int p1, .int p2, .int p3] : List Value).toArray below meth c H locs 0 0 (MQ below (WQi sz D (wHA cI cJ a τ σ) (wHA cI cJ a τ (r.2)) r.1) ([.ref (a 0), .int p1, .int p2, .int p3] : List Value).toArray s 0 0 A) (F0 m 76 ls []) := by
    intro n
    induction n with
    | zero => intro z x1 x2 x3 x5 x6 x7 H locs ls hP hS hl hf; cases hf
    | succ n ih =>
      intro z x1 x2 x3 x5 x6 x7 H locs ls hP hS hl hf
      rw [fX2_bestKind_L76] at hf
      refine lv_iload hx hb dX2_bestKind_76 (lv_at hl 6 rfl) ?_
      refine lv_bipush (v := (6 : Int32)) hx hb dX2_bestKind_78 (by decide) ?_
      refine k_icmp_ge (tgt := 132) hx hb dX2_bestKind_80 (by decide) hf (fun hf => ?_) (fun hf => ?_)
      · refine lv_iload_n hx hb dX2_bestKind_132 rfl (lv_at hl 3 rfl) ?_
        refine k_if_ne (tgt := 141) hx hb dX2_bestKind_133 (by decide) hf (fun hf => ?_) (fun hf => ?_)
        · refine lv_iload hx hb dX2_bestKind_141 (lv_at hl 4 rfl) ?_
          exact W_iret (wHA cI cJ a τ) hx hb hr hlk hP hS hAe hf dX2_bestKind_143
        · refine lv_iload hx hb dX2_bestKind_136 (lv_at hl 5 rfl) ?_
          refine lv_goto (tgt := 143) hx hb dX2_bestKind_138 (by decide) ?_
          exact W_iret (wHA cI cJ a τ) hx hb hr hlk hP hS hAe hf dX2_bestKind_143
      · refine lv_aload_n hx hb dX2_bestKind_83 rfl (lv_at hl 0 rfl) ?_
        refine va_get (D := D) (ci := 2) (v := .ref (a 7)) (C := RX2) (T := TX2) (N := 14) hx hb hts inX2 hown hK hP 0 rfl rfl 1 (by decide) ln3 (fun _ h9 => h9) rfl dX2_bestKind_84 ?_
        refine lv_iload_n hx hb dX2_bestKind_87 rfl (lv_at hl 1 rfl) ?_
        refine lv_iload hx hb dX2_bestKind_88 (lv_at hl 6 rfl) ?_
        refine lv_aload_n hx hb dX2_bestKind_90 rfl (lv_at hl 0 rfl) ?_
        refine va_get (D := D) (ci := 2) (v := .ref (a 1)) (C := RX2) (T := TX2) (N := 14) hx hb hts inX2 hown hK hP 0 rfl rfl 0 (by decide) ln1 (fun _ h9 => h9) rfl dX2_bestKind_91 ?_
        refine lv_iload_n hx hb dX2_bestKind_94 rfl (lv_at hl 1 rfl) ?_
        refine c_callV (As := [.int x1]) (rest := [.int x7, .int x1, .ref (a 7)]) ⟨hx, hb, hml, hown, hts⟩ hf (fun vq hq => mX0_figureOf l D cI cJ (sb [1, 2, 3, 4, 5, 6] a) H.size N (sb [1, 2, 3, 4, 5, 6] z) x1 vq hq) (cwV 1 hts gX2_bestKind_X0_figureOf rfl rfl rfl qX0_figureOf ⟨Nat.le_of_ble_eq_true rfl, Nat.le_of_ble_eq_true rfl⟩) hK hP hS hA (cmr_HA_Ho_1_2_3_4_5_6 D cI cJ a τ z hP) 0 rfl rfl rfl rfl hl.1 rfl (Nat.le_of_ble_eq_true rfl) dX2_bestKind_95 ⟨Nat.le_refl _, Nat.le_refl _⟩ (fun v4 H locs hP hS hf => ?_)
        refine d_callVv (As := [.int x1, .int x7, .int v4]) (rest := []) (w := (wHA cI cJ a τ)) (wc := (wHo cI (sb [7, 8, 9, 10, 11, 12] a))) (put := (fun uq => pb [7, 8, 9, 10, 11, 12] uq z)) (σ := z) (τ0 := (sb [7, 8, 9, 10, 11, 12] z)) ⟨hx, hb, hml, hown, hts⟩ hf (fun zq hq => mX0_become l D cI cJ (sb [7, 8, 9, 10, 11, 12] a) H.size N (sb [7, 8, 9, 10, 11, 12] z) x1 x7 v4 zq hq) (cwV 3 hts gX2_bestKind_X0_become rfl rfl rfl qX0_become ⟨Nat.le_of_ble_eq_true rfl, Nat.le_of_ble_eq_true rfl⟩) hK hP hD hS hA (cmb_HA_Ho_7_8_9_10_11_12 D cI cJ a τ z hP (hD _)) 0 rfl rfl rfl rfl hl.1 rfl (Nat.le_of_ble_eq_true rfl) dX2_bestKind_98 ⟨Nat.le_refl _, Nat.le_refl _⟩ (fun z5 H locs hP hS hf => ?_)
        refine lv_aload_n hx hb dX2_bestKind_101 rfl (lv_at hl 0 rfl) ?_
        refine va_get (D := D) (ci := 2) (v := .ref (a 7)) (C := RX2) (T := TX2) (N := 14) hx hb hts inX2 hown hK hP 0 rfl rfl 1 (by decide) ln3 (fun _ h9 => h9) rfl dX2_bestKind_102 ?_
        refine lv_iload_n hx hb dX2_bestKind_105 rfl (lv_at hl 2 rfl) ?_
        refine c_callV (As := [.int x2]) (rest := []) ⟨hx, hb, hml, hown, hts⟩ hf (fun vq hq => mX0_apartAfter l D cI cJ (sb [7, 8, 9, 10, 11, 12] a) H.size N (sb [7, 8, 9, 10, 11, 12] z5) x2 vq hq) (cwV 1 hts gX2_bestKind_X0_apartAfter rfl rfl rfl qX0_apartAfter ⟨Nat.le_of_ble_eq_true rfl, Nat.le_of_ble_eq_true rfl⟩) hK hP hS hA (cmr_HA_Ho_7_8_9_10_11_12 D cI cJ a τ z5 hP) 0 rfl rfl rfl rfl hl.1 rfl (Nat.le_of_ble_eq_true rfl) dX2_bestKind_106 ⟨Nat.le_refl _, Nat.le_refl _⟩ (fun v6 H locs hP hS hf => ?_)
        refine lv_istore (lv' := [(8, .int v6), (0, .ref (a 0)), (1, .int x1), (2, .int x2), (3, .int x3), (5, .int x5), (6, .int x6), (7, .int x7)]) hx hb dX2_bestKind_109 hl (by decide) rfl (fun ls hl => ?_)
        refine lv_iload hx hb dX2_bestKind_111 (lv_at hl 0 rfl) ?_
        refine lv_iload hx hb dX2_bestKind_113 (lv_at hl 5 rfl) ?_
        refine k_icmp_ge (tgt := 126) hx hb dX2_bestKind_115 (by decide) hf (fun hf => ?_) (fun hf => ?_)
        · exact b126 (fX2_bestKind_L76 N n) ih z5 x1 x2 x3 x5 x6 x7 H locs ls hP hS (lv_sub hl [1, 2, 3, 4, 5, 6, 7] rfl) hf
        · refine lv_iload hx hb dX2_bestKind_118 (lv_at hl 0 rfl) ?_
          refine lv_istore (lv' := [(5, .int v6), (8, .int v6), (0, .ref (a 0)), (1, .int x1), (2, .int x2), (3, .int x3), (6, .int x6), (7, .int x7)]) hx hb dX2_bestKind_120 hl (by decide) rfl (fun ls hl => ?_)
          refine lv_iload hx hb dX2_bestKind_122 (lv_at hl 7 rfl) ?_
          refine lv_istore (lv' := [(6, .int x7), (5, .int v6), (8, .int v6), (0, .ref (a 0)), (1, .int x1), (2, .int x2), (3, .int x3), (7, .int x7)]) hx hb dX2_bestKind_124 hl (by decide) rfl (fun ls hl => ?_)
          exact b126 (fX2_bestKind_L76 N n) ih z5 x1 x2 x3 v6 x7 x7 H locs ls hP hS (lv_sub hl [3, 4, 5, 6, 1, 0, 7] rfl) hf
  have b54 : ∀  (z : St) (x1 : Int32) (x2 : Int32) (x3 : Int32) (H : Heap) (locs : List Loc) (ls : Array Slot), va_P D vwCl (wHA cI cJ a τ z) H → va_S A s.heap H locs → lv_has ls 9 [(0, .ref (a 0)), (1, .int x1), (2, .int x2), (3, .int x3)] → fX2_bestKind_L54 N z x1 x2 x3 = some r → W p l e rmX2_bestKind s m ([.ref (a 0), .int p1, .int p2, .int p3] : List Value).toArray below meth c H locs 0 0 (MQ below (WQi sz D (wHA cI cJ a τ σ) (wHA cI cJ a τ (r.2)) r.1) ([.ref (a 0), .int p1, .int p2, .int p3] : List Value).toArray s 0 0 A) (F0 m 54 ls []) := by
    intro  z x1 x2 x3 H locs ls hP hS hl hf
    unfold fX2_bestKind_L54 at hf
    refine lv_bipush (v := (21 : Int32)) hx hb dX2_bestKind_54 (by decide) ?_
    refine lv_istore (lv' := [(5, .int (21 : Int32)), (0, .ref (a 0)), (1, .int x1), (2, .int x2), (3, .int x3)]) hx hb dX2_bestKind_56 hl (by decide) rfl (fun ls hl => ?_)
    refine lv_bipush (v := (-9 : Int32)) hx hb dX2_bestKind_58 (by decide) ?_
    refine lv_istore (lv' := [(6, .int (-9 : Int32)), (5, .int (21 : Int32)), (0, .ref (a 0)), (1, .int x1), (2, .int x2), (3, .int x3)]) hx hb dX2_bestKind_60 hl (by decide) rfl (fun ls hl => ?_)
    refine lv_aload_n hx hb dX2_bestKind_62 rfl (lv_at hl 2 rfl) ?_
    refine va_get (D := D) (ci := 2) (v := .ref (a 7)) (C := RX2) (T := TX2) (N := 14) hx hb hts inX2 hown hK hP 0 rfl rfl 1 (by decide) ln3 (fun _ h9 => h9) rfl dX2_bestKind_63 ?_
    refine lv_aload_n hx hb dX2_bestKind_66 rfl (lv_at hl 2 rfl) ?_
    refine va_get (D := D) (ci := 2) (v := .ref (a 1)) (C := RX2) (T := TX2) (N := 14) hx hb hts inX2 hown hK hP 0 rfl rfl 0 (by decide) ln1 (fun _ h9 => h9) rfl dX2_bestKind_67 ?_
    refine d_callVv (As := [.ref ((sb [7, 8, 9, 10, 11, 12, 1, 2, 3, 4, 5, 6] a) 6)]) (rest := []) (w := (wHA cI cJ a τ)) (wc := (wHo2 cI (sb [7, 8, 9, 10, 11, 12, 1, 2, 3, 4, 5, 6] a))) (put := (fun uq => pb [7, 8, 9, 10, 11, 12, 1, 2, 3, 4, 5, 6] uq z)) (σ := z) (τ0 := (sb [7, 8, 9, 10, 11, 12, 1, 2, 3, 4, 5, 6] z)) ⟨hx, hb, hml, hown, hts⟩ hf (fun zq hq => mX0_copy l D cI cJ (sb [7, 8, 9, 10, 11, 12, 1, 2, 3, 4, 5, 6] a) H.size N (sb [7, 8, 9, 10, 11, 12, 1, 2, 3, 4, 5, 6] z) zq hq) (cwV 1 hts gX2_bestKind_X0_copy rfl rfl rfl qX0_copy ⟨Nat.le_of_ble_eq_true rfl, Nat.le_of_ble_eq_true rfl⟩) hK hP hD hS hA (cmb_HA_Ho2_7_8_9_10_11_12_1_2_3_4_5_6 D cI cJ a τ z hP (hD _)) 0 rfl rfl rfl rfl hl.1 rfl (Nat.le_of_ble_eq_true rfl) dX2_bestKind_70 ⟨Nat.le_refl _, Nat.le_refl _⟩ (fun z3 H locs hP hS hf => ?_)
    refine lv_iconst (v := (0 : Int32)) hx hb dX2_bestKind_73 (by decide) ?_
    refine lv_istore (lv' := [(7, .int (0 : Int32)), (6, .int (-9 : Int32)), (5, .int (21 : Int32)), (0, .ref (a 0)), (1, .int x1), (2, .int x2), (3, .int x3)]) hx hb dX2_bestKind_74 hl (by decide) rfl (fun ls hl => ?_)
    exact b76  N z3 x1 x2 x3 (21 : Int32) (-9 : Int32) (0 : Int32) H locs ls hP hS (lv_sub hl [3, 4, 5, 6, 2, 1, 0] rfl) hf
  unfold fX2_bestKind at hf
  refine lv_aload_n hx hb dX2_bestKind_0 rfl (lv_at hl 0 rfl) ?_
  refine va_get (D := D) (ci := 2) (v := .ref (a 1)) (C := RX2) (T := TX2) (N := 14) hx hb hts inX2 hown hK hP 0 rfl rfl 0 (by decide) ln1 (fun _ h9 => h9) rfl dX2_bestKind_1 ?_
  refine lv_iload_n hx hb dX2_bestKind_4 rfl (lv_at hl 1 rfl) ?_
  refine c_callV (As := [.int p1]) (rest := []) ⟨hx, hb, hml, hown, hts⟩ hf (fun vq hq => mX0_has l D cI cJ (sb [1, 2, 3, 4, 5, 6] a) s.heap.size N (sb [1, 2, 3, 4, 5, 6] σ) p1 vq hq) (cwV 1 hts gX2_bestKind_X0_has rfl rfl rfl qX0_has ⟨Nat.le_of_ble_eq_true rfl, Nat.le_of_ble_eq_true rfl⟩) hK hP hS hA (cmr_HA_Ho_1_2_3_4_5_6 D cI cJ a τ σ hP) 0 rfl rfl rfl rfl hl.1 rfl (Nat.le_of_ble_eq_true rfl) dX2_bestKind_5 ⟨Nat.le_refl _, Nat.le_refl _⟩ (fun v1 H locs hP hS hf => ?_)
  refine k_if_ne (tgt := 17) hx hb dX2_bestKind_8 (by decide) hf (fun hf => ?_) (fun hf => ?_)
  · refine lv_iload_n hx hb dX2_bestKind_17 rfl (lv_at hl 2 rfl) ?_
    refine lv_iconst (v := (0 : Int32)) hx hb dX2_bestKind_18 (by decide) ?_
    refine lv_bipush (v := (30 : Int32)) hx hb dX2_bestKind_19 (by decide) ?_
    refine c_callS (As := [.int p2, .int (0 : Int32), .int (30 : Int32)]) (rest := []) ⟨hx, hb, hml, hown, hts⟩ hf (fun vq hq => mX2_faultOf l D cI cJ H.size N p2 (0 : Int32) (30 : Int32) vq hq) (va_cwS 3 hts gX2_bestKind_X2_faultOf rfl rfl rfl qX2_faultOf ⟨Nat.le_of_ble_eq_true rfl, Nat.le_of_ble_eq_true rfl⟩) hK hP hS hA va_P_nil rfl hl.1 rfl (Nat.le_of_ble_eq_true rfl) dX2_bestKind_21 ⟨Nat.le_refl _, Nat.le_refl _⟩ (fun v2 H locs hP hS hf => ?_)
    refine lv_istore (lv' := [(4, .int v2), (0, .ref (a 0)), (1, .int p1), (2, .int p2), (3, .int p3)]) hx hb dX2_bestKind_24 hl (by decide) rfl (fun ls hl => ?_)
    refine lv_iload hx hb dX2_bestKind_26 (lv_at hl 0 rfl) ?_
    refine k_if_eq (tgt := 38) hx hb dX2_bestKind_28 (by decide) hf (fun hf => ?_) (fun hf => ?_)
    · refine lv_iload_n hx hb dX2_bestKind_38 rfl (lv_at hl 4 rfl) ?_
      refine k_if_eq (tgt := 54) hx hb dX2_bestKind_39 (by decide) hf (fun hf => ?_) (fun hf => ?_)
      · exact b54  σ p1 p2 p3 H locs ls hP hS (lv_sub hl [1, 2, 3, 4] rfl) hf
      · refine lv_iload_n hx hb dX2_bestKind_42 rfl (lv_at hl 4 rfl) ?_
        refine lv_iconst (v := (1 : Int32)) hx hb dX2_bestKind_43 (by decide) ?_
        refine k_icmp_eq (tgt := 54) hx hb dX2_bestKind_44 (by decide) hf (fun hf => ?_) (fun hf => ?_)
        · exact b54  σ p1 p2 p3 H locs ls hP hS (lv_sub hl [1, 2, 3, 4] rfl) hf
        · refine lv_aload_n hx hb dX2_bestKind_47 rfl (lv_at hl 1 rfl) ?_
          refine lv_bipush (v := (-2 : Int32)) hx hb dX2_bestKind_48 (by decide) ?_
          refine d_callV (As := [.int (-2 : Int32)]) (rest := []) (w := (wHA cI cJ a τ)) (wc := (wHA cI cJ a τ)) (put := (fun uq => uq)) (σ := σ) (τ0 := σ) ⟨hx, hb, hml, hown, hts⟩ hf (fun vq zq hq => mX2_refuse l D cI cJ a H.size N τ σ (-2 : Int32) (vq, zq) hq) (cwV 1 hts gX2_bestKind_X2_refuse rfl rfl rfl qX2_refuse ⟨Nat.le_of_ble_eq_true rfl, Nat.le_of_ble_eq_true rfl⟩) hK hP hD hS hA ⟨hP, hD _, fun _ _ _ h => h⟩ 2 rfl rfl rfl rfl hl.1 rfl (Nat.le_of_ble_eq_true rfl) dX2_bestKind_50 ⟨Nat.le_refl _, Nat.le_refl _⟩ (fun v9 z8 H locs hP hS hf => ?_)
          exact W_iret (wHA cI cJ a τ) hx hb hr hlk hP hS hAe hf dX2_bestKind_53
    · refine lv_aload_n hx hb dX2_bestKind_31 rfl (lv_at hl 1 rfl) ?_
      refine lv_iload hx hb dX2_bestKind_32 (lv_at hl 0 rfl) ?_
      refine d_callV (As := [.int v2]) (rest := []) (w := (wHA cI cJ a τ)) (wc := (wHA cI cJ a τ)) (put := (fun uq => uq)) (σ := σ) (τ0 := σ) ⟨hx, hb, hml, hown, hts⟩ hf (fun vq zq hq => mX2_refuse l D cI cJ a H.size N τ σ v2 (vq, zq) hq) (cwV 1 hts gX2_bestKind_X2_refuse rfl rfl rfl qX2_refuse ⟨Nat.le_of_ble_eq_true rfl, Nat.le_of_ble_eq_true rfl⟩) hK hP hD hS hA ⟨hP, hD _, fun _ _ _ h => h⟩ 2 rfl rfl rfl rfl hl.1 rfl (Nat.le_of_ble_eq_true rfl) dX2_bestKind_34 ⟨Nat.le_refl _, Nat.le_refl _⟩ (fun v11 z10 H locs hP hS hf => ?_)
      exact W_iret (wHA cI cJ a τ) hx hb hr hlk hP hS hAe hf dX2_bestKind_37
  · refine lv_aload_n hx hb dX2_bestKind_11 rfl (lv_at hl 0 rfl) ?_
    refine lv_iconst (v := (-1 : Int32)) hx hb dX2_bestKind_12 (by decide) ?_
    refine d_callV (As := [.int (-1 : Int32)]) (rest := []) (w := (wHA cI cJ a τ)) (wc := (wHA cI cJ a τ)) (put := (fun uq => uq)) (σ := σ) (τ0 := σ) ⟨hx, hb, hml, hown, hts⟩ hf (fun vq zq hq => mX2_refuse l D cI cJ a H.size N τ σ (-1 : Int32) (vq, zq) hq) (cwV 1 hts gX2_bestKind_X2_refuse rfl rfl rfl qX2_refuse ⟨Nat.le_of_ble_eq_true rfl, Nat.le_of_ble_eq_true rfl⟩) hK hP hD hS hA ⟨hP, hD _, fun _ _ _ h => h⟩ 2 rfl rfl rfl rfl hl.1 rfl (Nat.le_of_ble_eq_true rfl) dX2_bestKind_13 ⟨Nat.le_refl _, Nat.le_refl _⟩ (fun v13 z12 H locs hP hS hf => ?_)
    exact W_iret (wHA cI cJ a τ) hx hb hr hlk hP hS hAe hf dX2_bestKind_16
def fX2_gaining_L45 (N : Nat) (σ : St) (k4 : Int32 → Int32 → Int32 → Option Int32) (x1 : Int32) (x2 : Int32) (x3 : Int32) : Option Int32 :=
    lt_ (x3 + (1 : Int32) : Int32) (fun v3 =>
    k4 x1 x2 v3)
def fX2_gaining_L4 (N : Nat) (σ : St)  : Nat → Int32 → Int32 → Int32 → Option Int32
  | 0, _, _, _ => none
  | n + 1, x1, x2, x3 =>
    if (σ 1 3) ≤ x3 then some x2
    else bo (fX0_weighs N (sb [1, 2, 3, 4, 5, 6] σ) x3 (1 : Int32)) (fun v1 =>
    bo (fX0_weighs N (sb [1, 2, 3, 4, 5, 6] σ) x3 (0 : Int32)) (fun v2 =>
    if (x1 * (v1 - v2)) ≤ 0 then fX2_gaining_L45 N σ (fX2_gaining_L4 N σ n) x1 x2 x3
    else lt_ ((x2 ||| ((1 : Int32) <<< (x3 &&& 31))) : Int32) (fun v4 =>
    fX2_gaining_L45 N σ (fX2_gaining_L4 N σ n) x1 v4 x3)))
def fX2_gaining (N : Nat) (σ : St) (p1 : Int32) : Option Int32 :=
    fX2_gaining_L4 N σ  N p1 (0 : Int32) (0 : Int32)
abbrev rmX2_gaining : Room := { frames := 2, cells := 0, slots := 0, locals := 49 }
theorem qX2_gaining : yX2_gaining.cls = RX2 ∧ yX2_gaining.cls ≠ "java/lang/invoke/MethodHandle" ∧ yX2_gaining.cls ≠ "java/lang/invoke/VarHandle" ∧ (parseMethodDescriptor yX2_gaining.desc).map (fun d => d.parameters.length) = some 1 := by decide +kernel
set_option maxHeartbeats 400000 in
set_option maxRecDepth 100000 in
theorem mX2_gaining (l : Launch) (D : va_G) (cI cJ : ClassId) (a : Nat → Nat) (sz N : Nat) (τ : LSt) (σ : St) (p1 : Int32) (r : Int32) (hf : fX2_gaining N σ p1 = some r) : Met l yX2_gaining wsX2_gaining rmX2_gaining (RPre ([.ref (a 0), .int p1] : List Value) sz D (tyIJ cI cJ) (wHA cI cJ a τ σ)) (RQi sz r) 0 0 (fr0 sz) := by
  refine R_start (cc := cX2_gaining) (maxL := 4) (ret := (some .int)) (by decide) rfl (Nat.le_of_ble_eq_true rfl) (fun p e s m below meth c ls hx hb hr hml hown hts hlk hP hK hS hA hsz hl => ?_)
  have hown : s.vm.findClass RX2 = some m.cls := hown
  have hl : lv_has ls 4 [(0, .ref (a 0)), (1, .int p1)] := hl
  have ln1 := hts (Cond.fieldLink RX2 10 "HoistsAreShared" "now" "LHoistsAreShared$Hoist;") (List.mem_of_getElem? (i := 1) rfl)
  have inX2 : ∀ w ∈ u_ws RX2 TX2 14, w ∈ wsX2_gaining := fun _ h => List.mem_cons_of_mem _ (List.mem_append_left _ (List.mem_append_right _ h))
  have ln3 := hts (Cond.fieldLink RX2 196 "HoistsAreShared$Hoist" "things" "I") (List.mem_of_getElem? (i := 2) rfl)
  have inX0 : ∀ w ∈ u_ws RX0 TX0 9, w ∈ wsX2_gaining := fun _ h => List.mem_cons_of_mem _ (List.mem_append_right _ h)
  have b45 : ∀ (k4 : Int32 → Int32 → Int32 → Option Int32) (hk4 : (∀ (x1 : Int32) (x2 : Int32) (x3 : Int32) (H : Heap) (locs : List Loc) (ls : Array Slot), va_P D vwCl (wHA cI cJ a τ σ) H → va_S (fr0 s.heap.size) s.heap H locs → lv_has ls 4 [(0, .ref (a 0)), (1, .int x1), (2, .int x2), (3, .int x3)] → k4 x1 x2 x3 = some r → W p l e rmX2_gaining s m ([.ref (a 0), .int p1] : List Value).toArray below meth c H locs 0 0 (MQ below (RQi sz r) ([.ref (a 0), .int p1] : List Value).toArray s 0 0 (fr0 sz)) (F0 m 4 ls []))) (x1 : Int32) (x2 : Int32) (x3 : Int32) (H : Heap) (locs : List Loc) (ls : Array Slot), va_P D vwCl (wHA cI cJ a τ σ) H → va_S (fr0 s.heap.size) s.heap H locs → lv_has ls 4 [(0, .ref (a 0)), (1, .int x1), (2, .int x2), (3, .int x3)] → fX2_gaining_L45 N σ k4 x1 x2 x3 = some r → W p l e rmX2_gaining s m ([.ref (a 0), .int p1] : List Value).toArray below meth c H locs 0 0 (MQ below (RQi sz r) ([.ref (a 0), .int p1] : List Value).toArray s 0 0 (fr0 sz)) (F0 m 45 ls []) := by
    intro k4 hk4 x1 x2 x3 H locs ls hP hS hl hf
    unfold fX2_gaining_L45 at hf
    refine k_iinc (d := (1 : Int32)) (lv' := fun v3 => [(3, .int v3), (0, .ref (a 0)), (1, .int x1), (2, .int x2)]) hx hb dX2_gaining_45 hl (k := 3) rfl (by decide) (by decide) (fun _ => rfl) hf (fun v3 ls hl hf => ?_)
    refine lv_goto (tgt := 4) hx hb dX2_gaining_48 (by decide) ?_
    exact hk4 x1 x2 v3 H locs ls hP hS (lv_sub hl [1, 2, 3, 0] rfl) hf
  have b4 : ∀  (n : Nat) (x1 : Int32) (x2 : Int32) (x3 : Int32) (H : Heap) (locs : List Loc) (ls : Array Slot), va_P D vwCl (wHA cI cJ a τ σ) H → va_S (fr0 s.heap.size) s.heap H locs → lv_has ls 4 [(0, .ref (a 0)), (1, .int x1), (2, .int x2), (3, .int x3)] → fX2_gaining_L4 N σ n x1 x2 x3 = some r → W p l e rmX2_gaining s m ([.ref (a 0), .int p1] : List Value).toArray below meth c H locs 0 0 (MQ below (RQi sz r) ([.ref (a 0), .int p1] : List Value).toArray s 0 0 (fr0 sz)) (F0 m 4 ls []) := by
    intro n
    induction n with
    | zero => intro x1 x2 x3 H locs ls hP hS hl hf; cases hf
    | succ n ih =>
      intro x1 x2 x3 H locs ls hP hS hl hf
      rw [fX2_gaining_L4] at hf
      refine lv_iload_n hx hb dX2_gaining_4 rfl (lv_at hl 3 rfl) ?_
      refine lv_aload_n hx hb dX2_gaining_5 rfl (lv_at hl 0 rfl) ?_
      refine va_get (D := D) (ci := 2) (v := .ref (a 1)) (C := RX2) (T := TX2) (N := 14) hx hb hts inX2 hown hK hP 0 rfl rfl 0 (by decide) ln1 (fun _ h9 => h9) rfl dX2_gaining_6 ?_
      refine va_get (D := D) (ci := 0) (v := .int (σ 1 3)) (C := RX0) (T := TX0) (N := 9) hx hb hts inX0 hown hK hP 1 rfl rfl 3 (by decide) ln3 (fun _ h9 => h9) rfl dX2_gaining_9 ?_
      refine k_icmp_ge (tgt := 51) hx hb dX2_gaining_12 (by decide) hf (fun hf => ?_) (fun hf => ?_)
      · refine lv_iload_n hx hb dX2_gaining_51 rfl (lv_at hl 2 rfl) ?_
        exact R_iret hx hb hr hlk hS hsz hf dX2_gaining_52
      · refine lv_iload_n hx hb dX2_gaining_15 rfl (lv_at hl 1 rfl) ?_
        refine lv_aload_n hx hb dX2_gaining_16 rfl (lv_at hl 0 rfl) ?_
        refine va_get (D := D) (ci := 2) (v := .ref (a 1)) (C := RX2) (T := TX2) (N := 14) hx hb hts inX2 hown hK hP 0 rfl rfl 0 (by decide) ln1 (fun _ h9 => h9) rfl dX2_gaining_17 ?_
        refine lv_iload_n hx hb dX2_gaining_20 rfl (lv_at hl 3 rfl) ?_
        refine lv_iconst (v := (1 : Int32)) hx hb dX2_gaining_21 (by decide) ?_
        refine c_callV (As := [.int x3, .int (1 : Int32)]) (rest := [.int x1]) ⟨hx, hb, hml, hown, hts⟩ hf (fun vq hq => mX0_weighs l D cI cJ (sb [1, 2, 3, 4, 5, 6] a) H.size N (sb [1, 2, 3, 4, 5, 6] σ) x3 (1 : Int32) vq hq) (cwV 2 hts gX2_gaining_X0_weighs rfl rfl rfl qX0_weighs ⟨Nat.le_of_ble_eq_true rfl, Nat.le_of_ble_eq_true rfl⟩) hK hP hS hA (cmr_HA_Ho_1_2_3_4_5_6 D cI cJ a τ σ hP) 0 rfl rfl rfl rfl hl.1 rfl (Nat.le_of_ble_eq_true rfl) dX2_gaining_22 ⟨Nat.le_refl _, Nat.le_refl _⟩ (fun v1 H locs hP hS hf => ?_)
        refine lv_aload_n hx hb dX2_gaining_25 rfl (lv_at hl 0 rfl) ?_
        refine va_get (D := D) (ci := 2) (v := .ref (a 1)) (C := RX2) (T := TX2) (N := 14) hx hb hts inX2 hown hK hP 0 rfl rfl 0 (by decide) ln1 (fun _ h9 => h9) rfl dX2_gaining_26 ?_
        refine lv_iload_n hx hb dX2_gaining_29 rfl (lv_at hl 3 rfl) ?_
        refine lv_iconst (v := (0 : Int32)) hx hb dX2_gaining_30 (by decide) ?_
        refine c_callV (As := [.int x3, .int (0 : Int32)]) (rest := [.int v1, .int x1]) ⟨hx, hb, hml, hown, hts⟩ hf (fun vq hq => mX0_weighs l D cI cJ (sb [1, 2, 3, 4, 5, 6] a) H.size N (sb [1, 2, 3, 4, 5, 6] σ) x3 (0 : Int32) vq hq) (cwV 2 hts gX2_gaining_X0_weighs rfl rfl rfl qX0_weighs ⟨Nat.le_of_ble_eq_true rfl, Nat.le_of_ble_eq_true rfl⟩) hK hP hS hA (cmr_HA_Ho_1_2_3_4_5_6 D cI cJ a τ σ hP) 0 rfl rfl rfl rfl hl.1 rfl (Nat.le_of_ble_eq_true rfl) dX2_gaining_31 ⟨Nat.le_refl _, Nat.le_refl _⟩ (fun v2 H locs hP hS hf => ?_)
        refine lv_isub hx hb dX2_gaining_34 ?_
        refine lv_imul hx hb dX2_gaining_35 ?_
        refine k_if_le (tgt := 45) hx hb dX2_gaining_36 (by decide) hf (fun hf => ?_) (fun hf => ?_)
        · exact b45 (fX2_gaining_L4 N σ n) ih x1 x2 x3 H locs ls hP hS (lv_sub hl [0, 1, 2, 3] rfl) hf
        · refine lv_iload_n hx hb dX2_gaining_39 rfl (lv_at hl 2 rfl) ?_
          refine lv_iconst (v := (1 : Int32)) hx hb dX2_gaining_40 (by decide) ?_
          refine lv_iload_n hx hb dX2_gaining_41 rfl (lv_at hl 3 rfl) ?_
          refine lv_ishl hx hb dX2_gaining_42 ?_
          refine lv_ior hx hb dX2_gaining_43 ?_
          refine k_let hf (fun v4 hf => ?_)
          refine lv_istore_n (lv' := [(2, .int v4), (0, .ref (a 0)), (1, .int x1), (3, .int x3)]) hx hb dX2_gaining_44 rfl hl (by decide) rfl (fun ls hl => ?_)
          exact b45 (fX2_gaining_L4 N σ n) ih x1 v4 x3 H locs ls hP hS (lv_sub hl [1, 2, 0, 3] rfl) hf
  unfold fX2_gaining at hf
  refine lv_iconst (v := (0 : Int32)) hx hb dX2_gaining_0 (by decide) ?_
  refine lv_istore_n (lv' := [(2, .int (0 : Int32)), (0, .ref (a 0)), (1, .int p1)]) hx hb dX2_gaining_1 rfl hl (by decide) rfl (fun ls hl => ?_)
  refine lv_iconst (v := (0 : Int32)) hx hb dX2_gaining_2 (by decide) ?_
  refine lv_istore_n (lv' := [(3, .int (0 : Int32)), (2, .int (0 : Int32)), (0, .ref (a 0)), (1, .int p1)]) hx hb dX2_gaining_3 rfl hl (by decide) rfl (fun ls hl => ?_)
  exact b4  N p1 (0 : Int32) (0 : Int32) s.heap [] ls hP hS (lv_sub hl [2, 3, 1, 0] rfl) hf
def fX2_outweighing_L52 (N : Nat) (σ : St) (k8 : Int32 → Int32 → Int32 → Int32 → Option Int32) (x1 : Int32) (x2 : Int32) (x3 : Int32) (x4 : Int32) : Option Int32 :=
    lt_ (x4 + (1 : Int32) : Int32) (fun v3 =>
    k8 x1 x2 x3 v3)
def fX2_outweighing_L46 (N : Nat) (σ : St) (k8 : Int32 → Int32 → Int32 → Int32 → Option Int32) (x1 : Int32) (x4 : Int32) (x5 : Int32) : Option Int32 :=
    fX2_outweighing_L52 N σ k8 x1 x4 x5 x4
def fX2_outweighing_L8 (N : Nat) (σ : St)  : Nat → Int32 → Int32 → Int32 → Int32 → Option Int32
  | 0, _, _, _, _ => none
  | n + 1, x1, x2, x3, x4 =>
    if (σ 1 3) ≤ x4 then some x2
    else bo (fX0_weighs N (sb [1, 2, 3, 4, 5, 6] σ) x4 (0 : Int32)) (fun v1 =>
    lt_ ((x1 * v1) : Int32) (fun v2 =>
    if x2 = (-9 : Int32) then fX2_outweighing_L46 N σ (fX2_outweighing_L8 N σ n) x1 x4 v2
    else if v2 ≤ x3 then fX2_outweighing_L52 N σ (fX2_outweighing_L8 N σ n) x1 x2 x3 x4
    else fX2_outweighing_L46 N σ (fX2_outweighing_L8 N σ n) x1 x4 v2))
def fX2_outweighing (N : Nat) (σ : St) (p1 : Int32) : Option Int32 :=
    fX2_outweighing_L8 N σ  N p1 (-9 : Int32) (0 : Int32) (0 : Int32)
abbrev rmX2_outweighing : Room := { frames := 2, cells := 0, slots := 0, locals := 49 }
theorem qX2_outweighing : yX2_outweighing.cls = RX2 ∧ yX2_outweighing.cls ≠ "java/lang/invoke/MethodHandle" ∧ yX2_outweighing.cls ≠ "java/lang/invoke/VarHandle" ∧ (parseMethodDescriptor yX2_outweighing.desc).map (fun d => d.parameters.length) = some 1 := by decide +kernel
set_option maxHeartbeats 400000 in
set_option maxRecDepth 100000 in
theorem mX2_outweighing (l : Launch) (D : va_G) (cI cJ : ClassId) (a : Nat → Nat) (sz N : Nat) (τ : LSt) (σ : St) (p1 : Int32) (r : Int32) (hf : fX2_outweighing N σ p1 = some r) : Met l yX2_outweighing wsX2_outweighing rmX2_outweighing (RPre ([.ref (a 0), .int p1] : List Value) sz D (tyIJ cI cJ) (wHA cI cJ a τ σ)) (RQi sz r) 0 0 (fr0 sz) := by
  refine R_start (cc := cX2_outweighing) (maxL := 6) (ret := (some .int)) (by decide) rfl (Nat.le_of_ble_eq_true rfl) (fun p e s m below meth c ls hx hb hr hml hown hts hlk hP hK hS hA hsz hl => ?_)
  have hown : s.vm.findClass RX2 = some m.cls := hown
  have hl : lv_has ls 6 [(0, .ref (a 0)), (1, .int p1)] := hl
  have ln1 := hts (Cond.fieldLink RX2 10 "HoistsAreShared" "now" "LHoistsAreShared$Hoist;") (List.mem_of_getElem? (i := 1) rfl)
  have inX2 : ∀ w ∈ u_ws RX2 TX2 14, w ∈ wsX2_outweighing := fun _ h => List.mem_cons_of_mem _ (List.mem_append_left _ (List.mem_append_right _ h))
  have ln3 := hts (Cond.fieldLink RX2 196 "HoistsAreShared$Hoist" "things" "I") (List.mem_of_getElem? (i := 2) rfl)
  have inX0 : ∀ w ∈ u_ws RX0 TX0 9, w ∈ wsX2_outweighing := fun _ h => List.mem_cons_of_mem _ (List.mem_append_right _ h)
  have b52 : ∀ (k8 : Int32 → Int32 → Int32 → Int32 → Option Int32) (hk8 : (∀ (x1 : Int32) (x2 : Int32) (x3 : Int32) (x4 : Int32) (H : Heap) (locs : List Loc) (ls : Array Slot), va_P D vwCl (wHA cI cJ a τ σ) H → va_S (fr0 s.heap.size) s.heap H locs → lv_has ls 6 [(0, .ref (a 0)), (1, .int x1), (2, .int x2), (3, .int x3), (4, .int x4)] → k8 x1 x2 x3 x4 = some r → W p l e rmX2_outweighing s m ([.ref (a 0), .int p1] : List Value).toArray below meth c H locs 0 0 (MQ below (RQi sz r) ([.ref (a 0), .int p1] : List Value).toArray s 0 0 (fr0 sz)) (F0 m 8 ls []))) (x1 : Int32) (x2 : Int32) (x3 : Int32) (x4 : Int32) (H : Heap) (locs : List Loc) (ls : Array Slot), va_P D vwCl (wHA cI cJ a τ σ) H → va_S (fr0 s.heap.size) s.heap H locs → lv_has ls 6 [(0, .ref (a 0)), (1, .int x1), (2, .int x2), (3, .int x3), (4, .int x4)] → fX2_outweighing_L52 N σ k8 x1 x2 x3 x4 = some r → W p l e rmX2_outweighing s m ([.ref (a 0), .int p1] : List Value).toArray below meth c H locs 0 0 (MQ below (RQi sz r) ([.ref (a 0), .int p1] : List Value).toArray s 0 0 (fr0 sz)) (F0 m 52 ls []) := by
    intro k8 hk8 x1 x2 x3 x4 H locs ls hP hS hl hf
    unfold fX2_outweighing_L52 at hf
    refine k_iinc (d := (1 : Int32)) (lv' := fun v3 => [(4, .int v3), (0, .ref (a 0)), (1, .int x1), (2, .int x2), (3, .int x3)]) hx hb dX2_outweighing_52 hl (k := 4) rfl (by decide) (by decide) (fun _ => rfl) hf (fun v3 ls hl hf => ?_)
    refine lv_goto (tgt := 8) hx hb dX2_outweighing_55 (by decide) ?_
    exact hk8 x1 x2 x3 v3 H locs ls hP hS (lv_sub hl [1, 2, 3, 4, 0] rfl) hf
  have b46 : ∀ (k8 : Int32 → Int32 → Int32 → Int32 → Option Int32) (hk8 : (∀ (x1 : Int32) (x2 : Int32) (x3 : Int32) (x4 : Int32) (H : Heap) (locs : List Loc) (ls : Array Slot), va_P D vwCl (wHA cI cJ a τ σ) H → va_S (fr0 s.heap.size) s.heap H locs → lv_has ls 6 [(0, .ref (a 0)), (1, .int x1), (2, .int x2), (3, .int x3), (4, .int x4)] → k8 x1 x2 x3 x4 = some r → W p l e rmX2_outweighing s m ([.ref (a 0), .int p1] : List Value).toArray below meth c H locs 0 0 (MQ below (RQi sz r) ([.ref (a 0), .int p1] : List Value).toArray s 0 0 (fr0 sz)) (F0 m 8 ls []))) (x1 : Int32) (x4 : Int32) (x5 : Int32) (H : Heap) (locs : List Loc) (ls : Array Slot), va_P D vwCl (wHA cI cJ a τ σ) H → va_S (fr0 s.heap.size) s.heap H locs → lv_has ls 6 [(0, .ref (a 0)), (1, .int x1), (4, .int x4), (5, .int x5)] → fX2_outweighing_L46 N σ k8 x1 x4 x5 = some r → W p l e rmX2_outweighing s m ([.ref (a 0), .int p1] : List Value).toArray below meth c H locs 0 0 (MQ below (RQi sz r) ([.ref (a 0), .int p1] : List Value).toArray s 0 0 (fr0 sz)) (F0 m 46 ls []) := by
    intro k8 hk8 x1 x4 x5 H locs ls hP hS hl hf
    unfold fX2_outweighing_L46 at hf
    refine lv_iload hx hb dX2_outweighing_46 (lv_at hl 3 rfl) ?_
    refine lv_istore_n (lv' := [(3, .int x5), (0, .ref (a 0)), (1, .int x1), (4, .int x4), (5, .int x5)]) hx hb dX2_outweighing_48 rfl hl (by decide) rfl (fun ls hl => ?_)
    refine lv_iload hx hb dX2_outweighing_49 (lv_at hl 3 rfl) ?_
    refine lv_istore_n (lv' := [(2, .int x4), (3, .int x5), (0, .ref (a 0)), (1, .int x1), (4, .int x4), (5, .int x5)]) hx hb dX2_outweighing_51 rfl hl (by decide) rfl (fun ls hl => ?_)
    exact b52 k8 hk8 x1 x4 x5 x4 H locs ls hP hS (lv_sub hl [2, 3, 0, 1, 4] rfl) hf
  have b8 : ∀  (n : Nat) (x1 : Int32) (x2 : Int32) (x3 : Int32) (x4 : Int32) (H : Heap) (locs : List Loc) (ls : Array Slot), va_P D vwCl (wHA cI cJ a τ σ) H → va_S (fr0 s.heap.size) s.heap H locs → lv_has ls 6 [(0, .ref (a 0)), (1, .int x1), (2, .int x2), (3, .int x3), (4, .int x4)] → fX2_outweighing_L8 N σ n x1 x2 x3 x4 = some r → W p l e rmX2_outweighing s m ([.ref (a 0), .int p1] : List Value).toArray below meth c H locs 0 0 (MQ below (RQi sz r) ([.ref (a 0), .int p1] : List Value).toArray s 0 0 (fr0 sz)) (F0 m 8 ls []) := by
    intro n
    induction n with
    | zero => intro x1 x2 x3 x4 H locs ls hP hS hl hf; cases hf
    | succ n ih =>
      intro x1 x2 x3 x4 H locs ls hP hS hl hf
      rw [fX2_outweighing_L8] at hf
      refine lv_iload hx hb dX2_outweighing_8 (lv_at hl 4 rfl) ?_
      refine lv_aload_n hx hb dX2_outweighing_10 rfl (lv_at hl 0 rfl) ?_
      refine va_get (D := D) (ci := 2) (v := .ref (a 1)) (C := RX2) (T := TX2) (N := 14) hx hb hts inX2 hown hK hP 0 rfl rfl 0 (by decide) ln1 (fun _ h9 => h9) rfl dX2_outweighing_11 ?_
      refine va_get (D := D) (ci := 0) (v := .int (σ 1 3)) (C := RX0) (T := TX0) (N := 9) hx hb hts inX0 hown hK hP 1 rfl rfl 3 (by decide) ln3 (fun _ h9 => h9) rfl dX2_outweighing_14 ?_
      refine k_icmp_ge (tgt := 58) hx hb dX2_outweighing_17 (by decide) hf (fun hf => ?_) (fun hf => ?_)
      · refine lv_iload_n hx hb dX2_outweighing_58 rfl (lv_at hl 2 rfl) ?_
        exact R_iret hx hb hr hlk hS hsz hf dX2_outweighing_59
      · refine lv_iload_n hx hb dX2_outweighing_20 rfl (lv_at hl 1 rfl) ?_
        refine lv_aload_n hx hb dX2_outweighing_21 rfl (lv_at hl 0 rfl) ?_
        refine va_get (D := D) (ci := 2) (v := .ref (a 1)) (C := RX2) (T := TX2) (N := 14) hx hb hts inX2 hown hK hP 0 rfl rfl 0 (by decide) ln1 (fun _ h9 => h9) rfl dX2_outweighing_22 ?_
        refine lv_iload hx hb dX2_outweighing_25 (lv_at hl 4 rfl) ?_
        refine lv_iconst (v := (0 : Int32)) hx hb dX2_outweighing_27 (by decide) ?_
        refine c_callV (As := [.int x4, .int (0 : Int32)]) (rest := [.int x1]) ⟨hx, hb, hml, hown, hts⟩ hf (fun vq hq => mX0_weighs l D cI cJ (sb [1, 2, 3, 4, 5, 6] a) H.size N (sb [1, 2, 3, 4, 5, 6] σ) x4 (0 : Int32) vq hq) (cwV 2 hts gX2_outweighing_X0_weighs rfl rfl rfl qX0_weighs ⟨Nat.le_of_ble_eq_true rfl, Nat.le_of_ble_eq_true rfl⟩) hK hP hS hA (cmr_HA_Ho_1_2_3_4_5_6 D cI cJ a τ σ hP) 0 rfl rfl rfl rfl hl.1 rfl (Nat.le_of_ble_eq_true rfl) dX2_outweighing_28 ⟨Nat.le_refl _, Nat.le_refl _⟩ (fun v1 H locs hP hS hf => ?_)
        refine lv_imul hx hb dX2_outweighing_31 ?_
        refine k_let hf (fun v2 hf => ?_)
        refine lv_istore (lv' := [(5, .int v2), (0, .ref (a 0)), (1, .int x1), (2, .int x2), (3, .int x3), (4, .int x4)]) hx hb dX2_outweighing_32 hl (by decide) rfl (fun ls hl => ?_)
        refine lv_iload_n hx hb dX2_outweighing_34 rfl (lv_at hl 3 rfl) ?_
        refine lv_bipush (v := (-9 : Int32)) hx hb dX2_outweighing_35 (by decide) ?_
        refine k_icmp_eq (tgt := 46) hx hb dX2_outweighing_37 (by decide) hf (fun hf => ?_) (fun hf => ?_)
        · exact b46 (fX2_outweighing_L8 N σ n) ih x1 x4 v2 H locs ls hP hS (lv_sub hl [1, 2, 5, 0] rfl) hf
        · refine lv_iload hx hb dX2_outweighing_40 (lv_at hl 0 rfl) ?_
          refine lv_iload_n hx hb dX2_outweighing_42 rfl (lv_at hl 4 rfl) ?_
          refine k_icmp_le (tgt := 52) hx hb dX2_outweighing_43 (by decide) hf (fun hf => ?_) (fun hf => ?_)
          · exact b52 (fX2_outweighing_L8 N σ n) ih x1 x2 x3 x4 H locs ls hP hS (lv_sub hl [1, 2, 3, 4, 5] rfl) hf
          · exact b46 (fX2_outweighing_L8 N σ n) ih x1 x4 v2 H locs ls hP hS (lv_sub hl [1, 2, 5, 0] rfl) hf
  unfold fX2_outweighing at hf
  refine lv_bipush (v := (-9 : Int32)) hx hb dX2_outweighing_0 (by decide) ?_
  refine lv_istore_n (lv' := [(2, .int (-9 : Int32)), (0, .ref (a 0)), (1, .int p1)]) hx hb dX2_outweighing_2 rfl hl (by decide) rfl (fun ls hl => ?_)
  refine lv_iconst (v := (0 : Int32)) hx hb dX2_outweighing_3 (by decide) ?_
  refine lv_istore_n (lv' := [(3, .int (0 : Int32)), (2, .int (-9 : Int32)), (0, .ref (a 0)), (1, .int p1)]) hx hb dX2_outweighing_4 rfl hl (by decide) rfl (fun ls hl => ?_)
  refine lv_iconst (v := (0 : Int32)) hx hb dX2_outweighing_5 (by decide) ?_
  refine lv_istore (lv' := [(4, .int (0 : Int32)), (3, .int (0 : Int32)), (2, .int (-9 : Int32)), (0, .ref (a 0)), (1, .int p1)]) hx hb dX2_outweighing_6 hl (by decide) rfl (fun ls hl => ?_)
  exact b8  N p1 (-9 : Int32) (0 : Int32) (0 : Int32) s.heap [] ls hP hS (lv_sub hl [3, 4, 2, 1, 0] rfl) hf
def fX2_heaviest (N : Nat) (σ : St) (p1 : Int32) : Option (Int32 × St) :=
    if p1 = (0 : Int32) then bo (fX2_outweighing N σ (1 : Int32)) (fun v1 =>
    some (v1, σ))
    else if p1 = (1 : Int32) then bo (fX2_outweighing N σ (-1 : Int32)) (fun v3 =>
    some (v3, σ))
    else if p1 = (2 : Int32) then bo (fX0_openAt N (sb [1, 2, 3, 4, 5, 6] σ) (σ 1 0)) (fun v5 =>
    some (v5, σ))
    else if p1 = (3 : Int32) then bo (fX2_gaining N σ (1 : Int32)) (fun v7 =>
    some (v7, σ))
    else if p1 = (4 : Int32) then bo (fX2_gaining N σ (-1 : Int32)) (fun v9 =>
    some (v9, σ))
    else bx (fX2_refuse N σ (-2 : Int32)) (fun uq => uq) (fun v12 z11 =>
    some (v12, z11))
abbrev rmX2_heaviest : Room := { frames := 3, cells := 0, slots := 0, locals := 74 }
theorem qX2_heaviest : yX2_heaviest.cls = RX2 ∧ yX2_heaviest.cls ≠ "java/lang/invoke/MethodHandle" ∧ yX2_heaviest.cls ≠ "java/lang/invoke/VarHandle" ∧ (parseMethodDescriptor yX2_heaviest.desc).map (fun d => d.parameters.length) = some 1 := by decide +kernel
set_option maxHeartbeats 400000 in
set_option maxRecDepth 100000 in
theorem mX2_heaviest (l : Launch) (D : va_G) (cI cJ : ClassId) (a : Nat → Nat) (sz N : Nat) (τ : LSt) (σ : St) (p1 : Int32) (r : (Int32 × St)) (hf : fX2_heaviest N σ p1 = some r) : Met l yX2_heaviest wsX2_heaviest rmX2_heaviest (WPre ([.ref (a 0), .int p1] : List Value) sz D (tyIJ cI cJ) (wHA cI cJ a τ σ)) (WQi sz D (wHA cI cJ a τ σ) (wHA cI cJ a τ (r.2)) r.1) 0 0 (va_A (wHA cI cJ a τ σ) sz) := by
  refine W_start (cc := cX2_heaviest) (maxL := 2) (ret := (some .int)) (by decide) rfl (Nat.le_of_ble_eq_true rfl) (fun p e s m below meth c ls A hx hb hr hml hown hts hlk hP hK hS hA hD0 hAe hl => ?_)
  have hD : ∀ z, va_D A ((wHA cI cJ a τ) z) := fun z => hD0.ad rfl
  have hown : s.vm.findClass RX2 = some m.cls := hown
  have hl : lv_has ls 2 [(0, .ref (a 0)), (1, .int p1)] := hl
  have ln1 := hts (Cond.fieldLink RX2 10 "HoistsAreShared" "now" "LHoistsAreShared$Hoist;") (List.mem_of_getElem? (i := 1) rfl)
  have inX2 : ∀ w ∈ u_ws RX2 TX2 14, w ∈ wsX2_heaviest := fun _ h => List.mem_cons_of_mem _ (List.mem_append_left _ (List.mem_append_right _ h))
  have ln3 := hts (Cond.fieldLink RX2 112 "HoistsAreShared$Hoist" "floor" "I") (List.mem_of_getElem? (i := 2) rfl)
  have inX0 : ∀ w ∈ u_ws RX0 TX0 9, w ∈ wsX2_heaviest := fun _ h => List.mem_cons_of_mem _ (List.mem_append_right _ h)
  unfold fX2_heaviest at hf
  refine lv_iload_n hx hb dX2_heaviest_0 rfl (lv_at hl 1 rfl) ?_
  refine sw_if hf (fun c2 hf => ?_) (fun c2 hf => ?_)
  · refine lv_tableIn (off := 35) (tgt := 36) hx hb dX2_heaviest_1 (by rw [c2]; decide) (by rw [c2]; decide) (by rw [c2]; decide) (by decide) ?_
    refine lv_aload_n hx hb dX2_heaviest_36 rfl (lv_at hl 0 rfl) ?_
    refine lv_iconst (v := (1 : Int32)) hx hb dX2_heaviest_37 (by decide) ?_
    refine c_callV (As := [.int (1 : Int32)]) (rest := []) ⟨hx, hb, hml, hown, hts⟩ hf (fun vq hq => mX2_outweighing l D cI cJ a s.heap.size N τ σ (1 : Int32) vq hq) (cwV 1 hts gX2_heaviest_X2_outweighing rfl rfl rfl qX2_outweighing ⟨Nat.le_of_ble_eq_true rfl, Nat.le_of_ble_eq_true rfl⟩) hK hP hS hA hP 2 rfl rfl rfl rfl hl.1 rfl (Nat.le_of_ble_eq_true rfl) dX2_heaviest_38 ⟨Nat.le_refl _, Nat.le_refl _⟩ (fun v1 H locs hP hS hf => ?_)
    exact W_iret (wHA cI cJ a τ) hx hb hr hlk hP hS hAe hf dX2_heaviest_41
  · have c2 := i32_ne c2 (n := 0) (by decide)
    refine sw_if hf (fun c4 hf => ?_) (fun c4 hf => ?_)
    · refine lv_tableIn (off := 41) (tgt := 42) hx hb dX2_heaviest_1 (by rw [c4]; decide) (by rw [c4]; decide) (by rw [c4]; decide) (by decide) ?_
      refine lv_aload_n hx hb dX2_heaviest_42 rfl (lv_at hl 0 rfl) ?_
      refine lv_iconst (v := (-1 : Int32)) hx hb dX2_heaviest_43 (by decide) ?_
      refine c_callV (As := [.int (-1 : Int32)]) (rest := []) ⟨hx, hb, hml, hown, hts⟩ hf (fun vq hq => mX2_outweighing l D cI cJ a s.heap.size N τ σ (-1 : Int32) vq hq) (cwV 1 hts gX2_heaviest_X2_outweighing rfl rfl rfl qX2_outweighing ⟨Nat.le_of_ble_eq_true rfl, Nat.le_of_ble_eq_true rfl⟩) hK hP hS hA hP 2 rfl rfl rfl rfl hl.1 rfl (Nat.le_of_ble_eq_true rfl) dX2_heaviest_44 ⟨Nat.le_refl _, Nat.le_refl _⟩ (fun v3 H locs hP hS hf => ?_)
      exact W_iret (wHA cI cJ a τ) hx hb hr hlk hP hS hAe hf dX2_heaviest_47
    · have c4 := i32_ne c4 (n := 1) (by decide)
      refine sw_if hf (fun c6 hf => ?_) (fun c6 hf => ?_)
      · refine lv_tableIn (off := 47) (tgt := 48) hx hb dX2_heaviest_1 (by rw [c6]; decide) (by rw [c6]; decide) (by rw [c6]; decide) (by decide) ?_
        refine lv_aload_n hx hb dX2_heaviest_48 rfl (lv_at hl 0 rfl) ?_
        refine va_get (D := D) (ci := 2) (v := .ref (a 1)) (C := RX2) (T := TX2) (N := 14) hx hb hts inX2 hown hK hP 0 rfl rfl 0 (by decide) ln1 (fun _ h9 => h9) rfl dX2_heaviest_49 ?_
        refine lv_aload_n hx hb dX2_heaviest_52 rfl (lv_at hl 0 rfl) ?_
        refine va_get (D := D) (ci := 2) (v := .ref (a 1)) (C := RX2) (T := TX2) (N := 14) hx hb hts inX2 hown hK hP 0 rfl rfl 0 (by decide) ln1 (fun _ h9 => h9) rfl dX2_heaviest_53 ?_
        refine va_get (D := D) (ci := 0) (v := .int (σ 1 0)) (C := RX0) (T := TX0) (N := 9) hx hb hts inX0 hown hK hP 1 rfl rfl 0 (by decide) ln3 (fun _ h9 => h9) rfl dX2_heaviest_56 ?_
        refine c_callV (As := [.int (σ 1 0)]) (rest := []) ⟨hx, hb, hml, hown, hts⟩ hf (fun vq hq => mX0_openAt l D cI cJ (sb [1, 2, 3, 4, 5, 6] a) s.heap.size N (sb [1, 2, 3, 4, 5, 6] σ) (σ 1 0) vq hq) (cwV 1 hts gX2_heaviest_X0_openAt rfl rfl rfl qX0_openAt ⟨Nat.le_of_ble_eq_true rfl, Nat.le_of_ble_eq_true rfl⟩) hK hP hS hA (cmr_HA_Ho_1_2_3_4_5_6 D cI cJ a τ σ hP) 0 rfl rfl rfl rfl hl.1 rfl (Nat.le_of_ble_eq_true rfl) dX2_heaviest_59 ⟨Nat.le_refl _, Nat.le_refl _⟩ (fun v5 H locs hP hS hf => ?_)
        exact W_iret (wHA cI cJ a τ) hx hb hr hlk hP hS hAe hf dX2_heaviest_62
      · have c6 := i32_ne c6 (n := 2) (by decide)
        refine sw_if hf (fun c8 hf => ?_) (fun c8 hf => ?_)
        · refine lv_tableIn (off := 62) (tgt := 63) hx hb dX2_heaviest_1 (by rw [c8]; decide) (by rw [c8]; decide) (by rw [c8]; decide) (by decide) ?_
          refine lv_aload_n hx hb dX2_heaviest_63 rfl (lv_at hl 0 rfl) ?_
          refine lv_iconst (v := (1 : Int32)) hx hb dX2_heaviest_64 (by decide) ?_
          refine c_callV (As := [.int (1 : Int32)]) (rest := []) ⟨hx, hb, hml, hown, hts⟩ hf (fun vq hq => mX2_gaining l D cI cJ a s.heap.size N τ σ (1 : Int32) vq hq) (cwV 1 hts gX2_heaviest_X2_gaining rfl rfl rfl qX2_gaining ⟨Nat.le_of_ble_eq_true rfl, Nat.le_of_ble_eq_true rfl⟩) hK hP hS hA hP 2 rfl rfl rfl rfl hl.1 rfl (Nat.le_of_ble_eq_true rfl) dX2_heaviest_65 ⟨Nat.le_refl _, Nat.le_refl _⟩ (fun v7 H locs hP hS hf => ?_)
          exact W_iret (wHA cI cJ a τ) hx hb hr hlk hP hS hAe hf dX2_heaviest_68
        · have c8 := i32_ne c8 (n := 3) (by decide)
          refine sw_if hf (fun c10 hf => ?_) (fun c10 hf => ?_)
          · refine lv_tableIn (off := 68) (tgt := 69) hx hb dX2_heaviest_1 (by rw [c10]; decide) (by rw [c10]; decide) (by rw [c10]; decide) (by decide) ?_
            refine lv_aload_n hx hb dX2_heaviest_69 rfl (lv_at hl 0 rfl) ?_
            refine lv_iconst (v := (-1 : Int32)) hx hb dX2_heaviest_70 (by decide) ?_
            refine c_callV (As := [.int (-1 : Int32)]) (rest := []) ⟨hx, hb, hml, hown, hts⟩ hf (fun vq hq => mX2_gaining l D cI cJ a s.heap.size N τ σ (-1 : Int32) vq hq) (cwV 1 hts gX2_heaviest_X2_gaining rfl rfl rfl qX2_gaining ⟨Nat.le_of_ble_eq_true rfl, Nat.le_of_ble_eq_true rfl⟩) hK hP hS hA hP 2 rfl rfl rfl rfl hl.1 rfl (Nat.le_of_ble_eq_true rfl) dX2_heaviest_71 ⟨Nat.le_refl _, Nat.le_refl _⟩ (fun v9 H locs hP hS hf => ?_)
            exact W_iret (wHA cI cJ a τ) hx hb hr hlk hP hS hAe hf dX2_heaviest_74
          · have c10 := i32_ne c10 (n := 4) (by decide)
            refine lv_tableOut (tgt := 75) hx hb dX2_heaviest_1 (by omega) (by decide) ?_
            refine lv_aload_n hx hb dX2_heaviest_75 rfl (lv_at hl 0 rfl) ?_
            refine lv_bipush (v := (-2 : Int32)) hx hb dX2_heaviest_76 (by decide) ?_
            refine d_callV (As := [.int (-2 : Int32)]) (rest := []) (w := (wHA cI cJ a τ)) (wc := (wHA cI cJ a τ)) (put := (fun uq => uq)) (σ := σ) (τ0 := σ) ⟨hx, hb, hml, hown, hts⟩ hf (fun vq zq hq => mX2_refuse l D cI cJ a s.heap.size N τ σ (-2 : Int32) (vq, zq) hq) (cwV 1 hts gX2_heaviest_X2_refuse rfl rfl rfl qX2_refuse ⟨Nat.le_of_ble_eq_true rfl, Nat.le_of_ble_eq_true rfl⟩) hK hP hD hS hA ⟨hP, hD _, fun _ _ _ h => h⟩ 2 rfl rfl rfl rfl hl.1 rfl (Nat.le_of_ble_eq_true rfl) dX2_heaviest_78 ⟨Nat.le_refl _, Nat.le_refl _⟩ (fun v12 z11 H locs hP hS hf => ?_)
            exact W_iret (wHA cI cJ a τ) hx hb hr hlk hP hS hAe hf dX2_heaviest_81
def fX2_gain (N : Nat) (σ : St) (p1 : Int32) (p2 : Int32) (p3 : Int32) : Option Int32 :=
    if p1 < 0 then some (0 : Int32)
    else if p1 < (4 : Int32) then bo (rdI σ 24 4 p1) (fun v1 =>
    bo (fX0_heightOf N p3 v1) (fun v2 =>
    if (p1 &&& p2) = 0 then some (v2 + (0 : Int32))
    else some (v2 + (1 : Int32))))
    else some (0 : Int32)
abbrev rmX2_gain : Room := { frames := 1, cells := 0, slots := 0, locals := 21 }
theorem qX2_gain : yX2_gain.cls = RX2 ∧ yX2_gain.cls ≠ "java/lang/invoke/MethodHandle" ∧ yX2_gain.cls ≠ "java/lang/invoke/VarHandle" ∧ (parseMethodDescriptor yX2_gain.desc).map (fun d => d.parameters.length) = some 3 := by decide +kernel
set_option maxHeartbeats 400000 in
set_option maxRecDepth 100000 in
theorem mX2_gain (l : Launch) (D : va_G) (cI cJ : ClassId) (a : Nat → Nat) (sz N : Nat) (τ : LSt) (σ : St) (p1 : Int32) (p2 : Int32) (p3 : Int32) (r : Int32) (hf : fX2_gain N σ p1 p2 p3 = some r) : Met l yX2_gain wsX2_gain rmX2_gain (RPre ([.ref (a 0), .int p1, .int p2, .int p3] : List Value) sz D (tyIJ cI cJ) (wHA cI cJ a τ σ)) (RQi sz r) 0 0 (fr0 sz) := by
  refine R_start (cc := cX2_gain) (maxL := 4) (ret := (some .int)) (by decide) rfl (Nat.le_of_ble_eq_true rfl) (fun p e s m below meth c ls hx hb hr hml hown hts hlk hP hK hS hA hsz hl => ?_)
  have hown : s.vm.findClass RX2 = some m.cls := hown
  have hl : lv_has ls 4 [(0, .ref (a 0)), (1, .int p1), (2, .int p2), (3, .int p3)] := hl
  have ln1 := hts (Cond.fieldLink RX2 39 "HoistsAreShared" "outcomes" "[I") (List.mem_of_getElem? (i := 1) rfl)
  have inX2 : ∀ w ∈ u_ws RX2 TX2 14, w ∈ wsX2_gain := fun _ h => List.mem_cons_of_mem _ (List.mem_append_right _ h)
  unfold fX2_gain at hf
  refine lv_iload_n hx hb dX2_gain_0 rfl (lv_at hl 1 rfl) ?_
  refine k_if_lt (tgt := 13) hx hb dX2_gain_1 (by decide) hf (fun hf => ?_) (fun hf => ?_)
  · refine lv_iconst (v := (0 : Int32)) hx hb dX2_gain_13 (by decide) ?_
    exact R_iret hx hb hr hlk hS hsz hf dX2_gain_14
  · refine lv_iload_n hx hb dX2_gain_4 rfl (lv_at hl 1 rfl) ?_
    refine lv_aload_n hx hb dX2_gain_5 rfl (lv_at hl 0 rfl) ?_
    refine va_get (D := D) (ci := 2) (v := .ref (a 24)) (C := RX2) (T := TX2) (N := 14) hx hb hts inX2 hown hK hP 0 rfl rfl 7 (by decide) ln1 (fun _ h9 => h9) rfl dX2_gain_6 ?_
    refine va_alen (v := (4 : Int32)) hx hb hK hP 24 0 rfl rfl rfl dX2_gain_9 ?_
    refine k_icmp_lt (tgt := 15) hx hb dX2_gain_10 (by decide) hf (fun hf => ?_) (fun hf => ?_)
    · refine lv_iload_n hx hb dX2_gain_15 rfl (lv_at hl 3 rfl) ?_
      refine lv_aload_n hx hb dX2_gain_16 rfl (lv_at hl 0 rfl) ?_
      refine va_get (D := D) (ci := 2) (v := .ref (a 24)) (C := RX2) (T := TX2) (N := 14) hx hb hts inX2 hown hK hP 0 rfl rfl 7 (by decide) ln1 (fun _ h9 => h9) rfl dX2_gain_17 ?_
      refine lv_iload_n hx hb dX2_gain_20 rfl (lv_at hl 1 rfl) ?_
      refine k_iald hx hb hK hP 24 0 hf rfl rfl dX2_gain_21 (fun v1 hf => ?_)
      refine c_callS (As := [.int p3, .int v1]) (rest := []) ⟨hx, hb, hml, hown, hts⟩ hf (fun vq hq => mX0_heightOf l D cI cJ s.heap.size N p3 v1 vq hq) (va_cwS 2 hts gX2_gain_X0_heightOf rfl rfl rfl qX0_heightOf ⟨Nat.le_of_ble_eq_true rfl, Nat.le_of_ble_eq_true rfl⟩) hK hP hS hA va_P_nil rfl hl.1 rfl (Nat.le_of_ble_eq_true rfl) dX2_gain_22 ⟨Nat.le_refl _, Nat.le_refl _⟩ (fun v2 H locs hP hS hf => ?_)
      refine lv_iload_n hx hb dX2_gain_25 rfl (lv_at hl 1 rfl) ?_
      refine lv_iload_n hx hb dX2_gain_26 rfl (lv_at hl 2 rfl) ?_
      refine lv_iand hx hb dX2_gain_27 ?_
      refine k_if_eq (tgt := 35) hx hb dX2_gain_28 (by decide) hf (fun hf => ?_) (fun hf => ?_)
      · refine lv_iconst (v := (0 : Int32)) hx hb dX2_gain_35 (by decide) ?_
        refine lv_iadd hx hb dX2_gain_36 ?_
        exact R_iret hx hb hr hlk hS hsz hf dX2_gain_37
      · refine lv_iconst (v := (1 : Int32)) hx hb dX2_gain_31 (by decide) ?_
        refine lv_goto (tgt := 36) hx hb dX2_gain_32 (by decide) ?_
        refine lv_iadd hx hb dX2_gain_36 ?_
        exact R_iret hx hb hr hlk hS hsz hf dX2_gain_37
    · refine lv_iconst (v := (0 : Int32)) hx hb dX2_gain_13 (by decide) ?_
      exact R_iret hx hb hr hlk hS hsz hf dX2_gain_14
def fX2_isSettled (N : Nat) (σ : St) (p1 : Int32) (p2 : Int32) (p3 : Int32) : Option Int32 :=
    bo (fX2_gain N σ p1 p2 p3) (fun v1 =>
    bo (fX2_gain N σ (p1 ^^^ p2) p2 p3) (fun v2 =>
    if v1 < v2 then zr (0 : Int32)
    else zr (1 : Int32)))
abbrev rmX2_isSettled : Room := { frames := 2, cells := 0, slots := 0, locals := 44 }
theorem qX2_isSettled : yX2_isSettled.cls = RX2 ∧ yX2_isSettled.cls ≠ "java/lang/invoke/MethodHandle" ∧ yX2_isSettled.cls ≠ "java/lang/invoke/VarHandle" ∧ (parseMethodDescriptor yX2_isSettled.desc).map (fun d => d.parameters.length) = some 3 := by decide +kernel
set_option maxHeartbeats 400000 in
set_option maxRecDepth 100000 in
theorem mX2_isSettled (l : Launch) (D : va_G) (cI cJ : ClassId) (a : Nat → Nat) (sz N : Nat) (τ : LSt) (σ : St) (p1 : Int32) (p2 : Int32) (p3 : Int32) (r : Int32) (hf : fX2_isSettled N σ p1 p2 p3 = some r) : Met l yX2_isSettled wsX2_isSettled rmX2_isSettled (RPre ([.ref (a 0), .int p1, .int p2, .int p3] : List Value) sz D (tyIJ cI cJ) (wHA cI cJ a τ σ)) (RQi sz r) 0 0 (fr0 sz) := by
  refine R_start (cc := cX2_isSettled) (maxL := 4) (ret := (some .boolean)) (by decide) rfl (Nat.le_of_ble_eq_true rfl) (fun p e s m below meth c ls hx hb hr hml hown hts hlk hP hK hS hA hsz hl => ?_)
  have hown : s.vm.findClass RX2 = some m.cls := hown
  have hl : lv_has ls 4 [(0, .ref (a 0)), (1, .int p1), (2, .int p2), (3, .int p3)] := hl
  unfold fX2_isSettled at hf
  refine lv_aload_n hx hb dX2_isSettled_0 rfl (lv_at hl 0 rfl) ?_
  refine lv_iload_n hx hb dX2_isSettled_1 rfl (lv_at hl 1 rfl) ?_
  refine lv_iload_n hx hb dX2_isSettled_2 rfl (lv_at hl 2 rfl) ?_
  refine lv_iload_n hx hb dX2_isSettled_3 rfl (lv_at hl 3 rfl) ?_
  refine c_callV (As := [.int p1, .int p2, .int p3]) (rest := []) ⟨hx, hb, hml, hown, hts⟩ hf (fun vq hq => mX2_gain l D cI cJ a s.heap.size N τ σ p1 p2 p3 vq hq) (cwV 3 hts gX2_isSettled_X2_gain rfl rfl rfl qX2_gain ⟨Nat.le_of_ble_eq_true rfl, Nat.le_of_ble_eq_true rfl⟩) hK hP hS hA hP 2 rfl rfl rfl rfl hl.1 rfl (Nat.le_of_ble_eq_true rfl) dX2_isSettled_4 ⟨Nat.le_refl _, Nat.le_refl _⟩ (fun v1 H locs hP hS hf => ?_)
  refine lv_aload_n hx hb dX2_isSettled_7 rfl (lv_at hl 0 rfl) ?_
  refine lv_iload_n hx hb dX2_isSettled_8 rfl (lv_at hl 1 rfl) ?_
  refine lv_iload_n hx hb dX2_isSettled_9 rfl (lv_at hl 2 rfl) ?_
  refine lv_ixor hx hb dX2_isSettled_10 ?_
  refine lv_iload_n hx hb dX2_isSettled_11 rfl (lv_at hl 2 rfl) ?_
  refine lv_iload_n hx hb dX2_isSettled_12 rfl (lv_at hl 3 rfl) ?_
  refine c_callV (As := [.int (p1 ^^^ p2), .int p2, .int p3]) (rest := [.int v1]) ⟨hx, hb, hml, hown, hts⟩ hf (fun vq hq => mX2_gain l D cI cJ a H.size N τ σ (p1 ^^^ p2) p2 p3 vq hq) (cwV 3 hts gX2_isSettled_X2_gain rfl rfl rfl qX2_gain ⟨Nat.le_of_ble_eq_true rfl, Nat.le_of_ble_eq_true rfl⟩) hK hP hS hA hP 2 rfl rfl rfl rfl hl.1 rfl (Nat.le_of_ble_eq_true rfl) dX2_isSettled_13 ⟨Nat.le_refl _, Nat.le_refl _⟩ (fun v2 H locs hP hS hf => ?_)
  refine k_icmp_lt (tgt := 23) hx hb dX2_isSettled_16 (by decide) hf (fun hf => ?_) (fun hf => ?_)
  · refine lv_iconst (v := (0 : Int32)) hx hb dX2_isSettled_23 (by decide) ?_
    exact R_zret hx hb hr hlk hS hsz hf dX2_isSettled_24
  · refine lv_iconst (v := (1 : Int32)) hx hb dX2_isSettled_19 (by decide) ?_
    refine lv_goto (tgt := 24) hx hb dX2_isSettled_20 (by decide) ?_
    exact R_zret hx hb hr hlk hS hsz hf dX2_isSettled_24
def fX2_reckonOutcomes_L58 (N : Nat) (k3 : St → Int32 → Int32 → Int32 → Int32 → Option St) (z : St) (x1 : Int32) (x2 : Int32) (x3 : Int32) (x4 : Int32) : Option St :=
    bo (fX0_floorAfter N (sb [7, 8, 9, 10, 11, 12] z) x3) (fun v2 =>
    bo (wrI z 24 4 x4 v2) (fun z3 =>
    lt_ (x4 + (1 : Int32) : Int32) (fun v4 =>
    k3 z3 x1 x2 x3 v4)))
def fX2_reckonOutcomes_L41 (N : Nat) (k3 : St → Int32 → Int32 → Int32 → Int32 → Option St) (z : St) (x1 : Int32) (x2 : Int32) (x3 : Int32) (x4 : Int32) : Option St :=
    if (x4 &&& (1 : Int32)) = 0 then bx (fX0_put N (sb [7, 8, 9, 10, 11, 12] z) x2 (2 : Int32)) (fun uq => pb [7, 8, 9, 10, 11, 12] uq z) (fun v6 z5 =>
    fX2_reckonOutcomes_L58 N k3 z5 x1 x2 x3 x4)
    else fX2_reckonOutcomes_L58 N k3 z x1 x2 x3 x4
def fX2_reckonOutcomes_L3 (N : Nat)  : Nat → St → Int32 → Int32 → Int32 → Int32 → Option St
  | 0, _, _, _, _, _ => none
  | n + 1, z, x1, x2, x3, x4 =>
    if (4 : Int32) ≤ x4 then some z
    else by_ (fX0_copy N (sb [7, 8, 9, 10, 11, 12, 1, 2, 3, 4, 5, 6] z)) (fun uq => pb [7, 8, 9, 10, 11, 12, 1, 2, 3, 4, 5, 6] uq z) (fun z1 =>
    if (x4 &&& (2 : Int32)) = 0 then bx (fX0_put N (sb [7, 8, 9, 10, 11, 12] z1) x1 (2 : Int32)) (fun uq => pb [7, 8, 9, 10, 11, 12] uq z1) (fun v8 z7 =>
    fX2_reckonOutcomes_L41 N (fX2_reckonOutcomes_L3 N n) z7 x1 x2 x3 x4)
    else fX2_reckonOutcomes_L41 N (fX2_reckonOutcomes_L3 N n) z1 x1 x2 x3 x4)
def fX2_reckonOutcomes (N : Nat) (σ : St) (p1 : Int32) (p2 : Int32) (p3 : Int32) : Option St :=
    fX2_reckonOutcomes_L3 N  N σ p1 p2 p3 (0 : Int32)
abbrev rmX2_reckonOutcomes : Room := { frames := 4, cells := 0, slots := 0, locals := 95 }
theorem qX2_reckonOutcomes : yX2_reckonOutcomes.cls = RX2 ∧ yX2_reckonOutcomes.cls ≠ "java/lang/invoke/MethodHandle" ∧ yX2_reckonOutcomes.cls ≠ "java/lang/invoke/VarHandle" ∧ (parseMethodDescriptor yX2_reckonOutcomes.desc).map (fun d => d.parameters.length) = some 3 := by decide +kernel
set_option maxHeartbeats 400000 in
set_option maxRecDepth 100000 in
theorem mX2_reckonOutcomes (l : Launch) (D : va_G) (cI cJ : ClassId) (a : Nat → Nat) (sz N : Nat) (τ : LSt) (σ : St) (p1 : Int32) (p2 : Int32) (p3 : Int32) (r : St) (hf : fX2_reckonOutcomes N σ p1 p2 p3 = some r) : Met l yX2_reckonOutcomes wsX2_reckonOutcomes rmX2_reckonOutcomes (WPre ([.ref (a 0), .int p1, .int p2, .int p3] : List Value) sz D (tyIJ cI cJ) (wHA cI cJ a τ σ)) (WQv sz D (wHA cI cJ a τ σ) (wHA cI cJ a τ r)) 0 0 (va_A (wHA cI cJ a τ σ) sz) := by
  refine W_start (cc := cX2_reckonOutcomes) (maxL := 5) (ret := none) (by decide) rfl (Nat.le_of_ble_eq_true rfl) (fun p e s m below meth c ls A hx hb hr hml hown hts hlk hP hK hS hA hD0 hAe hl => ?_)
  have hD : ∀ z, va_D A ((wHA cI cJ a τ) z) := fun z => hD0.ad rfl
  have hown : s.vm.findClass RX2 = some m.cls := hown
  have hl : lv_has ls 5 [(0, .ref (a 0)), (1, .int p1), (2, .int p2), (3, .int p3)] := hl
  have ln1 := hts (Cond.fieldLink RX2 39 "HoistsAreShared" "outcomes" "[I") (List.mem_of_getElem? (i := 1) rfl)
  have inX2 : ∀ w ∈ u_ws RX2 TX2 14, w ∈ wsX2_reckonOutcomes := fun _ h => List.mem_cons_of_mem _ (List.mem_append_left _ (List.mem_append_right _ h))
  have ln3 := hts (Cond.fieldLink RX2 16 "HoistsAreShared" "mind" "LHoistsAreShared$Hoist;") (List.mem_of_getElem? (i := 2) rfl)
  have ln4 := hts (Cond.fieldLink RX2 10 "HoistsAreShared" "now" "LHoistsAreShared$Hoist;") (List.mem_of_getElem? (i := 3) rfl)
  have b58 : ∀ (k3 : St → Int32 → Int32 → Int32 → Int32 → Option St) (hk3 : (∀ (z : St) (x1 : Int32) (x2 : Int32) (x3 : Int32) (x4 : Int32) (H : Heap) (locs : List Loc) (ls : Array Slot), va_P D vwCl (wHA cI cJ a τ z) H → va_S A s.heap H locs → lv_has ls 5 [(0, .ref (a 0)), (1, .int x1), (2, .int x2), (3, .int x3), (4, .int x4)] → k3 z x1 x2 x3 x4 = some r → W p l e rmX2_reckonOutcomes s m ([.ref (a 0), .int p1, .int p2, .int p3] : List Value).toArray below meth c H locs 0 0 (MQ below (WQv sz D (wHA cI cJ a τ σ) (wHA cI cJ a τ r)) ([.ref (a 0), .int p1, .int p2, .int p3] : List Value).toArray s 0 0 A) (F0 m 3 ls []))) (z : St) (x1 : Int32) (x2 : Int32) (x3 : Int32) (x4 : Int32) (H : Heap) (locs : List Loc) (ls : Array Slot), va_P D vwCl (wHA cI cJ a τ z) H → va_S A s.heap H locs → lv_has ls 5 [(0, .ref (a 0)), (1, .int x1), (2, .int x2), (3, .int x3), (4, .int x4)] → fX2_reckonOutcomes_L58 N k3 z x1 x2 x3 x4 = some r → W p l e rmX2_reckonOutcomes s m ([.ref (a 0), .int p1, .int p2, .int p3] : List Value).toArray below meth c H locs 0 0 (MQ below (WQv sz D (wHA cI cJ a τ σ) (wHA cI cJ a τ r)) ([.ref (a 0), .int p1, .int p2, .int p3] : List Value).toArray s 0 0 A) (F0 m 58 ls []) := by
    intro k3 hk3 z x1 x2 x3 x4 H locs ls hP hS hl hf
    unfold fX2_reckonOutcomes_L58 at hf
    refine lv_aload_n hx hb dX2_reckonOutcomes_58 rfl (lv_at hl 0 rfl) ?_
    refine va_get (D := D) (ci := 2) (v := .ref (a 24)) (C := RX2) (T := TX2) (N := 14) hx hb hts inX2 hown hK hP 0 rfl rfl 7 (by decide) ln1 (fun _ h9 => h9) rfl dX2_reckonOutcomes_59 ?_
    refine lv_iload hx hb dX2_reckonOutcomes_62 (lv_at hl 4 rfl) ?_
    refine lv_aload_n hx hb dX2_reckonOutcomes_64 rfl (lv_at hl 0 rfl) ?_
    refine va_get (D := D) (ci := 2) (v := .ref (a 7)) (C := RX2) (T := TX2) (N := 14) hx hb hts inX2 hown hK hP 0 rfl rfl 1 (by decide) ln3 (fun _ h9 => h9) rfl dX2_reckonOutcomes_65 ?_
    refine lv_iload_n hx hb dX2_reckonOutcomes_68 rfl (lv_at hl 3 rfl) ?_
    refine c_callV (As := [.int x3]) (rest := [.int x4, .ref (a 24)]) ⟨hx, hb, hml, hown, hts⟩ hf (fun vq hq => mX0_floorAfter l D cI cJ (sb [7, 8, 9, 10, 11, 12] a) H.size N (sb [7, 8, 9, 10, 11, 12] z) x3 vq hq) (cwV 1 hts gX2_reckonOutcomes_X0_floorAfter rfl rfl rfl qX0_floorAfter ⟨Nat.le_of_ble_eq_true rfl, Nat.le_of_ble_eq_true rfl⟩) hK hP hS hA (cmr_HA_Ho_7_8_9_10_11_12 D cI cJ a τ z hP) 0 rfl rfl rfl rfl hl.1 rfl (Nat.le_of_ble_eq_true rfl) dX2_reckonOutcomes_69 ⟨Nat.le_refl _, Nat.le_refl _⟩ (fun v2 H locs hP hS hf => ?_)
    refine k_iast (w := (wHA cI cJ a τ)) hx hb hK hP hD hS 24 0 hf rfl rfl (fun _ => rfl) dX2_reckonOutcomes_72 (fun z3 H locs hP hS hf => ?_)
    refine k_iinc (d := (1 : Int32)) (lv' := fun v4 => [(4, .int v4), (0, .ref (a 0)), (1, .int x1), (2, .int x2), (3, .int x3)]) hx hb dX2_reckonOutcomes_73 hl (k := 4) rfl (by decide) (by decide) (fun _ => rfl) hf (fun v4 ls hl hf => ?_)
    refine lv_goto (tgt := 3) hx hb dX2_reckonOutcomes_76 (by decide) ?_
    exact hk3 z3 x1 x2 x3 v4 H locs ls hP hS (lv_sub hl [1, 2, 3, 4, 0] rfl) hf
  have b41 : ∀ (k3 : St → Int32 → Int32 → Int32 → Int32 → Option St) (hk3 : (∀ (z : St) (x1 : Int32) (x2 : Int32) (x3 : Int32) (x4 : Int32) (H : Heap) (locs : List Loc) (ls : Array Slot), va_P D vwCl (wHA cI cJ a τ z) H → va_S A s.heap H locs → lv_has ls 5 [(0, .ref (a 0)), (1, .int x1), (2, .int x2), (3, .int x3), (4, .int x4)] → k3 z x1 x2 x3 x4 = some r → W p l e rmX2_reckonOutcomes s m ([.ref (a 0), .int p1, .int p2, .int p3] : List Value).toArray below meth c H locs 0 0 (MQ below (WQv sz D (wHA cI cJ a τ σ) (wHA cI cJ a τ r)) ([.ref (a 0), .int p1, .int p2, .int p3] : List Value).toArray s 0 0 A) (F0 m 3 ls []))) (z : St) (x1 : Int32) (x2 : Int32) (x3 : Int32) (x4 : Int32) (H : Heap) (locs : List Loc) (ls : Array Slot), va_P D vwCl (wHA cI cJ a τ z) H → va_S A s.heap H locs → lv_has ls 5 [(0, .ref (a 0)), (1, .int x1), (2, .int x2), (3, .int x3), (4, .int x4)] → fX2_reckonOutcomes_L41 N k3 z x1 x2 x3 x4 = some r → W p l e rmX2_reckonOutcomes s m ([.ref (a 0), .int p1, .int p2, .int p3] : List Value).toArray below meth c H locs 0 0 (MQ below (WQv sz D (wHA cI cJ a τ σ) (wHA cI cJ a τ r)) ([.ref (a 0), .int p1, .int p2, .int p3] : List Value).toArray s 0 0 A) (F0 m 41 ls []) := by
    intro k3 hk3 z x1 x2 x3 x4 H locs ls hP hS hl hf
    unfold fX2_reckonOutcomes_L41 at hf
    refine lv_iload hx hb dX2_reckonOutcomes_41 (lv_at hl 4 rfl) ?_
    refine lv_iconst (v := (1 : Int32)) hx hb dX2_reckonOutcomes_43 (by decide) ?_
    refine lv_iand hx hb dX2_reckonOutcomes_44 ?_
    refine k_if_ne (tgt := 58) hx hb dX2_reckonOutcomes_45 (by decide) hf (fun hf => ?_) (fun hf => ?_)
    · exact b58 k3 hk3 z x1 x2 x3 x4 H locs ls hP hS (lv_sub hl [0, 1, 2, 3, 4] rfl) hf
    · refine lv_aload_n hx hb dX2_reckonOutcomes_48 rfl (lv_at hl 0 rfl) ?_
      refine va_get (D := D) (ci := 2) (v := .ref (a 7)) (C := RX2) (T := TX2) (N := 14) hx hb hts inX2 hown hK hP 0 rfl rfl 1 (by decide) ln3 (fun _ h9 => h9) rfl dX2_reckonOutcomes_49 ?_
      refine lv_iload_n hx hb dX2_reckonOutcomes_52 rfl (lv_at hl 2 rfl) ?_
      refine lv_iconst (v := (2 : Int32)) hx hb dX2_reckonOutcomes_53 (by decide) ?_
      refine d_callV (As := [.int x2, .int (2 : Int32)]) (rest := []) (w := (wHA cI cJ a τ)) (wc := (wHo cI (sb [7, 8, 9, 10, 11, 12] a))) (put := (fun uq => pb [7, 8, 9, 10, 11, 12] uq z)) (σ := z) (τ0 := (sb [7, 8, 9, 10, 11, 12] z)) ⟨hx, hb, hml, hown, hts⟩ hf (fun vq zq hq => mX0_put l D cI cJ (sb [7, 8, 9, 10, 11, 12] a) H.size N (sb [7, 8, 9, 10, 11, 12] z) x2 (2 : Int32) (vq, zq) hq) (cwV 2 hts gX2_reckonOutcomes_X0_put rfl rfl rfl qX0_put ⟨Nat.le_of_ble_eq_true rfl, Nat.le_of_ble_eq_true rfl⟩) hK hP hD hS hA (cmb_HA_Ho_7_8_9_10_11_12 D cI cJ a τ z hP (hD _)) 0 rfl rfl rfl rfl hl.1 rfl (Nat.le_of_ble_eq_true rfl) dX2_reckonOutcomes_54 ⟨Nat.le_refl _, Nat.le_refl _⟩ (fun v6 z5 H locs hP hS hf => ?_)
      refine lv_pop hx hb dX2_reckonOutcomes_57 rfl ?_
      exact b58 k3 hk3 z5 x1 x2 x3 x4 H locs ls hP hS (lv_sub hl [0, 1, 2, 3, 4] rfl) hf
  have b3 : ∀  (n : Nat) (z : St) (x1 : Int32) (x2 : Int32) (x3 : Int32) (x4 : Int32) (H : Heap) (locs : List Loc) (ls : Array Slot), va_P D vwCl (wHA cI cJ a τ z) H → va_S A s.heap H locs → lv_has ls 5 [(0, .ref (a 0)), (1, .int x1), (2, .int x2), (3, .int x3), (4, .int x4)] → fX2_reckonOutcomes_L3 N n z x1 x2 x3 x4 = some r → W p l e rmX2_reckonOutcomes s m ([.ref (a 0), .int p1, .int p2, .int p3] : List Value).toArray below meth c H locs 0 0 (MQ below (WQv sz D (wHA cI cJ a τ σ) (wHA cI cJ a τ r)) ([.ref (a 0), .int p1, .int p2, .int p3] : List Value).toArray s 0 0 A) (F0 m 3 ls []) := by
    intro n
    induction n with
    | zero => intro z x1 x2 x3 x4 H locs ls hP hS hl hf; cases hf
    | succ n ih =>
      intro z x1 x2 x3 x4 H locs ls hP hS hl hf
      rw [fX2_reckonOutcomes_L3] at hf
      refine lv_iload hx hb dX2_reckonOutcomes_3 (lv_at hl 4 rfl) ?_
      refine lv_aload_n hx hb dX2_reckonOutcomes_5 rfl (lv_at hl 0 rfl) ?_
      refine va_get (D := D) (ci := 2) (v := .ref (a 24)) (C := RX2) (T := TX2) (N := 14) hx hb hts inX2 hown hK hP 0 rfl rfl 7 (by decide) ln1 (fun _ h9 => h9) rfl dX2_reckonOutcomes_6 ?_
      refine va_alen (v := (4 : Int32)) hx hb hK hP 24 0 rfl rfl rfl dX2_reckonOutcomes_9 ?_
      refine k_icmp_ge (tgt := 79) hx hb dX2_reckonOutcomes_10 (by decide) hf (fun hf => ?_) (fun hf => ?_)
      · exact W_vret (wHA cI cJ a τ) hx hb hr hlk hP hS hAe hf dX2_reckonOutcomes_79
      · refine lv_aload_n hx hb dX2_reckonOutcomes_13 rfl (lv_at hl 0 rfl) ?_
        refine va_get (D := D) (ci := 2) (v := .ref (a 7)) (C := RX2) (T := TX2) (N := 14) hx hb hts inX2 hown hK hP 0 rfl rfl 1 (by decide) ln3 (fun _ h9 => h9) rfl dX2_reckonOutcomes_14 ?_
        refine lv_aload_n hx hb dX2_reckonOutcomes_17 rfl (lv_at hl 0 rfl) ?_
        refine va_get (D := D) (ci := 2) (v := .ref (a 1)) (C := RX2) (T := TX2) (N := 14) hx hb hts inX2 hown hK hP 0 rfl rfl 0 (by decide) ln4 (fun _ h9 => h9) rfl dX2_reckonOutcomes_18 ?_
        refine d_callVv (As := [.ref ((sb [7, 8, 9, 10, 11, 12, 1, 2, 3, 4, 5, 6] a) 6)]) (rest := []) (w := (wHA cI cJ a τ)) (wc := (wHo2 cI (sb [7, 8, 9, 10, 11, 12, 1, 2, 3, 4, 5, 6] a))) (put := (fun uq => pb [7, 8, 9, 10, 11, 12, 1, 2, 3, 4, 5, 6] uq z)) (σ := z) (τ0 := (sb [7, 8, 9, 10, 11, 12, 1, 2, 3, 4, 5, 6] z)) ⟨hx, hb, hml, hown, hts⟩ hf (fun zq hq => mX0_copy l D cI cJ (sb [7, 8, 9, 10, 11, 12, 1, 2, 3, 4, 5, 6] a) H.size N (sb [7, 8, 9, 10, 11, 12, 1, 2, 3, 4, 5, 6] z) zq hq) (cwV 1 hts gX2_reckonOutcomes_X0_copy rfl rfl rfl qX0_copy ⟨Nat.le_of_ble_eq_true rfl, Nat.le_of_ble_eq_true rfl⟩) hK hP hD hS hA (cmb_HA_Ho2_7_8_9_10_11_12_1_2_3_4_5_6 D cI cJ a τ z hP (hD _)) 0 rfl rfl rfl rfl hl.1 rfl (Nat.le_of_ble_eq_true rfl) dX2_reckonOutcomes_21 ⟨Nat.le_refl _, Nat.le_refl _⟩ (fun z1 H locs hP hS hf => ?_)
        refine lv_iload hx hb dX2_reckonOutcomes_24 (lv_at hl 4 rfl) ?_
        refine lv_iconst (v := (2 : Int32)) hx hb dX2_reckonOutcomes_26 (by decide) ?_
        refine lv_iand hx hb dX2_reckonOutcomes_27 ?_
        refine k_if_ne (tgt := 41) hx hb dX2_reckonOutcomes_28 (by decide) hf (fun hf => ?_) (fun hf => ?_)
        · exact b41 (fX2_reckonOutcomes_L3 N n) ih z1 x1 x2 x3 x4 H locs ls hP hS (lv_sub hl [0, 1, 2, 3, 4] rfl) hf
        · refine lv_aload_n hx hb dX2_reckonOutcomes_31 rfl (lv_at hl 0 rfl) ?_
          refine va_get (D := D) (ci := 2) (v := .ref (a 7)) (C := RX2) (T := TX2) (N := 14) hx hb hts inX2 hown hK hP 0 rfl rfl 1 (by decide) ln3 (fun _ h9 => h9) rfl dX2_reckonOutcomes_32 ?_
          refine lv_iload_n hx hb dX2_reckonOutcomes_35 rfl (lv_at hl 1 rfl) ?_
          refine lv_iconst (v := (2 : Int32)) hx hb dX2_reckonOutcomes_36 (by decide) ?_
          refine d_callV (As := [.int x1, .int (2 : Int32)]) (rest := []) (w := (wHA cI cJ a τ)) (wc := (wHo cI (sb [7, 8, 9, 10, 11, 12] a))) (put := (fun uq => pb [7, 8, 9, 10, 11, 12] uq z1)) (σ := z1) (τ0 := (sb [7, 8, 9, 10, 11, 12] z1)) ⟨hx, hb, hml, hown, hts⟩ hf (fun vq zq hq => mX0_put l D cI cJ (sb [7, 8, 9, 10, 11, 12] a) H.size N (sb [7, 8, 9, 10, 11, 12] z1) x1 (2 : Int32) (vq, zq) hq) (cwV 2 hts gX2_reckonOutcomes_X0_put rfl rfl rfl qX0_put ⟨Nat.le_of_ble_eq_true rfl, Nat.le_of_ble_eq_true rfl⟩) hK hP hD hS hA (cmb_HA_Ho_7_8_9_10_11_12 D cI cJ a τ z1 hP (hD _)) 0 rfl rfl rfl rfl hl.1 rfl (Nat.le_of_ble_eq_true rfl) dX2_reckonOutcomes_37 ⟨Nat.le_refl _, Nat.le_refl _⟩ (fun v8 z7 H locs hP hS hf => ?_)
          refine lv_pop hx hb dX2_reckonOutcomes_40 rfl ?_
          exact b41 (fX2_reckonOutcomes_L3 N n) ih z7 x1 x2 x3 x4 H locs ls hP hS (lv_sub hl [0, 1, 2, 3, 4] rfl) hf
  unfold fX2_reckonOutcomes at hf
  refine lv_iconst (v := (0 : Int32)) hx hb dX2_reckonOutcomes_0 (by decide) ?_
  refine lv_istore (lv' := [(4, .int (0 : Int32)), (0, .ref (a 0)), (1, .int p1), (2, .int p2), (3, .int p3)]) hx hb dX2_reckonOutcomes_1 hl (by decide) rfl (fun ls hl => ?_)
  exact b3  N σ p1 p2 p3 (0 : Int32) s.heap [] ls hP hS (lv_sub hl [1, 2, 3, 4, 0] rfl) hf
def fX2_two_L27 (N : Nat)  (z : St) : Option (Int32 × St) :=
    bx (fX2_refuse N z (-1 : Int32)) (fun uq => uq) (fun v3 z2 =>
    some (v3, z2))
def fX2_two_L78 (N : Nat)  (z : St) : Option (Int32 × St) :=
    bx (fX2_refuse N z (-3 : Int32)) (fun uq => uq) (fun v8 z7 =>
    some (v8, z7))
def fX2_two_L154 (N : Nat) (k95 : St → Int32 → Int32 → Int32 → Option (Int32 × St)) (z : St) (x1 : Int32) (x2 : Int32) (x5 : Int32) : Option (Int32 × St) :=
    lt_ (x5 + (1 : Int32) : Int32) (fun v13 =>
    k95 z x1 x2 v13)
def fX2_two_L95 (N : Nat)  : Nat → St → Int32 → Int32 → Int32 → Option (Int32 × St)
  | 0, _, _, _, _ => none
  | n + 1, z, x1, x2, x5 =>
    if (4 : Int32) ≤ x5 then some ((-9 : Int32), z)
    else bo (fX0_placeOf N (sb [1, 2, 3, 4, 5, 6] z) x1) (fun v11 =>
    bo (fX2_isSettled N z x5 (2 : Int32) v11) (fun v12 =>
    if v12 = 0 then fX2_two_L154 N (fX2_two_L95 N n) z x1 x2 x5
    else bo (fX0_placeOf N (sb [1, 2, 3, 4, 5, 6] z) x2) (fun v14 =>
    bo (fX2_isSettled N z x5 (1 : Int32) v14) (fun v15 =>
    if v15 = 0 then fX2_two_L154 N (fX2_two_L95 N n) z x1 x2 x5
    else some ((((10 : Int32) * (x5 >>> ((1 : Int32) &&& 31))) + (x5 &&& (1 : Int32))), z)))))
def fX2_two (N : Nat) (σ : St) (p1 : Int32) (p2 : Int32) (p3 : Int32) : Option (Int32 × St) :=
    bo (fX0_has N (sb [1, 2, 3, 4, 5, 6] σ) p1) (fun v1 =>
    if v1 = 0 then fX2_two_L27 N  σ
    else bo (fX0_has N (sb [1, 2, 3, 4, 5, 6] σ) p2) (fun v4 =>
    if v4 = 0 then fX2_two_L27 N  σ
    else if p1 = p2 then fX2_two_L27 N  σ
    else bo (fX2_faultOf N p3 (0 : Int32) (30 : Int32)) (fun v5 =>
    if v5 = 0 then bo (fX0_placeOf N (sb [1, 2, 3, 4, 5, 6] σ) p1) (fun v6 =>
    if v6 = (2 : Int32) then fX2_two_L78 N  σ
    else bo (fX0_placeOf N (sb [1, 2, 3, 4, 5, 6] σ) p2) (fun v9 =>
    if v9 = (2 : Int32) then fX2_two_L78 N  σ
    else by_ (fX2_reckonOutcomes N σ p1 p2 p3) (fun uq => uq) (fun z10 =>
    fX2_two_L95 N  N z10 p1 p2 (0 : Int32))))
    else bx (fX2_refuse N σ v5) (fun uq => uq) (fun v17 z16 =>
    some (v17, z16)))))
abbrev rmX2_two : Room := { frames := 5, cells := 0, slots := 0, locals := 119 }
theorem qX2_two : yX2_two.cls = RX2 ∧ yX2_two.cls ≠ "java/lang/invoke/MethodHandle" ∧ yX2_two.cls ≠ "java/lang/invoke/VarHandle" ∧ (parseMethodDescriptor yX2_two.desc).map (fun d => d.parameters.length) = some 3 := by decide +kernel
set_option maxHeartbeats 400000 in
set_option maxRecDepth 100000 in
theorem mX2_two (l : Launch) (D : va_G) (cI cJ : ClassId) (a : Nat → Nat) (sz N : Nat) (τ : LSt) (σ : St) (p1 : Int32) (p2 : Int32) (p3 : Int32) (r : (Int32 × St)) (hf : fX2_two N σ p1 p2 p3 = some r) : Met l yX2_two wsX2_two rmX2_two (WPre ([.ref (a 0), .int p1, .int p2, .int p3] : List Value) sz D (tyIJ cI cJ) (wHA cI cJ a τ σ)) (WQi sz D (wHA cI cJ a τ σ) (wHA cI cJ a τ (r.2)) r.1) 0 0 (va_A (wHA cI cJ a τ σ) sz) := by
  refine W_start (cc := cX2_two) (maxL := 6) (ret := (some .int)) (by decide) rfl (Nat.le_of_ble_eq_true rfl) (fun p e s m below meth c ls A hx hb hr hml hown hts hlk hP hK hS hA hD0 hAe hl => ?_)
  have hD : ∀ z, va_D A ((wHA cI cJ a τ) z) := fun z => hD0.ad rfl
  have hown : s.vm.findClass RX2 = some m.cls := hown
  have hl : lv_has ls 6 [(0, .ref (a 0)), (1, .int p1), (2, .int p2), (3, .int p3)] := hl
  have ln1 := hts (Cond.fieldLink RX2 10 "HoistsAreShared" "now" "LHoistsAreShared$Hoist;") (List.mem_of_getElem? (i := 1) rfl)
  have inX2 : ∀ w ∈ u_ws RX2 TX2 14, w ∈ wsX2_two := fun _ h => List.mem_cons_of_mem _ (List.mem_append_left _ (List.mem_append_right _ h))
  have ln3 := hts (Cond.fieldLink RX2 39 "HoistsAreShared" "outcomes" "[I") (List.mem_of_getElem? (i := 2) rfl)
  have b27 : ∀  (z : St) (H : Heap) (locs : List Loc) (ls : Array Slot), va_P D vwCl (wHA cI cJ a τ z) H → va_S A s.heap H locs → lv_has ls 6 [(0, .ref (a 0))] → fX2_two_L27 N z = some r → W p l e rmX2_two s m ([.ref (a 0), .int p1, .int p2, .int p3] : List Value).toArray below meth c H locs 0 0 (MQ below (WQi sz D (wHA cI cJ a τ σ) (wHA cI cJ a τ (r.2)) r.1) ([.ref (a 0), .int p1, .int p2, .int p3] : List Value).toArray s 0 0 A) (F0 m 27 ls []) := by
    intro  z H locs ls hP hS hl hf
    unfold fX2_two_L27 at hf
    refine lv_aload_n hx hb dX2_two_27 rfl (lv_at hl 0 rfl) ?_
    refine lv_iconst (v := (-1 : Int32)) hx hb dX2_two_28 (by decide) ?_
    refine d_callV (As := [.int (-1 : Int32)]) (rest := []) (w := (wHA cI cJ a τ)) (wc := (wHA cI cJ a τ)) (put := (fun uq => uq)) (σ := z) (τ0 := z) ⟨hx, hb, hml, hown, hts⟩ hf (fun vq zq hq => mX2_refuse l D cI cJ a H.size N τ z (-1 : Int32) (vq, zq) hq) (cwV 1 hts gX2_two_X2_refuse rfl rfl rfl qX2_refuse ⟨Nat.le_of_ble_eq_true rfl, Nat.le_of_ble_eq_true rfl⟩) hK hP hD hS hA ⟨hP, hD _, fun _ _ _ h => h⟩ 2 rfl rfl rfl rfl hl.1 rfl (Nat.le_of_ble_eq_true rfl) dX2_two_29 ⟨Nat.le_refl _, Nat.le_refl _⟩ (fun v3 z2 H locs hP hS hf => ?_)
    exact W_iret (wHA cI cJ a τ) hx hb hr hlk hP hS hAe hf dX2_two_32
  have b78 : ∀  (z : St) (H : Heap) (locs : List Loc) (ls : Array Slot), va_P D vwCl (wHA cI cJ a τ z) H → va_S A s.heap H locs → lv_has ls 6 [(0, .ref (a 0))] → fX2_two_L78 N z = some r → W p l e rmX2_two s m ([.ref (a 0), .int p1, .int p2, .int p3] : List Value).toArray below meth c H locs 0 0 (MQ below (WQi sz D (wHA cI cJ a τ σ) (wHA cI cJ a τ (r.2)) r.1) ([.ref (a 0), .int p1, .int p2, .int p3] : List Value).toArray s 0 0 A) (F0 m 78 ls []) := by
    intro  z H locs ls hP hS hl hf
    unfold fX2_two_L78 at hf
    refine lv_aload_n hx hb dX2_two_78 rfl (lv_at hl 0 rfl) ?_
    refine lv_bipush (v := (-3 : Int32)) hx hb dX2_two_79 (by decide) ?_
    refine d_callV (As := [.int (-3 : Int32)]) (rest := []) (w := (wHA cI cJ a τ)) (wc := (wHA cI cJ a τ)) (put := (fun uq => uq)) (σ := z) (τ0 := z) ⟨hx, hb, hml, hown, hts⟩ hf (fun vq zq hq => mX2_refuse l D cI cJ a H.size N τ z (-3 : Int32) (vq, zq) hq) (cwV 1 hts gX2_two_X2_refuse rfl rfl rfl qX2_refuse ⟨Nat.le_of_ble_eq_true rfl, Nat.le_of_ble_eq_true rfl⟩) hK hP hD hS hA ⟨hP, hD _, fun _ _ _ h => h⟩ 2 rfl rfl rfl rfl hl.1 rfl (Nat.le_of_ble_eq_true rfl) dX2_two_81 ⟨Nat.le_refl _, Nat.le_refl _⟩ (fun v8 z7 H locs hP hS hf => ?_)
    exact W_iret (wHA cI cJ a τ) hx hb hr hlk hP hS hAe hf dX2_two_84
  have b154 : ∀ (k95 : St → Int32 → Int32 → Int32 → Option (Int32 × St)) (hk95 : (∀ (z : St) (x1 : Int32) (x2 : Int32) (x5 : Int32) (H : Heap) (locs : List Loc) (ls : Array Slot), va_P D vwCl (wHA cI cJ a τ z) H → va_S A s.heap H locs → lv_has ls 6 [(0, .ref (a 0)), (1, .int x1), (2, .int x2), (5, .int x5)] → k95 z x1 x2 x5 = some r → W p l e rmX2_two s m ([.ref (a 0), .int p1, .int p2, .int p3] : List Value).toArray below meth c H locs 0 0 (MQ below (WQi sz D (wHA cI cJ a τ σ) (wHA cI cJ a τ (r.2)) r.1) ([.ref (a 0), .int p1, .int p2, .int p3] : List Value).toArray s 0 0 A) (F0 m 95 ls []))) (z : St) (x1 : Int32) (x2 : Int32) (x5 : Int32) (H : Heap) (locs : List Loc) (ls : Array Slot), va_P D vwCl (wHA cI cJ a τ z) H → va_S A s.heap H locs → lv_has ls 6 [(0, .ref (a 0)), (1, .int x1), (2, .int x2), (5, .int x5)] → fX2_two_L154 N k95 z x1 x2 x5 = some r → W p l e rmX2_two s m ([.ref (a 0), .int p1, .int p2, .int p3] : List Value).toArray below meth c H locs 0 0 (MQ below (WQi sz D (wHA cI cJ a τ σ) (wHA cI cJ a τ (r.2)) r.1) ([.ref (a 0), .int p1, .int p2, .int p3] : List Value).toArray s 0 0 A) (F0 m 154 ls []) := by
    intro k95 hk95 z x1 x2 x5 H locs ls hP hS hl hf
    unfold fX2_two_L154 at hf
    refine k_iinc (d := (1 : Int32)) (lv' := fun v13 => [(5, .int v13), (0, .ref (a 0)), (1, .int x1), (2, .int x2)]) hx hb dX2_two_154 hl (k := 3) rfl (by decide) (by decide) (fun _ => rfl) hf (fun v13 ls hl hf => ?_)
    refine lv_goto (tgt := 95) hx hb dX2_two_157 (by decide) ?_
    exact hk95 z x1 x2 v13 H locs ls hP hS (lv_sub hl [1, 2, 3, 0] rfl) hf
  have b95 : ∀  (n : Nat) (z : St) (x1 : Int32) (x2 : Int32) (x5 : Int32) (H : Heap) (locs : List Loc) (ls : Array Slot), va_P D vwCl (wHA cI cJ a τ z) H → va_S A s.heap H locs → lv_has ls 6 [(0, .ref (a 0)), (1, .int x1), (2, .int x2), (5, .int x5)] → fX2_two_L95 N n z x1 x2 x5 = some r → W p l e rmX2_two s m ([.ref (a 0), .int p1, .int p2, .int p3] : List Value).toArray below meth c H locs 0 0 (MQ below (WQi sz D (wHA cI cJ a τ σ) (wHA cI cJ a τ (r.2)) r.1) ([.ref (a 0), .int p1, .int p2, .int p3] : List Value).toArray s 0 0 A) (F0 m 95 ls []) := by
    intro n
    induction n with
    | zero => intro z x1 x2 x5 H locs ls hP hS hl hf; cases hf
    | succ n ih =>
      intro z x1 x2 x5 H locs ls hP hS hl hf
      rw [fX2_two_L95] at hf
      refine lv_iload hx hb dX2_two_95 (lv_at hl 3 rfl) ?_
      refine lv_aload_n hx hb dX2_two_97 rfl (lv_at hl 0 rfl) ?_
      refine va_get (D := D) (ci := 2) (v := .ref (a 24)) (C := RX2) (T := TX2) (N := 14) hx hb hts inX2 hown hK hP 0 rfl rfl 7 (by decide) ln3 (fun _ h9 => h9) rfl dX2_two_98 ?_
      refine va_alen (v := (4 : Int32)) hx hb hK hP 24 0 rfl rfl rfl dX2_two_101 ?_
      refine k_icmp_ge (tgt := 160) hx hb dX2_two_102 (by decide) hf (fun hf => ?_) (fun hf => ?_)
      · refine lv_bipush (v := (-9 : Int32)) hx hb dX2_two_160 (by decide) ?_
        exact W_iret (wHA cI cJ a τ) hx hb hr hlk hP hS hAe hf dX2_two_162
      · refine lv_aload_n hx hb dX2_two_105 rfl (lv_at hl 0 rfl) ?_
        refine lv_iload hx hb dX2_two_106 (lv_at hl 3 rfl) ?_
        refine lv_iconst (v := (2 : Int32)) hx hb dX2_two_108 (by decide) ?_
        refine lv_aload_n hx hb dX2_two_109 rfl (lv_at hl 0 rfl) ?_
        refine va_get (D := D) (ci := 2) (v := .ref (a 1)) (C := RX2) (T := TX2) (N := 14) hx hb hts inX2 hown hK hP 0 rfl rfl 0 (by decide) ln1 (fun _ h9 => h9) rfl dX2_two_110 ?_
        refine lv_iload_n hx hb dX2_two_113 rfl (lv_at hl 1 rfl) ?_
        refine c_callV (As := [.int x1]) (rest := [.int (2 : Int32), .int x5, .ref (a 0)]) ⟨hx, hb, hml, hown, hts⟩ hf (fun vq hq => mX0_placeOf l D cI cJ (sb [1, 2, 3, 4, 5, 6] a) H.size N (sb [1, 2, 3, 4, 5, 6] z) x1 vq hq) (cwV 1 hts gX2_two_X0_placeOf rfl rfl rfl qX0_placeOf ⟨Nat.le_of_ble_eq_true rfl, Nat.le_of_ble_eq_true rfl⟩) hK hP hS hA (cmr_HA_Ho_1_2_3_4_5_6 D cI cJ a τ z hP) 0 rfl rfl rfl rfl hl.1 rfl (Nat.le_of_ble_eq_true rfl) dX2_two_114 ⟨Nat.le_refl _, Nat.le_refl _⟩ (fun v11 H locs hP hS hf => ?_)
        refine c_callV (As := [.int x5, .int (2 : Int32), .int v11]) (rest := []) ⟨hx, hb, hml, hown, hts⟩ hf (fun vq hq => mX2_isSettled l D cI cJ a H.size N τ z x5 (2 : Int32) v11 vq hq) (cwV 3 hts gX2_two_X2_isSettled rfl rfl rfl qX2_isSettled ⟨Nat.le_of_ble_eq_true rfl, Nat.le_of_ble_eq_true rfl⟩) hK hP hS hA hP 2 rfl rfl rfl rfl hl.1 rfl (Nat.le_of_ble_eq_true rfl) dX2_two_117 ⟨Nat.le_refl _, Nat.le_refl _⟩ (fun v12 H locs hP hS hf => ?_)
        refine k_if_eq (tgt := 154) hx hb dX2_two_120 (by decide) hf (fun hf => ?_) (fun hf => ?_)
        · exact b154 (fX2_two_L95 N n) ih z x1 x2 x5 H locs ls hP hS (lv_sub hl [0, 1, 2, 3] rfl) hf
        · refine lv_aload_n hx hb dX2_two_123 rfl (lv_at hl 0 rfl) ?_
          refine lv_iload hx hb dX2_two_124 (lv_at hl 3 rfl) ?_
          refine lv_iconst (v := (1 : Int32)) hx hb dX2_two_126 (by decide) ?_
          refine lv_aload_n hx hb dX2_two_127 rfl (lv_at hl 0 rfl) ?_
          refine va_get (D := D) (ci := 2) (v := .ref (a 1)) (C := RX2) (T := TX2) (N := 14) hx hb hts inX2 hown hK hP 0 rfl rfl 0 (by decide) ln1 (fun _ h9 => h9) rfl dX2_two_128 ?_
          refine lv_iload_n hx hb dX2_two_131 rfl (lv_at hl 2 rfl) ?_
          refine c_callV (As := [.int x2]) (rest := [.int (1 : Int32), .int x5, .ref (a 0)]) ⟨hx, hb, hml, hown, hts⟩ hf (fun vq hq => mX0_placeOf l D cI cJ (sb [1, 2, 3, 4, 5, 6] a) H.size N (sb [1, 2, 3, 4, 5, 6] z) x2 vq hq) (cwV 1 hts gX2_two_X0_placeOf rfl rfl rfl qX0_placeOf ⟨Nat.le_of_ble_eq_true rfl, Nat.le_of_ble_eq_true rfl⟩) hK hP hS hA (cmr_HA_Ho_1_2_3_4_5_6 D cI cJ a τ z hP) 0 rfl rfl rfl rfl hl.1 rfl (Nat.le_of_ble_eq_true rfl) dX2_two_132 ⟨Nat.le_refl _, Nat.le_refl _⟩ (fun v14 H locs hP hS hf => ?_)
          refine c_callV (As := [.int x5, .int (1 : Int32), .int v14]) (rest := []) ⟨hx, hb, hml, hown, hts⟩ hf (fun vq hq => mX2_isSettled l D cI cJ a H.size N τ z x5 (1 : Int32) v14 vq hq) (cwV 3 hts gX2_two_X2_isSettled rfl rfl rfl qX2_isSettled ⟨Nat.le_of_ble_eq_true rfl, Nat.le_of_ble_eq_true rfl⟩) hK hP hS hA hP 2 rfl rfl rfl rfl hl.1 rfl (Nat.le_of_ble_eq_true rfl) dX2_two_135 ⟨Nat.le_refl _, Nat.le_refl _⟩ (fun v15 H locs hP hS hf => ?_)
          refine k_if_eq (tgt := 154) hx hb dX2_two_138 (by decide) hf (fun hf => ?_) (fun hf => ?_)
          · exact b154 (fX2_two_L95 N n) ih z x1 x2 x5 H locs ls hP hS (lv_sub hl [0, 1, 2, 3] rfl) hf
          · refine lv_bipush (v := (10 : Int32)) hx hb dX2_two_141 (by decide) ?_
            refine lv_iload hx hb dX2_two_143 (lv_at hl 3 rfl) ?_
            refine lv_iconst (v := (1 : Int32)) hx hb dX2_two_145 (by decide) ?_
            refine lv_ishr hx hb dX2_two_146 ?_
            refine lv_imul hx hb dX2_two_147 ?_
            refine lv_iload hx hb dX2_two_148 (lv_at hl 3 rfl) ?_
            refine lv_iconst (v := (1 : Int32)) hx hb dX2_two_150 (by decide) ?_
            refine lv_iand hx hb dX2_two_151 ?_
            refine lv_iadd hx hb dX2_two_152 ?_
            exact W_iret (wHA cI cJ a τ) hx hb hr hlk hP hS hAe hf dX2_two_153
  unfold fX2_two at hf
  refine lv_aload_n hx hb dX2_two_0 rfl (lv_at hl 0 rfl) ?_
  refine va_get (D := D) (ci := 2) (v := .ref (a 1)) (C := RX2) (T := TX2) (N := 14) hx hb hts inX2 hown hK hP 0 rfl rfl 0 (by decide) ln1 (fun _ h9 => h9) rfl dX2_two_1 ?_
  refine lv_iload_n hx hb dX2_two_4 rfl (lv_at hl 1 rfl) ?_
  refine c_callV (As := [.int p1]) (rest := []) ⟨hx, hb, hml, hown, hts⟩ hf (fun vq hq => mX0_has l D cI cJ (sb [1, 2, 3, 4, 5, 6] a) s.heap.size N (sb [1, 2, 3, 4, 5, 6] σ) p1 vq hq) (cwV 1 hts gX2_two_X0_has rfl rfl rfl qX0_has ⟨Nat.le_of_ble_eq_true rfl, Nat.le_of_ble_eq_true rfl⟩) hK hP hS hA (cmr_HA_Ho_1_2_3_4_5_6 D cI cJ a τ σ hP) 0 rfl rfl rfl rfl hl.1 rfl (Nat.le_of_ble_eq_true rfl) dX2_two_5 ⟨Nat.le_refl _, Nat.le_refl _⟩ (fun v1 H locs hP hS hf => ?_)
  refine k_if_eq (tgt := 27) hx hb dX2_two_8 (by decide) hf (fun hf => ?_) (fun hf => ?_)
  · exact b27  σ H locs ls hP hS (lv_sub hl [0] rfl) hf
  · refine lv_aload_n hx hb dX2_two_11 rfl (lv_at hl 0 rfl) ?_
    refine va_get (D := D) (ci := 2) (v := .ref (a 1)) (C := RX2) (T := TX2) (N := 14) hx hb hts inX2 hown hK hP 0 rfl rfl 0 (by decide) ln1 (fun _ h9 => h9) rfl dX2_two_12 ?_
    refine lv_iload_n hx hb dX2_two_15 rfl (lv_at hl 2 rfl) ?_
    refine c_callV (As := [.int p2]) (rest := []) ⟨hx, hb, hml, hown, hts⟩ hf (fun vq hq => mX0_has l D cI cJ (sb [1, 2, 3, 4, 5, 6] a) H.size N (sb [1, 2, 3, 4, 5, 6] σ) p2 vq hq) (cwV 1 hts gX2_two_X0_has rfl rfl rfl qX0_has ⟨Nat.le_of_ble_eq_true rfl, Nat.le_of_ble_eq_true rfl⟩) hK hP hS hA (cmr_HA_Ho_1_2_3_4_5_6 D cI cJ a τ σ hP) 0 rfl rfl rfl rfl hl.1 rfl (Nat.le_of_ble_eq_true rfl) dX2_two_16 ⟨Nat.le_refl _, Nat.le_refl _⟩ (fun v4 H locs hP hS hf => ?_)
    refine k_if_eq (tgt := 27) hx hb dX2_two_19 (by decide) hf (fun hf => ?_) (fun hf => ?_)
    · exact b27  σ H locs ls hP hS (lv_sub hl [0] rfl) hf
    · refine lv_iload_n hx hb dX2_two_22 rfl (lv_at hl 1 rfl) ?_
      refine lv_iload_n hx hb dX2_two_23 rfl (lv_at hl 2 rfl) ?_
      refine k_icmp_ne (tgt := 33) hx hb dX2_two_24 (by decide) hf (fun hf => ?_) (fun hf => ?_)
      · refine lv_iload_n hx hb dX2_two_33 rfl (lv_at hl 3 rfl) ?_
        refine lv_iconst (v := (0 : Int32)) hx hb dX2_two_34 (by decide) ?_
        refine lv_bipush (v := (30 : Int32)) hx hb dX2_two_35 (by decide) ?_
        refine c_callS (As := [.int p3, .int (0 : Int32), .int (30 : Int32)]) (rest := []) ⟨hx, hb, hml, hown, hts⟩ hf (fun vq hq => mX2_faultOf l D cI cJ H.size N p3 (0 : Int32) (30 : Int32) vq hq) (va_cwS 3 hts gX2_two_X2_faultOf rfl rfl rfl qX2_faultOf ⟨Nat.le_of_ble_eq_true rfl, Nat.le_of_ble_eq_true rfl⟩) hK hP hS hA va_P_nil rfl hl.1 rfl (Nat.le_of_ble_eq_true rfl) dX2_two_37 ⟨Nat.le_refl _, Nat.le_refl _⟩ (fun v5 H locs hP hS hf => ?_)
        refine lv_istore (lv' := [(4, .int v5), (0, .ref (a 0)), (1, .int p1), (2, .int p2), (3, .int p3)]) hx hb dX2_two_40 hl (by decide) rfl (fun ls hl => ?_)
        refine lv_iload hx hb dX2_two_42 (lv_at hl 0 rfl) ?_
        refine k_if_eq (tgt := 54) hx hb dX2_two_44 (by decide) hf (fun hf => ?_) (fun hf => ?_)
        · refine lv_aload_n hx hb dX2_two_54 rfl (lv_at hl 1 rfl) ?_
          refine va_get (D := D) (ci := 2) (v := .ref (a 1)) (C := RX2) (T := TX2) (N := 14) hx hb hts inX2 hown hK hP 0 rfl rfl 0 (by decide) ln1 (fun _ h9 => h9) rfl dX2_two_55 ?_
          refine lv_iload_n hx hb dX2_two_58 rfl (lv_at hl 2 rfl) ?_
          refine c_callV (As := [.int p1]) (rest := []) ⟨hx, hb, hml, hown, hts⟩ hf (fun vq hq => mX0_placeOf l D cI cJ (sb [1, 2, 3, 4, 5, 6] a) H.size N (sb [1, 2, 3, 4, 5, 6] σ) p1 vq hq) (cwV 1 hts gX2_two_X0_placeOf rfl rfl rfl qX0_placeOf ⟨Nat.le_of_ble_eq_true rfl, Nat.le_of_ble_eq_true rfl⟩) hK hP hS hA (cmr_HA_Ho_1_2_3_4_5_6 D cI cJ a τ σ hP) 0 rfl rfl rfl rfl hl.1 rfl (Nat.le_of_ble_eq_true rfl) dX2_two_59 ⟨Nat.le_refl _, Nat.le_refl _⟩ (fun v6 H locs hP hS hf => ?_)
          refine lv_iconst (v := (2 : Int32)) hx hb dX2_two_62 (by decide) ?_
          refine k_icmp_eq (tgt := 78) hx hb dX2_two_63 (by decide) hf (fun hf => ?_) (fun hf => ?_)
          · exact b78  σ H locs ls hP hS (lv_sub hl [1] rfl) hf
          · refine lv_aload_n hx hb dX2_two_66 rfl (lv_at hl 1 rfl) ?_
            refine va_get (D := D) (ci := 2) (v := .ref (a 1)) (C := RX2) (T := TX2) (N := 14) hx hb hts inX2 hown hK hP 0 rfl rfl 0 (by decide) ln1 (fun _ h9 => h9) rfl dX2_two_67 ?_
            refine lv_iload_n hx hb dX2_two_70 rfl (lv_at hl 3 rfl) ?_
            refine c_callV (As := [.int p2]) (rest := []) ⟨hx, hb, hml, hown, hts⟩ hf (fun vq hq => mX0_placeOf l D cI cJ (sb [1, 2, 3, 4, 5, 6] a) H.size N (sb [1, 2, 3, 4, 5, 6] σ) p2 vq hq) (cwV 1 hts gX2_two_X0_placeOf rfl rfl rfl qX0_placeOf ⟨Nat.le_of_ble_eq_true rfl, Nat.le_of_ble_eq_true rfl⟩) hK hP hS hA (cmr_HA_Ho_1_2_3_4_5_6 D cI cJ a τ σ hP) 0 rfl rfl rfl rfl hl.1 rfl (Nat.le_of_ble_eq_true rfl) dX2_two_71 ⟨Nat.le_refl _, Nat.le_refl _⟩ (fun v9 H locs hP hS hf => ?_)
            refine lv_iconst (v := (2 : Int32)) hx hb dX2_two_74 (by decide) ?_
            refine k_icmp_ne (tgt := 85) hx hb dX2_two_75 (by decide) hf (fun hf => ?_) (fun hf => ?_)
            · refine lv_aload_n hx hb dX2_two_85 rfl (lv_at hl 1 rfl) ?_
              refine lv_iload_n hx hb dX2_two_86 rfl (lv_at hl 2 rfl) ?_
              refine lv_iload_n hx hb dX2_two_87 rfl (lv_at hl 3 rfl) ?_
              refine lv_iload_n hx hb dX2_two_88 rfl (lv_at hl 4 rfl) ?_
              refine d_callVv (As := [.int p1, .int p2, .int p3]) (rest := []) (w := (wHA cI cJ a τ)) (wc := (wHA cI cJ a τ)) (put := (fun uq => uq)) (σ := σ) (τ0 := σ) ⟨hx, hb, hml, hown, hts⟩ hf (fun zq hq => mX2_reckonOutcomes l D cI cJ a H.size N τ σ p1 p2 p3 zq hq) (cwV 3 hts gX2_two_X2_reckonOutcomes rfl rfl rfl qX2_reckonOutcomes ⟨Nat.le_of_ble_eq_true rfl, Nat.le_of_ble_eq_true rfl⟩) hK hP hD hS hA ⟨hP, hD _, fun _ _ _ h => h⟩ 2 rfl rfl rfl rfl hl.1 rfl (Nat.le_of_ble_eq_true rfl) dX2_two_89 ⟨Nat.le_refl _, Nat.le_refl _⟩ (fun z10 H locs hP hS hf => ?_)
              refine lv_iconst (v := (0 : Int32)) hx hb dX2_two_92 (by decide) ?_
              refine lv_istore (lv' := [(5, .int (0 : Int32)), (4, .int v5), (0, .ref (a 0)), (1, .int p1), (2, .int p2), (3, .int p3)]) hx hb dX2_two_93 hl (by decide) rfl (fun ls hl => ?_)
              exact b95  N z10 p1 p2 (0 : Int32) H locs ls hP hS (lv_sub hl [2, 3, 4, 0] rfl) hf
            · exact b78  σ H locs ls hP hS (lv_sub hl [1] rfl) hf
        · refine lv_aload_n hx hb dX2_two_47 rfl (lv_at hl 1 rfl) ?_
          refine lv_iload hx hb dX2_two_48 (lv_at hl 0 rfl) ?_
          refine d_callV (As := [.int v5]) (rest := []) (w := (wHA cI cJ a τ)) (wc := (wHA cI cJ a τ)) (put := (fun uq => uq)) (σ := σ) (τ0 := σ) ⟨hx, hb, hml, hown, hts⟩ hf (fun vq zq hq => mX2_refuse l D cI cJ a H.size N τ σ v5 (vq, zq) hq) (cwV 1 hts gX2_two_X2_refuse rfl rfl rfl qX2_refuse ⟨Nat.le_of_ble_eq_true rfl, Nat.le_of_ble_eq_true rfl⟩) hK hP hD hS hA ⟨hP, hD _, fun _ _ _ h => h⟩ 2 rfl rfl rfl rfl hl.1 rfl (Nat.le_of_ble_eq_true rfl) dX2_two_50 ⟨Nat.le_refl _, Nat.le_refl _⟩ (fun v17 z16 H locs hP hS hf => ?_)
          exact W_iret (wHA cI cJ a τ) hx hb hr hlk hP hS hAe hf dX2_two_53
      · exact b27  σ H locs ls hP hS (lv_sub hl [0] rfl) hf
def fX2_greatestDivisor_L9 (N : Nat)  : Nat → Int64 → Int64 → Int32 → Option Int64
  | 0, _, _, _ => none
  | n + 1, x4, x6, x8 =>
    if (200 : Int32) ≤ x8 then some x4
    else if x6 = (0 : Int64) then some x4
    else bo (rmL x4 x6) (fun v1 =>
    lt_ (x8 + (1 : Int32) : Int32) (fun v2 =>
    (fX2_greatestDivisor_L9 N n) x6 v1 v2))
def fX2_greatestDivisor (N : Nat) (p1 : Int64) (p2 : Int64) : Option Int64 :=
    fX2_greatestDivisor_L9 N  N p1 p2 (0 : Int32)
abbrev rmX2_greatestDivisor : Room := { frames := 0, cells := 0, slots := 0, locals := 0 }
theorem qX2_greatestDivisor : yX2_greatestDivisor.cls ≠ "java/lang/invoke/MethodHandle" ∧ yX2_greatestDivisor.cls ≠ "java/lang/invoke/VarHandle" ∧ (parseMethodDescriptor yX2_greatestDivisor.desc).map (fun d => d.parameters.length) = some 2 := by decide +kernel
set_option maxHeartbeats 400000 in
set_option maxRecDepth 100000 in
theorem mX2_greatestDivisor (l : Launch) (D : va_G) (cI cJ : ClassId) (sz N : Nat) (p1 : Int64) (p2 : Int64) (r : Int64) (hf : fX2_greatestDivisor N p1 p2 = some r) : Met l yX2_greatestDivisor wsX2_greatestDivisor rmX2_greatestDivisor (RPre ([.long p1, .long p2] : List Value) sz D (tyIJ cI cJ) (wNo)) (RQl sz r) 0 0 (fr0 sz) := by
  refine R_start (cc := cX2_greatestDivisor) (maxL := 11) (ret := (some .long)) (by decide) rfl (Nat.le_of_ble_eq_true rfl) (fun p e s m below meth c ls hx hb hr hml hown hts hlk hP hK hS hA hsz hl => ?_)
  have hown : s.vm.findClass RX2 = some m.cls := hown
  have hl : lv_has ls 11 [(0, .long p1), (2, .long p2)] := hl
  have b9 : ∀  (n : Nat) (x4 : Int64) (x6 : Int64) (x8 : Int32) (H : Heap) (locs : List Loc) (ls : Array Slot), va_P D vwCl (wNo) H → va_S (fr0 s.heap.size) s.heap H locs → lv_has ls 11 [(4, .long x4), (6, .long x6), (8, .int x8)] → fX2_greatestDivisor_L9 N n x4 x6 x8 = some r → W p l e rmX2_greatestDivisor s m ([.long p1, .long p2] : List Value).toArray below meth c H locs 0 0 (MQ below (RQl sz r) ([.long p1, .long p2] : List Value).toArray s 0 0 (fr0 sz)) (F0 m 9 ls []) := by
    intro n
    induction n with
    | zero => intro x4 x6 x8 H locs ls hP hS hl hf; cases hf
    | succ n ih =>
      intro x4 x6 x8 H locs ls hP hS hl hf
      rw [fX2_greatestDivisor_L9] at hf
      refine lv_iload hx hb dX2_greatestDivisor_9 (lv_at hl 2 rfl) ?_
      refine lv_sipush (v := (200 : Int32)) hx hb dX2_greatestDivisor_11 (by decide) ?_
      refine k_icmp_ge (tgt := 45) hx hb dX2_greatestDivisor_14 (by decide) hf (fun hf => ?_) (fun hf => ?_)
      · refine lv_lload hx hb dX2_greatestDivisor_45 (lv_at hl 0 rfl) ?_
        exact R_lret hx hb hr hlk hS hsz hf dX2_greatestDivisor_47
      · refine lv_lload hx hb dX2_greatestDivisor_17 (lv_at hl 1 rfl) ?_
        refine lv_lconst (v := (0 : Int64)) hx hb dX2_greatestDivisor_19 (by decide) ?_
        refine k_lcmp_eq (tgt := 45) hx hb dX2_greatestDivisor_20 dX2_greatestDivisor_21 (by decide) hf (fun hf => ?_) (fun hf => ?_)
        · refine lv_lload hx hb dX2_greatestDivisor_45 (lv_at hl 0 rfl) ?_
          exact R_lret hx hb hr hlk hS hsz hf dX2_greatestDivisor_47
        · refine lv_lload hx hb dX2_greatestDivisor_24 (lv_at hl 0 rfl) ?_
          refine lv_lload hx hb dX2_greatestDivisor_26 (lv_at hl 1 rfl) ?_
          refine k_lrem hx hb dX2_greatestDivisor_28 hf (fun v1 hf => ?_)
          refine lv_lstore (lv' := [(9, .long v1), (4, .long x4), (6, .long x6), (8, .int x8)]) hx hb dX2_greatestDivisor_29 hl (by decide) rfl (fun ls hl => ?_)
          refine lv_lload hx hb dX2_greatestDivisor_31 (lv_at hl 2 rfl) ?_
          refine lv_lstore (lv' := [(4, .long x6), (9, .long v1), (6, .long x6), (8, .int x8)]) hx hb dX2_greatestDivisor_33 hl (by decide) rfl (fun ls hl => ?_)
          refine lv_lload hx hb dX2_greatestDivisor_35 (lv_at hl 1 rfl) ?_
          refine lv_lstore (lv' := [(6, .long v1), (4, .long x6), (9, .long v1), (8, .int x8)]) hx hb dX2_greatestDivisor_37 hl (by decide) rfl (fun ls hl => ?_)
          refine k_iinc (d := (1 : Int32)) (lv' := fun v2 => [(8, .int v2), (6, .long v1), (4, .long x6), (9, .long v1)]) hx hb dX2_greatestDivisor_39 hl (k := 3) rfl (by decide) (by decide) (fun _ => rfl) hf (fun v2 ls hl hf => ?_)
          refine lv_goto (tgt := 9) hx hb dX2_greatestDivisor_42 (by decide) ?_
          exact ih x6 v1 v2 H locs ls hP hS (lv_sub hl [2, 1, 0] rfl) hf
  unfold fX2_greatestDivisor at hf
  refine lv_lload_n hx hb dX2_greatestDivisor_0 rfl (lv_at hl 0 rfl) ?_
  refine lv_lstore (lv' := [(4, .long p1), (0, .long p1), (2, .long p2)]) hx hb dX2_greatestDivisor_1 hl (by decide) rfl (fun ls hl => ?_)
  refine lv_lload_n hx hb dX2_greatestDivisor_3 rfl (lv_at hl 2 rfl) ?_
  refine lv_lstore (lv' := [(6, .long p2), (4, .long p1), (0, .long p1), (2, .long p2)]) hx hb dX2_greatestDivisor_4 hl (by decide) rfl (fun ls hl => ?_)
  refine lv_iconst (v := (0 : Int32)) hx hb dX2_greatestDivisor_6 (by decide) ?_
  refine lv_istore (lv' := [(8, .int (0 : Int32)), (6, .long p2), (4, .long p1), (0, .long p1), (2, .long p2)]) hx hb dX2_greatestDivisor_7 hl (by decide) rfl (fun ls hl => ?_)
  exact b9  N p1 p2 (0 : Int32) s.heap [] ls hP hS (lv_sub hl [2, 1, 0] rfl) hf
def fX2_partOf (N : Nat) (p1 : Int64) (p2 : Int64) (p3 : Int32) : Option Int64 :=
    if p1 = (0 : Int64) then some (p3.toInt64)
    else bo (fX2_greatestDivisor N p1 p2) (fun v1 =>
    if v1 = (0 : Int64) then some (p3.toInt64)
    else if p3 = 0 then bo (dvL p1 v1) (fun v3 =>
    some v3)
    else bo (dvL p2 v1) (fun v2 =>
    some v2))
abbrev rmX2_partOf : Room := { frames := 1, cells := 0, slots := 0, locals := 30 }
theorem qX2_partOf : yX2_partOf.cls ≠ "java/lang/invoke/MethodHandle" ∧ yX2_partOf.cls ≠ "java/lang/invoke/VarHandle" ∧ (parseMethodDescriptor yX2_partOf.desc).map (fun d => d.parameters.length) = some 3 := by decide +kernel
set_option maxHeartbeats 400000 in
set_option maxRecDepth 100000 in
theorem mX2_partOf (l : Launch) (D : va_G) (cI cJ : ClassId) (sz N : Nat) (p1 : Int64) (p2 : Int64) (p3 : Int32) (r : Int64) (hf : fX2_partOf N p1 p2 p3 = some r) : Met l yX2_partOf wsX2_partOf rmX2_partOf (RPre ([.long p1, .long p2, .int p3] : List Value) sz D (tyIJ cI cJ) (wNo)) (RQl sz r) 0 0 (fr0 sz) := by
  refine R_start (cc := cX2_partOf) (maxL := 7) (ret := (some .long)) (by decide) rfl (Nat.le_of_ble_eq_true rfl) (fun p e s m below meth c ls hx hb hr hml hown hts hlk hP hK hS hA hsz hl => ?_)
  have hown : s.vm.findClass RX2 = some m.cls := hown
  have hl : lv_has ls 7 [(0, .long p1), (2, .long p2), (4, .int p3)] := hl
  unfold fX2_partOf at hf
  refine lv_lload_n hx hb dX2_partOf_0 rfl (lv_at hl 0 rfl) ?_
  refine lv_lconst (v := (0 : Int64)) hx hb dX2_partOf_1 (by decide) ?_
  refine k_lcmp_ne (tgt := 10) hx hb dX2_partOf_2 dX2_partOf_3 (by decide) hf (fun hf => ?_) (fun hf => ?_)
  · refine lv_lload_n hx hb dX2_partOf_10 rfl (lv_at hl 0 rfl) ?_
    refine lv_lload_n hx hb dX2_partOf_11 rfl (lv_at hl 1 rfl) ?_
    refine c_callSL (As := [.long p1, .long p2]) (rest := []) ⟨hx, hb, hml, hown, hts⟩ hf (fun vq hq => mX2_greatestDivisor l D cI cJ s.heap.size N p1 p2 vq hq) (va_cwS 2 hts gX2_partOf_X2_greatestDivisor rfl rfl rfl qX2_greatestDivisor ⟨Nat.le_of_ble_eq_true rfl, Nat.le_of_ble_eq_true rfl⟩) hK hP hS hA hP rfl hl.1 rfl (Nat.le_of_ble_eq_true rfl) dX2_partOf_12 ⟨Nat.le_refl _, Nat.le_refl _⟩ (fun v1 H locs hP hS hf => ?_)
    refine lv_lstore (lv' := [(5, .long v1), (0, .long p1), (2, .long p2), (4, .int p3)]) hx hb dX2_partOf_15 hl (by decide) rfl (fun ls hl => ?_)
    refine lv_lload hx hb dX2_partOf_17 (lv_at hl 0 rfl) ?_
    refine lv_lconst (v := (0 : Int64)) hx hb dX2_partOf_19 (by decide) ?_
    refine k_lcmp_ne (tgt := 28) hx hb dX2_partOf_20 dX2_partOf_21 (by decide) hf (fun hf => ?_) (fun hf => ?_)
    · refine lv_iload hx hb dX2_partOf_28 (lv_at hl 3 rfl) ?_
      refine k_if_ne (tgt := 37) hx hb dX2_partOf_30 (by decide) hf (fun hf => ?_) (fun hf => ?_)
      · refine lv_lload_n hx hb dX2_partOf_37 rfl (lv_at hl 2 rfl) ?_
        refine lv_lload hx hb dX2_partOf_38 (lv_at hl 0 rfl) ?_
        refine k_ldiv hx hb dX2_partOf_40 hf (fun v2 hf => ?_)
        exact R_lret hx hb hr hlk hS hsz hf dX2_partOf_41
      · refine lv_lload_n hx hb dX2_partOf_33 rfl (lv_at hl 1 rfl) ?_
        refine lv_goto (tgt := 38) hx hb dX2_partOf_34 (by decide) ?_
        refine lv_lload hx hb dX2_partOf_38 (lv_at hl 0 rfl) ?_
        refine k_ldiv hx hb dX2_partOf_40 hf (fun v3 hf => ?_)
        exact R_lret hx hb hr hlk hS hsz hf dX2_partOf_41
    · refine lv_iload hx hb dX2_partOf_24 (lv_at hl 3 rfl) ?_
      refine lv_i2l hx hb dX2_partOf_26 rfl ?_
      exact R_lret hx hb hr hlk hS hsz hf dX2_partOf_27
  · refine lv_iload hx hb dX2_partOf_6 (lv_at hl 2 rfl) ?_
    refine lv_i2l hx hb dX2_partOf_8 rfl ?_
    exact R_lret hx hb hr hlk hS hsz hf dX2_partOf_9
def fX2_addOdds (N : Nat) (σ : St) (τ : LSt) (p1 : Int32) (p2 : Int64) : Option LSt :=
    if p1 < 0 then some τ
    else if (21 : Int32) ≤ p1 then some τ
    else bo (rdL τ 1 21 p1) (fun v1 =>
    lt_ ((v1 + p2) : Int64) (fun v3 =>
    bo (wrL τ 1 21 p1 v3) (fun z2 =>
    some z2)))
abbrev rmX2_addOdds : Room := { frames := 0, cells := 0, slots := 0, locals := 0 }
theorem qX2_addOdds : yX2_addOdds.cls = RX2 ∧ yX2_addOdds.cls ≠ "java/lang/invoke/MethodHandle" ∧ yX2_addOdds.cls ≠ "java/lang/invoke/VarHandle" ∧ (parseMethodDescriptor yX2_addOdds.desc).map (fun d => d.parameters.length) = some 2 := by decide +kernel
set_option maxHeartbeats 400000 in
set_option maxRecDepth 100000 in
theorem mX2_addOdds (l : Launch) (D : va_G) (cI cJ : ClassId) (a : Nat → Nat) (sz N : Nat) (τ : LSt) (σ : St) (p1 : Int32) (p2 : Int64) (r : LSt) (hf : fX2_addOdds N σ τ p1 p2 = some r) : Met l yX2_addOdds wsX2_addOdds rmX2_addOdds (WPre ([.ref (a 0), .int p1, .long p2] : List Value) sz D (tyIJ cI cJ) (wHA cI cJ a τ σ)) (WQv sz D (wHA cI cJ a τ σ) (wHA cI cJ a r σ)) 0 0 (va_A (wHA cI cJ a τ σ) sz) := by
  refine W_start (cc := cX2_addOdds) (maxL := 4) (ret := none) (by decide) rfl (Nat.le_of_ble_eq_true rfl) (fun p e s m below meth c ls A hx hb hr hml hown hts hlk hP hK hS hA hD0 hAe hl => ?_)
  have hD : ∀ z, va_D A ((fun (z : LSt) => wHA cI cJ a z σ) z) := fun z => hD0.ad rfl
  have hown : s.vm.findClass RX2 = some m.cls := hown
  have hl : lv_has ls 4 [(0, .ref (a 0)), (1, .int p1), (2, .long p2)] := hl
  have ln1 := hts (Cond.fieldLink RX2 46 "HoistsAreShared" "nextOdds" "[J") (List.mem_of_getElem? (i := 1) rfl)
  have inX2 : ∀ w ∈ u_ws RX2 TX2 14, w ∈ wsX2_addOdds := fun _ h => List.mem_cons_of_mem _ (List.mem_append_right _ h)
  unfold fX2_addOdds at hf
  refine lv_iload_n hx hb dX2_addOdds_0 rfl (lv_at hl 1 rfl) ?_
  refine k_if_lt (tgt := 23) hx hb dX2_addOdds_1 (by decide) hf (fun hf => ?_) (fun hf => ?_)
  · exact W_vret (fun (z : LSt) => wHA cI cJ a z σ) hx hb hr hlk hP hS hAe hf dX2_addOdds_23
  · refine lv_iload_n hx hb dX2_addOdds_4 rfl (lv_at hl 1 rfl) ?_
    refine lv_aload_n hx hb dX2_addOdds_5 rfl (lv_at hl 0 rfl) ?_
    refine va_get (D := D) (ci := 2) (v := .ref (a 26)) (C := RX2) (T := TX2) (N := 14) hx hb hts inX2 hown hK hP 0 rfl rfl 9 (by decide) ln1 (fun _ h9 => h9) rfl dX2_addOdds_6 ?_
    refine va_alen (v := (21 : Int32)) hx hb hK hP 26 1 rfl rfl rfl dX2_addOdds_9 ?_
    refine k_icmp_ge (tgt := 23) hx hb dX2_addOdds_10 (by decide) hf (fun hf => ?_) (fun hf => ?_)
    · exact W_vret (fun (z : LSt) => wHA cI cJ a z σ) hx hb hr hlk hP hS hAe hf dX2_addOdds_23
    · refine lv_aload_n hx hb dX2_addOdds_13 rfl (lv_at hl 0 rfl) ?_
      refine va_get (D := D) (ci := 2) (v := .ref (a 26)) (C := RX2) (T := TX2) (N := 14) hx hb hts inX2 hown hK hP 0 rfl rfl 9 (by decide) ln1 (fun _ h9 => h9) rfl dX2_addOdds_14 ?_
      refine lv_iload_n hx hb dX2_addOdds_17 rfl (lv_at hl 1 rfl) ?_
      refine lv_dup2_11 hx hb dX2_addOdds_18 rfl rfl ?_
      refine k_lald hx hb hK hP 26 1 hf rfl rfl dX2_addOdds_19 (fun v1 hf => ?_)
      refine lv_lload_n hx hb dX2_addOdds_20 rfl (lv_at hl 2 rfl) ?_
      refine lv_ladd hx hb dX2_addOdds_21 ?_
      refine k_letL hf (fun v3 hf => ?_)
      refine k_last (w := (fun (z : LSt) => wHA cI cJ a z σ)) hx hb hK hP hD hS 26 1 hf rfl rfl (fun _ => rfl) dX2_addOdds_22 (fun z2 H locs hP hS hf => ?_)
      exact W_vret (fun (z : LSt) => wHA cI cJ a z σ) hx hb hr hlk hP hS hAe hf dX2_addOdds_23
def fX2_spreadOdds_L81 (N : Nat) (σ : St)  : Nat → LSt → Int32 → Option LSt
  | 0, _, _ => none
  | n + 1, z, x3 =>
    if (21 : Int32) ≤ x3 then some z
    else if (21 : Int32) ≤ x3 then some z
    else bo (rdL z 1 21 x3) (fun v1 =>
    bo (wrL z 0 21 x3 v1) (fun z2 =>
    lt_ (x3 + (1 : Int32) : Int32) (fun v3 =>
    (fX2_spreadOdds_L81 N σ n) z2 v3)))
def fX2_spreadOdds_L26 (N : Nat) (σ : St)  : Nat → LSt → Int32 → Int32 → Int32 → Option LSt
  | 0, _, _, _, _ => none
  | n + 1, z, x1, x2, x3 =>
    if (21 : Int32) ≤ x3 then fX2_spreadOdds_L81 N σ  N z (0 : Int32)
    else bo (fX0_moved N x3 x1) (fun v4 =>
    bo (rdL z 0 21 x3) (fun v5 =>
    by_ (fX2_addOdds N σ z v4 (v5 * ((x2 - (1 : Int32)).toInt64))) (fun uq => uq) (fun z6 =>
    bo (fX0_moved N x3 (x1 - (8 : Int32))) (fun v7 =>
    bo (rdL z6 0 21 x3) (fun v8 =>
    by_ (fX2_addOdds N σ z6 v7 v8) (fun uq => uq) (fun z9 =>
    lt_ (x3 + (1 : Int32) : Int32) (fun v10 =>
    (fX2_spreadOdds_L26 N σ n) z9 x1 x2 v10)))))))
def fX2_spreadOdds_L2 (N : Nat) (σ : St)  : Nat → LSt → Int32 → Int32 → Int32 → Option LSt
  | 0, _, _, _, _ => none
  | n + 1, z, x1, x2, x3 =>
    if (21 : Int32) ≤ x3 then fX2_spreadOdds_L26 N σ  N z x1 x2 (0 : Int32)
    else bo (wrL z 1 21 x3 (0 : Int64)) (fun z11 =>
    lt_ (x3 + (1 : Int32) : Int32) (fun v12 =>
    (fX2_spreadOdds_L2 N σ n) z11 x1 x2 v12))
def fX2_spreadOdds (N : Nat) (σ : St) (τ : LSt) (p1 : Int32) (p2 : Int32) : Option LSt :=
    fX2_spreadOdds_L2 N σ  N τ p1 p2 (0 : Int32)
abbrev rmX2_spreadOdds : Room := { frames := 3, cells := 0, slots := 0, locals := 66 }
theorem qX2_spreadOdds : yX2_spreadOdds.cls = RX2 ∧ yX2_spreadOdds.cls ≠ "java/lang/invoke/MethodHandle" ∧ yX2_spreadOdds.cls ≠ "java/lang/invoke/VarHandle" ∧ (parseMethodDescriptor yX2_spreadOdds.desc).map (fun d => d.parameters.length) = some 2 := by decide +kernel
set_option maxHeartbeats 400000 in
set_option maxRecDepth 100000 in
theorem mX2_spreadOdds (l : Launch) (D : va_G) (cI cJ : ClassId) (a : Nat → Nat) (sz N : Nat) (τ : LSt) (σ : St) (p1 : Int32) (p2 : Int32) (r : LSt) (hf : fX2_spreadOdds N σ τ p1 p2 = some r) : Met l yX2_spreadOdds wsX2_spreadOdds rmX2_spreadOdds (WPre ([.ref (a 0), .int p1, .int p2] : List Value) sz D (tyIJ cI cJ) (wHA cI cJ a τ σ)) (WQv sz D (wHA cI cJ a τ σ) (wHA cI cJ a r σ)) 0 0 (va_A (wHA cI cJ a τ σ) sz) := by
  refine W_start (cc := cX2_spreadOdds) (maxL := 4) (ret := none) (by decide) rfl (Nat.le_of_ble_eq_true rfl) (fun p e s m below meth c ls A hx hb hr hml hown hts hlk hP hK hS hA hD0 hAe hl => ?_)
  have hD : ∀ z, va_D A ((fun (z : LSt) => wHA cI cJ a z σ) z) := fun z => hD0.ad rfl
  have hown : s.vm.findClass RX2 = some m.cls := hown
  have hl : lv_has ls 4 [(0, .ref (a 0)), (1, .int p1), (2, .int p2)] := hl
  have ln1 := hts (Cond.fieldLink RX2 46 "HoistsAreShared" "nextOdds" "[J") (List.mem_of_getElem? (i := 1) rfl)
  have inX2 : ∀ w ∈ u_ws RX2 TX2 14, w ∈ wsX2_spreadOdds := fun _ h => List.mem_cons_of_mem _ (List.mem_append_right _ h)
  have ln3 := hts (Cond.fieldLink RX2 42 "HoistsAreShared" "odds" "[J") (List.mem_of_getElem? (i := 2) rfl)
  have b81 : ∀  (n : Nat) (z : LSt) (x3 : Int32) (H : Heap) (locs : List Loc) (ls : Array Slot), va_P D vwCl (wHA cI cJ a z σ) H → va_S A s.heap H locs → lv_has ls 4 [(0, .ref (a 0)), (3, .int x3)] → fX2_spreadOdds_L81 N σ n z x3 = some r → W p l e rmX2_spreadOdds s m ([.ref (a 0), .int p1, .int p2] : List Value).toArray below meth c H locs 0 0 (MQ below (WQv sz D (wHA cI cJ a τ σ) (wHA cI cJ a r σ)) ([.ref (a 0), .int p1, .int p2] : List Value).toArray s 0 0 A) (F0 m 81 ls []) := by
    intro n
    induction n with
    | zero => intro z x3 H locs ls hP hS hl hf; cases hf
    | succ n ih =>
      intro z x3 H locs ls hP hS hl hf
      rw [fX2_spreadOdds_L81] at hf
      refine lv_iload_n hx hb dX2_spreadOdds_81 rfl (lv_at hl 1 rfl) ?_
      refine lv_aload_n hx hb dX2_spreadOdds_82 rfl (lv_at hl 0 rfl) ?_
      refine va_get (D := D) (ci := 2) (v := .ref (a 25)) (C := RX2) (T := TX2) (N := 14) hx hb hts inX2 hown hK hP 0 rfl rfl 8 (by decide) ln3 (fun _ h9 => h9) rfl dX2_spreadOdds_83 ?_
      refine va_alen (v := (21 : Int32)) hx hb hK hP 25 1 rfl rfl rfl dX2_spreadOdds_86 ?_
      refine k_icmp_ge (tgt := 117) hx hb dX2_spreadOdds_87 (by decide) hf (fun hf => ?_) (fun hf => ?_)
      · exact W_vret (fun (z : LSt) => wHA cI cJ a z σ) hx hb hr hlk hP hS hAe hf dX2_spreadOdds_117
      · refine lv_iload_n hx hb dX2_spreadOdds_90 rfl (lv_at hl 1 rfl) ?_
        refine lv_aload_n hx hb dX2_spreadOdds_91 rfl (lv_at hl 0 rfl) ?_
        refine va_get (D := D) (ci := 2) (v := .ref (a 26)) (C := RX2) (T := TX2) (N := 14) hx hb hts inX2 hown hK hP 0 rfl rfl 9 (by decide) ln1 (fun _ h9 => h9) rfl dX2_spreadOdds_92 ?_
        refine va_alen (v := (21 : Int32)) hx hb hK hP 26 1 rfl rfl rfl dX2_spreadOdds_95 ?_
        refine k_icmp_ge (tgt := 117) hx hb dX2_spreadOdds_96 (by decide) hf (fun hf => ?_) (fun hf => ?_)
        · exact W_vret (fun (z : LSt) => wHA cI cJ a z σ) hx hb hr hlk hP hS hAe hf dX2_spreadOdds_117
        · refine lv_aload_n hx hb dX2_spreadOdds_99 rfl (lv_at hl 0 rfl) ?_
          refine va_get (D := D) (ci := 2) (v := .ref (a 25)) (C := RX2) (T := TX2) (N := 14) hx hb hts inX2 hown hK hP 0 rfl rfl 8 (by decide) ln3 (fun _ h9 => h9) rfl dX2_spreadOdds_100 ?_
          refine lv_iload_n hx hb dX2_spreadOdds_103 rfl (lv_at hl 1 rfl) ?_
          refine lv_aload_n hx hb dX2_spreadOdds_104 rfl (lv_at hl 0 rfl) ?_
          refine va_get (D := D) (ci := 2) (v := .ref (a 26)) (C := RX2) (T := TX2) (N := 14) hx hb hts inX2 hown hK hP 0 rfl rfl 9 (by decide) ln1 (fun _ h9 => h9) rfl dX2_spreadOdds_105 ?_
          refine lv_iload_n hx hb dX2_spreadOdds_108 rfl (lv_at hl 1 rfl) ?_
          refine k_lald hx hb hK hP 26 1 hf rfl rfl dX2_spreadOdds_109 (fun v1 hf => ?_)
          refine k_last (w := (fun (z : LSt) => wHA cI cJ a z σ)) hx hb hK hP hD hS 25 1 hf rfl rfl (fun _ => rfl) dX2_spreadOdds_110 (fun z2 H locs hP hS hf => ?_)
          refine k_iinc (d := (1 : Int32)) (lv' := fun v3 => [(3, .int v3), (0, .ref (a 0))]) hx hb dX2_spreadOdds_111 hl (k := 1) rfl (by decide) (by decide) (fun _ => rfl) hf (fun v3 ls hl hf => ?_)
          refine lv_goto (tgt := 81) hx hb dX2_spreadOdds_114 (by decide) ?_
          exact ih z2 v3 H locs ls hP hS (lv_sub hl [1, 0] rfl) hf
  have b26 : ∀  (n : Nat) (z : LSt) (x1 : Int32) (x2 : Int32) (x3 : Int32) (H : Heap) (locs : List Loc) (ls : Array Slot), va_P D vwCl (wHA cI cJ a z σ) H → va_S A s.heap H locs → lv_has ls 4 [(0, .ref (a 0)), (1, .int x1), (2, .int x2), (3, .int x3)] → fX2_spreadOdds_L26 N σ n z x1 x2 x3 = some r → W p l e rmX2_spreadOdds s m ([.ref (a 0), .int p1, .int p2] : List Value).toArray below meth c H locs 0 0 (MQ below (WQv sz D (wHA cI cJ a τ σ) (wHA cI cJ a r σ)) ([.ref (a 0), .int p1, .int p2] : List Value).toArray s 0 0 A) (F0 m 26 ls []) := by
    intro n
    induction n with
    | zero => intro z x1 x2 x3 H locs ls hP hS hl hf; cases hf
    | succ n ih =>
      intro z x1 x2 x3 H locs ls hP hS hl hf
      rw [fX2_spreadOdds_L26] at hf
      refine lv_iload_n hx hb dX2_spreadOdds_26 rfl (lv_at hl 3 rfl) ?_
      refine lv_aload_n hx hb dX2_spreadOdds_27 rfl (lv_at hl 0 rfl) ?_
      refine va_get (D := D) (ci := 2) (v := .ref (a 25)) (C := RX2) (T := TX2) (N := 14) hx hb hts inX2 hown hK hP 0 rfl rfl 8 (by decide) ln3 (fun _ h9 => h9) rfl dX2_spreadOdds_28 ?_
      refine va_alen (v := (21 : Int32)) hx hb hK hP 25 1 rfl rfl rfl dX2_spreadOdds_31 ?_
      refine k_icmp_ge (tgt := 79) hx hb dX2_spreadOdds_32 (by decide) hf (fun hf => ?_) (fun hf => ?_)
      · refine lv_iconst (v := (0 : Int32)) hx hb dX2_spreadOdds_79 (by decide) ?_
        refine lv_istore_n (lv' := [(3, .int (0 : Int32)), (0, .ref (a 0)), (1, .int x1), (2, .int x2)]) hx hb dX2_spreadOdds_80 rfl hl (by decide) rfl (fun ls hl => ?_)
        exact b81  N z (0 : Int32) H locs ls hP hS (lv_sub hl [1, 0] rfl) hf
      · refine lv_aload_n hx hb dX2_spreadOdds_35 rfl (lv_at hl 0 rfl) ?_
        refine lv_iload_n hx hb dX2_spreadOdds_36 rfl (lv_at hl 3 rfl) ?_
        refine lv_iload_n hx hb dX2_spreadOdds_37 rfl (lv_at hl 1 rfl) ?_
        refine c_callS (As := [.int x3, .int x1]) (rest := [.ref (a 0)]) ⟨hx, hb, hml, hown, hts⟩ hf (fun vq hq => mX0_moved l D cI cJ H.size N x3 x1 vq hq) (va_cwS 2 hts gX2_spreadOdds_X0_moved rfl rfl rfl qX0_moved ⟨Nat.le_of_ble_eq_true rfl, Nat.le_of_ble_eq_true rfl⟩) hK hP hS hA va_P_nil rfl hl.1 rfl (Nat.le_of_ble_eq_true rfl) dX2_spreadOdds_38 ⟨Nat.le_refl _, Nat.le_refl _⟩ (fun v4 H locs hP hS hf => ?_)
        refine lv_aload_n hx hb dX2_spreadOdds_41 rfl (lv_at hl 0 rfl) ?_
        refine va_get (D := D) (ci := 2) (v := .ref (a 25)) (C := RX2) (T := TX2) (N := 14) hx hb hts inX2 hown hK hP 0 rfl rfl 8 (by decide) ln3 (fun _ h9 => h9) rfl dX2_spreadOdds_42 ?_
        refine lv_iload_n hx hb dX2_spreadOdds_45 rfl (lv_at hl 3 rfl) ?_
        refine k_lald hx hb hK hP 25 1 hf rfl rfl dX2_spreadOdds_46 (fun v5 hf => ?_)
        refine lv_iload_n hx hb dX2_spreadOdds_47 rfl (lv_at hl 2 rfl) ?_
        refine lv_iconst (v := (1 : Int32)) hx hb dX2_spreadOdds_48 (by decide) ?_
        refine lv_isub hx hb dX2_spreadOdds_49 ?_
        refine lv_i2l hx hb dX2_spreadOdds_50 rfl ?_
        refine lv_lmul hx hb dX2_spreadOdds_51 ?_
        refine d_callVv (As := [.int v4, .long (v5 * ((x2 - (1 : Int32)).toInt64))]) (rest := []) (w := (fun (z : LSt) => wHA cI cJ a z σ)) (wc := (fun (uq : LSt) => wHA cI cJ a uq σ)) (put := (fun uq => uq)) (σ := z) (τ0 := z) ⟨hx, hb, hml, hown, hts⟩ hf (fun zq hq => mX2_addOdds l D cI cJ a H.size N z σ v4 (v5 * ((x2 - (1 : Int32)).toInt64)) zq hq) (cwV 2 hts gX2_spreadOdds_X2_addOdds rfl rfl rfl qX2_addOdds ⟨Nat.le_of_ble_eq_true rfl, Nat.le_of_ble_eq_true rfl⟩) hK hP hD hS hA ⟨hP, hD _, fun _ _ _ h => h⟩ 2 rfl rfl rfl rfl hl.1 rfl (Nat.le_of_ble_eq_true rfl) dX2_spreadOdds_52 ⟨Nat.le_refl _, Nat.le_refl _⟩ (fun z6 H locs hP hS hf => ?_)
        refine lv_aload_n hx hb dX2_spreadOdds_55 rfl (lv_at hl 0 rfl) ?_
        refine lv_iload_n hx hb dX2_spreadOdds_56 rfl (lv_at hl 3 rfl) ?_
        refine lv_iload_n hx hb dX2_spreadOdds_57 rfl (lv_at hl 1 rfl) ?_
        refine lv_bipush (v := (8 : Int32)) hx hb dX2_spreadOdds_58 (by decide) ?_
        refine lv_isub hx hb dX2_spreadOdds_60 ?_
        refine c_callS (As := [.int x3, .int (x1 - (8 : Int32))]) (rest := [.ref (a 0)]) ⟨hx, hb, hml, hown, hts⟩ hf (fun vq hq => mX0_moved l D cI cJ H.size N x3 (x1 - (8 : Int32)) vq hq) (va_cwS 2 hts gX2_spreadOdds_X0_moved rfl rfl rfl qX0_moved ⟨Nat.le_of_ble_eq_true rfl, Nat.le_of_ble_eq_true rfl⟩) hK hP hS hA va_P_nil rfl hl.1 rfl (Nat.le_of_ble_eq_true rfl) dX2_spreadOdds_61 ⟨Nat.le_refl _, Nat.le_refl _⟩ (fun v7 H locs hP hS hf => ?_)
        refine lv_aload_n hx hb dX2_spreadOdds_64 rfl (lv_at hl 0 rfl) ?_
        refine va_get (D := D) (ci := 2) (v := .ref (a 25)) (C := RX2) (T := TX2) (N := 14) hx hb hts inX2 hown hK hP 0 rfl rfl 8 (by decide) ln3 (fun _ h9 => h9) rfl dX2_spreadOdds_65 ?_
        refine lv_iload_n hx hb dX2_spreadOdds_68 rfl (lv_at hl 3 rfl) ?_
        refine k_lald hx hb hK hP 25 1 hf rfl rfl dX2_spreadOdds_69 (fun v8 hf => ?_)
        refine d_callVv (As := [.int v7, .long v8]) (rest := []) (w := (fun (z : LSt) => wHA cI cJ a z σ)) (wc := (fun (uq : LSt) => wHA cI cJ a uq σ)) (put := (fun uq => uq)) (σ := z6) (τ0 := z6) ⟨hx, hb, hml, hown, hts⟩ hf (fun zq hq => mX2_addOdds l D cI cJ a H.size N z6 σ v7 v8 zq hq) (cwV 2 hts gX2_spreadOdds_X2_addOdds rfl rfl rfl qX2_addOdds ⟨Nat.le_of_ble_eq_true rfl, Nat.le_of_ble_eq_true rfl⟩) hK hP hD hS hA ⟨hP, hD _, fun _ _ _ h => h⟩ 2 rfl rfl rfl rfl hl.1 rfl (Nat.le_of_ble_eq_true rfl) dX2_spreadOdds_70 ⟨Nat.le_refl _, Nat.le_refl _⟩ (fun z9 H locs hP hS hf => ?_)
        refine k_iinc (d := (1 : Int32)) (lv' := fun v10 => [(3, .int v10), (0, .ref (a 0)), (1, .int x1), (2, .int x2)]) hx hb dX2_spreadOdds_73 hl (k := 3) rfl (by decide) (by decide) (fun _ => rfl) hf (fun v10 ls hl hf => ?_)
        refine lv_goto (tgt := 26) hx hb dX2_spreadOdds_76 (by decide) ?_
        exact ih z9 x1 x2 v10 H locs ls hP hS (lv_sub hl [1, 2, 3, 0] rfl) hf
  have b2 : ∀  (n : Nat) (z : LSt) (x1 : Int32) (x2 : Int32) (x3 : Int32) (H : Heap) (locs : List Loc) (ls : Array Slot), va_P D vwCl (wHA cI cJ a z σ) H → va_S A s.heap H locs → lv_has ls 4 [(0, .ref (a 0)), (1, .int x1), (2, .int x2), (3, .int x3)] → fX2_spreadOdds_L2 N σ n z x1 x2 x3 = some r → W p l e rmX2_spreadOdds s m ([.ref (a 0), .int p1, .int p2] : List Value).toArray below meth c H locs 0 0 (MQ below (WQv sz D (wHA cI cJ a τ σ) (wHA cI cJ a r σ)) ([.ref (a 0), .int p1, .int p2] : List Value).toArray s 0 0 A) (F0 m 2 ls []) := by
    intro n
    induction n with
    | zero => intro z x1 x2 x3 H locs ls hP hS hl hf; cases hf
    | succ n ih =>
      intro z x1 x2 x3 H locs ls hP hS hl hf
      rw [fX2_spreadOdds_L2] at hf
      refine lv_iload_n hx hb dX2_spreadOdds_2 rfl (lv_at hl 3 rfl) ?_
      refine lv_aload_n hx hb dX2_spreadOdds_3 rfl (lv_at hl 0 rfl) ?_
      refine va_get (D := D) (ci := 2) (v := .ref (a 26)) (C := RX2) (T := TX2) (N := 14) hx hb hts inX2 hown hK hP 0 rfl rfl 9 (by decide) ln1 (fun _ h9 => h9) rfl dX2_spreadOdds_4 ?_
      refine va_alen (v := (21 : Int32)) hx hb hK hP 26 1 rfl rfl rfl dX2_spreadOdds_7 ?_
      refine k_icmp_ge (tgt := 24) hx hb dX2_spreadOdds_8 (by decide) hf (fun hf => ?_) (fun hf => ?_)
      · refine lv_iconst (v := (0 : Int32)) hx hb dX2_spreadOdds_24 (by decide) ?_
        refine lv_istore_n (lv' := [(3, .int (0 : Int32)), (0, .ref (a 0)), (1, .int x1), (2, .int x2)]) hx hb dX2_spreadOdds_25 rfl hl (by decide) rfl (fun ls hl => ?_)
        exact b26  N z x1 x2 (0 : Int32) H locs ls hP hS (lv_sub hl [1, 2, 3, 0] rfl) hf
      · refine lv_aload_n hx hb dX2_spreadOdds_11 rfl (lv_at hl 0 rfl) ?_
        refine va_get (D := D) (ci := 2) (v := .ref (a 26)) (C := RX2) (T := TX2) (N := 14) hx hb hts inX2 hown hK hP 0 rfl rfl 9 (by decide) ln1 (fun _ h9 => h9) rfl dX2_spreadOdds_12 ?_
        refine lv_iload_n hx hb dX2_spreadOdds_15 rfl (lv_at hl 3 rfl) ?_
        refine lv_lconst (v := (0 : Int64)) hx hb dX2_spreadOdds_16 (by decide) ?_
        refine k_last (w := (fun (z : LSt) => wHA cI cJ a z σ)) hx hb hK hP hD hS 26 1 hf rfl rfl (fun _ => rfl) dX2_spreadOdds_17 (fun z11 H locs hP hS hf => ?_)
        refine k_iinc (d := (1 : Int32)) (lv' := fun v12 => [(3, .int v12), (0, .ref (a 0)), (1, .int x1), (2, .int x2)]) hx hb dX2_spreadOdds_18 hl (k := 3) rfl (by decide) (by decide) (fun _ => rfl) hf (fun v12 ls hl hf => ?_)
        refine lv_goto (tgt := 2) hx hb dX2_spreadOdds_21 (by decide) ?_
        exact ih z11 x1 x2 v12 H locs ls hP hS (lv_sub hl [1, 2, 3, 0] rfl) hf
  unfold fX2_spreadOdds at hf
  refine lv_iconst (v := (0 : Int32)) hx hb dX2_spreadOdds_0 (by decide) ?_
  refine lv_istore_n (lv' := [(3, .int (0 : Int32)), (0, .ref (a 0)), (1, .int p1), (2, .int p2)]) hx hb dX2_spreadOdds_1 rfl hl (by decide) rfl (fun ls hl => ?_)
  exact b2  N τ p1 p2 (0 : Int32) s.heap [] ls hP hS (lv_sub hl [1, 2, 3, 0] rfl) hf
def fX2_reckonOdds_L44 (N : Nat) (σ : St)  : Nat → LSt → Int32 → Int32 → Int64 → Int32 → Option (Int64 × LSt)
  | 0, _, _, _, _, _ => none
  | n + 1, z, x1, x2, x3, x5 =>
    if x1 < x5 then some (x3, z)
    else bo (fX0_pullAfter N (sb [1, 2, 3, 4, 5, 6] σ) x5) (fun v1 =>
    by_ (fX2_spreadOdds N σ z v1 x2) (fun uq => uq) (fun z2 =>
    lt_ ((x3 * (x2.toInt64)) : Int64) (fun v3 =>
    lt_ (x5 + (1 : Int32) : Int32) (fun v4 =>
    (fX2_reckonOdds_L44 N σ n) z2 x1 x2 v3 v4))))
def fX2_reckonOdds_L32 (N : Nat) (σ : St) (k2 : LSt → Int32 → Int32 → Int32 → Option (Int64 × LSt)) (z : LSt) (x1 : Int32) (x2 : Int32) (x3 : Int32) (y0 : Int64) (y1 : Int32) : Option (Int64 × LSt) :=
    bo (wrL z 0 21 y1 y0) (fun z5 =>
    lt_ (x3 + (1 : Int32) : Int32) (fun v6 =>
    k2 z5 x1 x2 v6))
def fX2_reckonOdds_L2 (N : Nat) (σ : St)  : Nat → LSt → Int32 → Int32 → Int32 → Option (Int64 × LSt)
  | 0, _, _, _, _ => none
  | n + 1, z, x1, x2, x3 =>
    if (21 : Int32) ≤ x3 then fX2_reckonOdds_L44 N σ  N z x1 x2 (1 : Int64) (1 : Int32)
    else if x3 = (σ 1 0) then fX2_reckonOdds_L32 N σ (fX2_reckonOdds_L2 N σ n) z x1 x2 x3 (1 : Int64) x3
    else fX2_reckonOdds_L32 N σ (fX2_reckonOdds_L2 N σ n) z x1 x2 x3 (0 : Int64) x3
def fX2_reckonOdds (N : Nat) (σ : St) (τ : LSt) (p1 : Int32) (p2 : Int32) : Option (Int64 × LSt) :=
    fX2_reckonOdds_L2 N σ  N τ p1 p2 (0 : Int32)
abbrev rmX2_reckonOdds : Room := { frames := 4, cells := 0, slots := 0, locals := 89 }
theorem qX2_reckonOdds : yX2_reckonOdds.cls = RX2 ∧ yX2_reckonOdds.cls ≠ "java/lang/invoke/MethodHandle" ∧ yX2_reckonOdds.cls ≠ "java/lang/invoke/VarHandle" ∧ (parseMethodDescriptor yX2_reckonOdds.desc).map (fun d => d.parameters.length) = some 2 := by decide +kernel
set_option maxHeartbeats 400000 in
set_option maxRecDepth 100000 in
theorem mX2_reckonOdds (l : Launch) (D : va_G) (cI cJ : ClassId) (a : Nat → Nat) (sz N : Nat) (τ : LSt) (σ : St) (p1 : Int32) (p2 : Int32) (r : (Int64 × LSt)) (hf : fX2_reckonOdds N σ τ p1 p2 = some r) : Met l yX2_reckonOdds wsX2_reckonOdds rmX2_reckonOdds (WPre ([.ref (a 0), .int p1, .int p2] : List Value) sz D (tyIJ cI cJ) (wHA cI cJ a τ σ)) (WQl sz D (wHA cI cJ a τ σ) (wHA cI cJ a (r.2) σ) r.1) 0 0 (va_A (wHA cI cJ a τ σ) sz) := by
  refine W_start (cc := cX2_reckonOdds) (maxL := 6) (ret := (some .long)) (by decide) rfl (Nat.le_of_ble_eq_true rfl) (fun p e s m below meth c ls A hx hb hr hml hown hts hlk hP hK hS hA hD0 hAe hl => ?_)
  have hD : ∀ z, va_D A ((fun (z : LSt) => wHA cI cJ a z σ) z) := fun z => hD0.ad rfl
  have hown : s.vm.findClass RX2 = some m.cls := hown
  have hl : lv_has ls 6 [(0, .ref (a 0)), (1, .int p1), (2, .int p2)] := hl
  have ln1 := hts (Cond.fieldLink RX2 42 "HoistsAreShared" "odds" "[J") (List.mem_of_getElem? (i := 1) rfl)
  have inX2 : ∀ w ∈ u_ws RX2 TX2 14, w ∈ wsX2_reckonOdds := fun _ h => List.mem_cons_of_mem _ (List.mem_append_left _ (List.mem_append_right _ h))
  have ln3 := hts (Cond.fieldLink RX2 10 "HoistsAreShared" "now" "LHoistsAreShared$Hoist;") (List.mem_of_getElem? (i := 2) rfl)
  have ln4 := hts (Cond.fieldLink RX2 112 "HoistsAreShared$Hoist" "floor" "I") (List.mem_of_getElem? (i := 3) rfl)
  have inX0 : ∀ w ∈ u_ws RX0 TX0 9, w ∈ wsX2_reckonOdds := fun _ h => List.mem_cons_of_mem _ (List.mem_append_right _ h)
  have b44 : ∀  (n : Nat) (z : LSt) (x1 : Int32) (x2 : Int32) (x3 : Int64) (x5 : Int32) (H : Heap) (locs : List Loc) (ls : Array Slot), va_P D vwCl (wHA cI cJ a z σ) H → va_S A s.heap H locs → lv_has ls 6 [(0, .ref (a 0)), (1, .int x1), (2, .int x2), (3, .long x3), (5, .int x5)] → fX2_reckonOdds_L44 N σ n z x1 x2 x3 x5 = some r → W p l e rmX2_reckonOdds s m ([.ref (a 0), .int p1, .int p2] : List Value).toArray below meth c H locs 0 0 (MQ below (WQl sz D (wHA cI cJ a τ σ) (wHA cI cJ a (r.2) σ) r.1) ([.ref (a 0), .int p1, .int p2] : List Value).toArray s 0 0 A) (F0 m 44 ls []) := by
    intro n
    induction n with
    | zero => intro z x1 x2 x3 x5 H locs ls hP hS hl hf; cases hf
    | succ n ih =>
      intro z x1 x2 x3 x5 H locs ls hP hS hl hf
      rw [fX2_reckonOdds_L44] at hf
      refine lv_iload hx hb dX2_reckonOdds_44 (lv_at hl 4 rfl) ?_
      refine lv_iload_n hx hb dX2_reckonOdds_46 rfl (lv_at hl 1 rfl) ?_
      refine k_icmp_gt (tgt := 75) hx hb dX2_reckonOdds_47 (by decide) hf (fun hf => ?_) (fun hf => ?_)
      · refine lv_lload_n hx hb dX2_reckonOdds_75 rfl (lv_at hl 3 rfl) ?_
        exact W_lret (fun (z : LSt) => wHA cI cJ a z σ) hx hb hr hlk hP hS hAe hf dX2_reckonOdds_76
      · refine lv_aload_n hx hb dX2_reckonOdds_50 rfl (lv_at hl 0 rfl) ?_
        refine lv_aload_n hx hb dX2_reckonOdds_51 rfl (lv_at hl 0 rfl) ?_
        refine va_get (D := D) (ci := 2) (v := .ref (a 1)) (C := RX2) (T := TX2) (N := 14) hx hb hts inX2 hown hK hP 0 rfl rfl 0 (by decide) ln3 (fun _ h9 => h9) rfl dX2_reckonOdds_52 ?_
        refine lv_iload hx hb dX2_reckonOdds_55 (lv_at hl 4 rfl) ?_
        refine c_callV (As := [.int x5]) (rest := [.ref (a 0)]) ⟨hx, hb, hml, hown, hts⟩ hf (fun vq hq => mX0_pullAfter l D cI cJ (sb [1, 2, 3, 4, 5, 6] a) H.size N (sb [1, 2, 3, 4, 5, 6] σ) x5 vq hq) (cwV 1 hts gX2_reckonOdds_X0_pullAfter rfl rfl rfl qX0_pullAfter ⟨Nat.le_of_ble_eq_true rfl, Nat.le_of_ble_eq_true rfl⟩) hK hP hS hA (cmr_HA_Ho_1_2_3_4_5_6 D cI cJ a z σ hP) 0 rfl rfl rfl rfl hl.1 rfl (Nat.le_of_ble_eq_true rfl) dX2_reckonOdds_57 ⟨Nat.le_refl _, Nat.le_refl _⟩ (fun v1 H locs hP hS hf => ?_)
        refine lv_iload_n hx hb dX2_reckonOdds_60 rfl (lv_at hl 2 rfl) ?_
        refine d_callVv (As := [.int v1, .int x2]) (rest := []) (w := (fun (z : LSt) => wHA cI cJ a z σ)) (wc := (fun (uq : LSt) => wHA cI cJ a uq σ)) (put := (fun uq => uq)) (σ := z) (τ0 := z) ⟨hx, hb, hml, hown, hts⟩ hf (fun zq hq => mX2_spreadOdds l D cI cJ a H.size N z σ v1 x2 zq hq) (cwV 2 hts gX2_reckonOdds_X2_spreadOdds rfl rfl rfl qX2_spreadOdds ⟨Nat.le_of_ble_eq_true rfl, Nat.le_of_ble_eq_true rfl⟩) hK hP hD hS hA ⟨hP, hD _, fun _ _ _ h => h⟩ 2 rfl rfl rfl rfl hl.1 rfl (Nat.le_of_ble_eq_true rfl) dX2_reckonOdds_61 ⟨Nat.le_refl _, Nat.le_refl _⟩ (fun z2 H locs hP hS hf => ?_)
        refine lv_lload_n hx hb dX2_reckonOdds_64 rfl (lv_at hl 3 rfl) ?_
        refine lv_iload_n hx hb dX2_reckonOdds_65 rfl (lv_at hl 2 rfl) ?_
        refine lv_i2l hx hb dX2_reckonOdds_66 rfl ?_
        refine lv_lmul hx hb dX2_reckonOdds_67 ?_
        refine k_letL hf (fun v3 hf => ?_)
        refine lv_lstore_n (lv' := [(3, .long v3), (0, .ref (a 0)), (1, .int x1), (2, .int x2), (5, .int x5)]) hx hb dX2_reckonOdds_68 rfl hl (by decide) rfl (fun ls hl => ?_)
        refine k_iinc (d := (1 : Int32)) (lv' := fun v4 => [(5, .int v4), (3, .long v3), (0, .ref (a 0)), (1, .int x1), (2, .int x2)]) hx hb dX2_reckonOdds_69 hl (k := 4) rfl (by decide) (by decide) (fun _ => rfl) hf (fun v4 ls hl hf => ?_)
        refine lv_goto (tgt := 44) hx hb dX2_reckonOdds_72 (by decide) ?_
        exact ih z2 x1 x2 v3 v4 H locs ls hP hS (lv_sub hl [2, 3, 4, 1, 0] rfl) hf
  have b32 : ∀ (k2 : LSt → Int32 → Int32 → Int32 → Option (Int64 × LSt)) (hk2 : (∀ (z : LSt) (x1 : Int32) (x2 : Int32) (x3 : Int32) (H : Heap) (locs : List Loc) (ls : Array Slot), va_P D vwCl (wHA cI cJ a z σ) H → va_S A s.heap H locs → lv_has ls 6 [(0, .ref (a 0)), (1, .int x1), (2, .int x2), (3, .int x3)] → k2 z x1 x2 x3 = some r → W p l e rmX2_reckonOdds s m ([.ref (a 0), .int p1, .int p2] : List Value).toArray below meth c H locs 0 0 (MQ below (WQl sz D (wHA cI cJ a τ σ) (wHA cI cJ a (r.2) σ) r.1) ([.ref (a 0), .int p1, .int p2] : List Value).toArray s 0 0 A) (F0 m 2 ls []))) (z : LSt) (x1 : Int32) (x2 : Int32) (x3 : Int32) (y0 : Int64) (y1 : Int32) (H : Heap) (locs : List Loc) (ls : Array Slot), va_P D vwCl (wHA cI cJ a z σ) H → va_S A s.heap H locs → lv_has ls 6 [(0, .ref (a 0)), (1, .int x1), (2, .int x2), (3, .int x3)] → fX2_reckonOdds_L32 N σ k2 z x1 x2 x3 y0 y1 = some r → W p l e rmX2_reckonOdds s m ([.ref (a 0), .int p1, .int p2] : List Value).toArray below meth c H locs 0 0 (MQ below (WQl sz D (wHA cI cJ a τ σ) (wHA cI cJ a (r.2) σ) r.1) ([.ref (a 0), .int p1, .int p2] : List Value).toArray s 0 0 A) (F0 m 32 ls [.long y0, .int y1, .ref (a 25)]) := by
    intro k2 hk2 z x1 x2 x3 y0 y1 H locs ls hP hS hl hf
    unfold fX2_reckonOdds_L32 at hf
    refine k_last (w := (fun (z : LSt) => wHA cI cJ a z σ)) hx hb hK hP hD hS 25 1 hf rfl rfl (fun _ => rfl) dX2_reckonOdds_32 (fun z5 H locs hP hS hf => ?_)
    refine k_iinc (d := (1 : Int32)) (lv' := fun v6 => [(3, .int v6), (0, .ref (a 0)), (1, .int x1), (2, .int x2)]) hx hb dX2_reckonOdds_33 hl (k := 3) rfl (by decide) (by decide) (fun _ => rfl) hf (fun v6 ls hl hf => ?_)
    refine lv_goto (tgt := 2) hx hb dX2_reckonOdds_36 (by decide) ?_
    exact hk2 z5 x1 x2 v6 H locs ls hP hS (lv_sub hl [1, 2, 3, 0] rfl) hf
  have b2 : ∀  (n : Nat) (z : LSt) (x1 : Int32) (x2 : Int32) (x3 : Int32) (H : Heap) (locs : List Loc) (ls : Array Slot), va_P D vwCl (wHA cI cJ a z σ) H → va_S A s.heap H locs → lv_has ls 6 [(0, .ref (a 0)), (1, .int x1), (2, .int x2), (3, .int x3)] → fX2_reckonOdds_L2 N σ n z x1 x2 x3 = some r → W p l e rmX2_reckonOdds s m ([.ref (a 0), .int p1, .int p2] : List Value).toArray below meth c H locs 0 0 (MQ below (WQl sz D (wHA cI cJ a τ σ) (wHA cI cJ a (r.2) σ) r.1) ([.ref (a 0), .int p1, .int p2] : List Value).toArray s 0 0 A) (F0 m 2 ls []) := by
    intro n
    induction n with
    | zero => intro z x1 x2 x3 H locs ls hP hS hl hf; cases hf
    | succ n ih =>
      intro z x1 x2 x3 H locs ls hP hS hl hf
      rw [fX2_reckonOdds_L2] at hf
      refine lv_iload_n hx hb dX2_reckonOdds_2 rfl (lv_at hl 3 rfl) ?_
      refine lv_aload_n hx hb dX2_reckonOdds_3 rfl (lv_at hl 0 rfl) ?_
      refine va_get (D := D) (ci := 2) (v := .ref (a 25)) (C := RX2) (T := TX2) (N := 14) hx hb hts inX2 hown hK hP 0 rfl rfl 8 (by decide) ln1 (fun _ h9 => h9) rfl dX2_reckonOdds_4 ?_
      refine va_alen (v := (21 : Int32)) hx hb hK hP 25 1 rfl rfl rfl dX2_reckonOdds_7 ?_
      refine k_icmp_ge (tgt := 39) hx hb dX2_reckonOdds_8 (by decide) hf (fun hf => ?_) (fun hf => ?_)
      · refine lv_lconst (v := (1 : Int64)) hx hb dX2_reckonOdds_39 (by decide) ?_
        refine lv_lstore_n (lv' := [(3, .long (1 : Int64)), (0, .ref (a 0)), (1, .int x1), (2, .int x2)]) hx hb dX2_reckonOdds_40 rfl hl (by decide) rfl (fun ls hl => ?_)
        refine lv_iconst (v := (1 : Int32)) hx hb dX2_reckonOdds_41 (by decide) ?_
        refine lv_istore (lv' := [(5, .int (1 : Int32)), (3, .long (1 : Int64)), (0, .ref (a 0)), (1, .int x1), (2, .int x2)]) hx hb dX2_reckonOdds_42 hl (by decide) rfl (fun ls hl => ?_)
        exact b44  N z x1 x2 (1 : Int64) (1 : Int32) H locs ls hP hS (lv_sub hl [2, 3, 4, 1, 0] rfl) hf
      · refine lv_aload_n hx hb dX2_reckonOdds_11 rfl (lv_at hl 0 rfl) ?_
        refine va_get (D := D) (ci := 2) (v := .ref (a 25)) (C := RX2) (T := TX2) (N := 14) hx hb hts inX2 hown hK hP 0 rfl rfl 8 (by decide) ln1 (fun _ h9 => h9) rfl dX2_reckonOdds_12 ?_
        refine lv_iload_n hx hb dX2_reckonOdds_15 rfl (lv_at hl 3 rfl) ?_
        refine lv_iload_n hx hb dX2_reckonOdds_16 rfl (lv_at hl 3 rfl) ?_
        refine lv_aload_n hx hb dX2_reckonOdds_17 rfl (lv_at hl 0 rfl) ?_
        refine va_get (D := D) (ci := 2) (v := .ref (a 1)) (C := RX2) (T := TX2) (N := 14) hx hb hts inX2 hown hK hP 0 rfl rfl 0 (by decide) ln3 (fun _ h9 => h9) rfl dX2_reckonOdds_18 ?_
        refine va_get (D := D) (ci := 0) (v := .int (σ 1 0)) (C := RX0) (T := TX0) (N := 9) hx hb hts inX0 hown hK hP 1 rfl rfl 0 (by decide) ln4 (fun _ h9 => h9) rfl dX2_reckonOdds_21 ?_
        refine k_icmp_ne (tgt := 31) hx hb dX2_reckonOdds_24 (by decide) hf (fun hf => ?_) (fun hf => ?_)
        · refine lv_lconst (v := (0 : Int64)) hx hb dX2_reckonOdds_31 (by decide) ?_
          exact b32 (fX2_reckonOdds_L2 N σ n) ih z x1 x2 x3 (0 : Int64) x3 H locs ls hP hS (lv_sub hl [0, 1, 2, 3] rfl) hf
        · refine lv_lconst (v := (1 : Int64)) hx hb dX2_reckonOdds_27 (by decide) ?_
          refine lv_goto (tgt := 32) hx hb dX2_reckonOdds_28 (by decide) ?_
          exact b32 (fX2_reckonOdds_L2 N σ n) ih z x1 x2 x3 (1 : Int64) x3 H locs ls hP hS (lv_sub hl [0, 1, 2, 3] rfl) hf
  unfold fX2_reckonOdds at hf
  refine lv_iconst (v := (0 : Int32)) hx hb dX2_reckonOdds_0 (by decide) ?_
  refine lv_istore_n (lv' := [(3, .int (0 : Int32)), (0, .ref (a 0)), (1, .int p1), (2, .int p2)]) hx hb dX2_reckonOdds_1 rfl hl (by decide) rfl (fun ls hl => ?_)
  exact b2  N τ p1 p2 (0 : Int32) s.heap [] ls hP hS (lv_sub hl [1, 2, 3, 0] rfl) hf
def fX2_draught_L13 (N : Nat)  (z : (St × LSt)) : Option (Int64 × (St × LSt)) :=
    bx (fX2_refuse N (z.1) (-4 : Int32)) (fun uq => (uq, z.2)) (fun v2 z1 =>
    some (((4000000000000000000 : Int64) - (v2.toInt64)), z1))
def fX2_draught_L43 (N : Nat)  (z : (St × LSt)) : Option (Int64 × (St × LSt)) :=
    bx (fX2_refuse N (z.1) (-6 : Int32)) (fun uq => (uq, z.2)) (fun v4 z3 =>
    some (((4000000000000000000 : Int64) - (v4.toInt64)), z3))
def fX2_draught_L92 (N : Nat)  : Nat → (St × LSt) → Int32 → Int64 → Int64 → Int32 → Option (Int64 × (St × LSt))
  | 0, _, _, _, _, _ => none
  | n + 1, z, x4, x5, x7, x9 =>
    if (21 : Int32) ≤ x9 then bo (fX2_partOf N x7 x5 x4) (fun v7 =>
    some (v7, z))
    else bo (rdL (z.2) 0 21 x9) (fun v8 =>
    lt_ ((x7 + v8) : Int64) (fun v9 =>
    lt_ (x9 + (1 : Int32) : Int32) (fun v10 =>
    (fX2_draught_L92 N n) z x4 x5 v9 v10)))
def fX2_draught_L78 (N : Nat)  (z : (St × LSt)) (x1 : Int32) (x2 : Int32) (x3 : Int32) (x4 : Int32) : Option (Int64 × (St × LSt)) :=
    bx (fX2_reckonOdds N (z.1) (z.2) x1 x2) (fun uq => (z.1, uq)) (fun v6 z5 =>
    fX2_draught_L92 N  N z5 x4 v6 (0 : Int64) x3)
def fX2_draught (N : Nat) (z0 : St × LSt) (p1 : Int32) (p2 : Int32) (p3 : Int32) (p4 : Int32) : Option (Int64 × (St × LSt)) :=
    if p1 < 0 then fX2_draught_L13 N  z0
    else if p3 < 0 then fX2_draught_L13 N  z0
    else if (2 : Int32) ≤ p2 then if (7 : Int32) < p1 then fX2_draught_L43 N  z0
    else if (20 : Int32) < p2 then fX2_draught_L43 N  z0
    else if p3 ≤ (20 : Int32) then if p4 = 0 then fX2_draught_L78 N  z0 p1 p2 p3 p4
    else if p4 = (1 : Int32) then fX2_draught_L78 N  z0 p1 p2 p3 p4
    else bx (fX2_refuse N (z0.1) (-2 : Int32)) (fun uq => (uq, z0.2)) (fun v12 z11 =>
    some (((4000000000000000000 : Int64) - (v12.toInt64)), z11))
    else fX2_draught_L43 N  z0
    else fX2_draught_L13 N  z0
abbrev rmX2_draught : Room := { frames := 5, cells := 0, slots := 0, locals := 114 }
theorem qX2_draught : yX2_draught.cls = RX2 ∧ yX2_draught.cls ≠ "java/lang/invoke/MethodHandle" ∧ yX2_draught.cls ≠ "java/lang/invoke/VarHandle" ∧ (parseMethodDescriptor yX2_draught.desc).map (fun d => d.parameters.length) = some 4 := by decide +kernel
set_option maxHeartbeats 400000 in
set_option maxRecDepth 100000 in
theorem mX2_draught (l : Launch) (D : va_G) (cI cJ : ClassId) (a : Nat → Nat) (sz N : Nat) (τ : LSt) (σ : St) (p1 : Int32) (p2 : Int32) (p3 : Int32) (p4 : Int32) (r : (Int64 × (St × LSt))) (hf : fX2_draught N (σ, τ) p1 p2 p3 p4 = some r) : Met l yX2_draught wsX2_draught rmX2_draught (WPre ([.ref (a 0), .int p1, .int p2, .int p3, .int p4] : List Value) sz D (tyIJ cI cJ) (wHA cI cJ a τ σ)) (WQl sz D (wHA cI cJ a τ σ) (wHA cI cJ a (r.2.2) (r.2.1)) r.1) 0 0 (va_A (wHA cI cJ a τ σ) sz) := by
  refine W_start (cc := cX2_draught) (maxL := 10) (ret := (some .long)) (by decide) rfl (Nat.le_of_ble_eq_true rfl) (fun p e s m below meth c ls A hx hb hr hml hown hts hlk hP hK hS hA hD0 hAe hl => ?_)
  have hD : ∀ z, va_D A ((fun (z : St × LSt) => wHA cI cJ a z.2 z.1) z) := fun z => hD0.ad rfl
  obtain ⟨z0, hz0⟩ : ∃ z0 : St × LSt, z0 = (σ, τ) := ⟨_, rfl⟩
  have hP : va_P D vwCl (wHA cI cJ a (z0.2) (z0.1)) s.heap := by rw [hz0]; exact hP
  rw [← hz0] at hf
  have hown : s.vm.findClass RX2 = some m.cls := hown
  have hl : lv_has ls 10 [(0, .ref (a 0)), (1, .int p1), (2, .int p2), (3, .int p3), (4, .int p4)] := hl
  have ln1 := hts (Cond.constantLong RX2 238 (4000000000000000000)) (List.mem_of_getElem? (i := 1) rfl)
  have ln2 := hts (Cond.fieldLink RX2 42 "HoistsAreShared" "odds" "[J") (List.mem_of_getElem? (i := 2) rfl)
  have inX2 : ∀ w ∈ u_ws RX2 TX2 14, w ∈ wsX2_draught := fun _ h => List.mem_cons_of_mem _ (List.mem_append_left _ (List.mem_append_right _ h))
  have b13 : ∀  (z : (St × LSt)) (H : Heap) (locs : List Loc) (ls : Array Slot), va_P D vwCl (wHA cI cJ a (z.2) (z.1)) H → va_S A s.heap H locs → lv_has ls 10 [(0, .ref (a 0))] → fX2_draught_L13 N z = some r → W p l e rmX2_draught s m ([.ref (a 0), .int p1, .int p2, .int p3, .int p4] : List Value).toArray below meth c H locs 0 0 (MQ below (WQl sz D (wHA cI cJ a τ σ) (wHA cI cJ a (r.2.2) (r.2.1)) r.1) ([.ref (a 0), .int p1, .int p2, .int p3, .int p4] : List Value).toArray s 0 0 A) (F0 m 13 ls []) := by
    intro  z H locs ls hP hS hl hf
    unfold fX2_draught_L13 at hf
    refine lv_ldc2 (v := (4000000000000000000 : Int64)) hx hb hown ln1 dX2_draught_13 ?_
    refine lv_aload_n hx hb dX2_draught_16 rfl (lv_at hl 0 rfl) ?_
    refine lv_bipush (v := (-4 : Int32)) hx hb dX2_draught_17 (by decide) ?_
    refine d_callV (As := [.int (-4 : Int32)]) (rest := [.long (4000000000000000000 : Int64)]) (w := (fun (z : St × LSt) => wHA cI cJ a z.2 z.1)) (wc := (wHA cI cJ a (z.2))) (put := (fun uq => (uq, z.2))) (σ := z) (τ0 := (z.1)) ⟨hx, hb, hml, hown, hts⟩ hf (fun vq zq hq => mX2_refuse l D cI cJ a H.size N (z.2) (z.1) (-4 : Int32) (vq, zq) hq) (cwV 1 hts gX2_draught_X2_refuse rfl rfl rfl qX2_refuse ⟨Nat.le_of_ble_eq_true rfl, Nat.le_of_ble_eq_true rfl⟩) hK hP hD hS hA ⟨hP, hD _, fun _ _ _ h => h⟩ 2 rfl rfl rfl rfl hl.1 rfl (Nat.le_of_ble_eq_true rfl) dX2_draught_19 ⟨Nat.le_refl _, Nat.le_refl _⟩ (fun v2 z1 H locs hP hS hf => ?_)
    refine lv_i2l hx hb dX2_draught_22 rfl ?_
    refine lv_lsub hx hb dX2_draught_23 ?_
    exact W_lret (fun (z : St × LSt) => wHA cI cJ a z.2 z.1) hx hb hr hlk hP hS hAe hf dX2_draught_24
  have b43 : ∀  (z : (St × LSt)) (H : Heap) (locs : List Loc) (ls : Array Slot), va_P D vwCl (wHA cI cJ a (z.2) (z.1)) H → va_S A s.heap H locs → lv_has ls 10 [(0, .ref (a 0))] → fX2_draught_L43 N z = some r → W p l e rmX2_draught s m ([.ref (a 0), .int p1, .int p2, .int p3, .int p4] : List Value).toArray below meth c H locs 0 0 (MQ below (WQl sz D (wHA cI cJ a τ σ) (wHA cI cJ a (r.2.2) (r.2.1)) r.1) ([.ref (a 0), .int p1, .int p2, .int p3, .int p4] : List Value).toArray s 0 0 A) (F0 m 43 ls []) := by
    intro  z H locs ls hP hS hl hf
    unfold fX2_draught_L43 at hf
    refine lv_ldc2 (v := (4000000000000000000 : Int64)) hx hb hown ln1 dX2_draught_43 ?_
    refine lv_aload_n hx hb dX2_draught_46 rfl (lv_at hl 0 rfl) ?_
    refine lv_bipush (v := (-6 : Int32)) hx hb dX2_draught_47 (by decide) ?_
    refine d_callV (As := [.int (-6 : Int32)]) (rest := [.long (4000000000000000000 : Int64)]) (w := (fun (z : St × LSt) => wHA cI cJ a z.2 z.1)) (wc := (wHA cI cJ a (z.2))) (put := (fun uq => (uq, z.2))) (σ := z) (τ0 := (z.1)) ⟨hx, hb, hml, hown, hts⟩ hf (fun vq zq hq => mX2_refuse l D cI cJ a H.size N (z.2) (z.1) (-6 : Int32) (vq, zq) hq) (cwV 1 hts gX2_draught_X2_refuse rfl rfl rfl qX2_refuse ⟨Nat.le_of_ble_eq_true rfl, Nat.le_of_ble_eq_true rfl⟩) hK hP hD hS hA ⟨hP, hD _, fun _ _ _ h => h⟩ 2 rfl rfl rfl rfl hl.1 rfl (Nat.le_of_ble_eq_true rfl) dX2_draught_49 ⟨Nat.le_refl _, Nat.le_refl _⟩ (fun v4 z3 H locs hP hS hf => ?_)
    refine lv_i2l hx hb dX2_draught_52 rfl ?_
    refine lv_lsub hx hb dX2_draught_53 ?_
    exact W_lret (fun (z : St × LSt) => wHA cI cJ a z.2 z.1) hx hb hr hlk hP hS hAe hf dX2_draught_54
  have b92 : ∀  (n : Nat) (z : (St × LSt)) (x4 : Int32) (x5 : Int64) (x7 : Int64) (x9 : Int32) (H : Heap) (locs : List Loc) (ls : Array Slot), va_P D vwCl (wHA cI cJ a (z.2) (z.1)) H → va_S A s.heap H locs → lv_has ls 10 [(0, .ref (a 0)), (4, .int x4), (5, .long x5), (7, .long x7), (9, .int x9)] → fX2_draught_L92 N n z x4 x5 x7 x9 = some r → W p l e rmX2_draught s m ([.ref (a 0), .int p1, .int p2, .int p3, .int p4] : List Value).toArray below meth c H locs 0 0 (MQ below (WQl sz D (wHA cI cJ a τ σ) (wHA cI cJ a (r.2.2) (r.2.1)) r.1) ([.ref (a 0), .int p1, .int p2, .int p3, .int p4] : List Value).toArray s 0 0 A) (F0 m 92 ls []) := by
    intro n
    induction n with
    | zero => intro z x4 x5 x7 x9 H locs ls hP hS hl hf; cases hf
    | succ n ih =>
      intro z x4 x5 x7 x9 H locs ls hP hS hl hf
      rw [fX2_draught_L92] at hf
      refine lv_iload hx hb dX2_draught_92 (lv_at hl 4 rfl) ?_
      refine lv_aload_n hx hb dX2_draught_94 rfl (lv_at hl 0 rfl) ?_
      refine va_get (D := D) (ci := 2) (v := .ref (a 25)) (C := RX2) (T := TX2) (N := 14) hx hb hts inX2 hown hK hP 0 rfl rfl 8 (by decide) ln2 (fun _ h9 => h9) rfl dX2_draught_95 ?_
      refine va_alen (v := (21 : Int32)) hx hb hK hP 25 1 rfl rfl rfl dX2_draught_98 ?_
      refine k_icmp_ge (tgt := 120) hx hb dX2_draught_99 (by decide) hf (fun hf => ?_) (fun hf => ?_)
      · refine lv_lload hx hb dX2_draught_120 (lv_at hl 3 rfl) ?_
        refine lv_lload hx hb dX2_draught_122 (lv_at hl 2 rfl) ?_
        refine lv_iload hx hb dX2_draught_124 (lv_at hl 1 rfl) ?_
        refine c_callSL (As := [.long x7, .long x5, .int x4]) (rest := []) ⟨hx, hb, hml, hown, hts⟩ hf (fun vq hq => mX2_partOf l D cI cJ H.size N x7 x5 x4 vq hq) (va_cwS 3 hts gX2_draught_X2_partOf rfl rfl rfl qX2_partOf ⟨Nat.le_of_ble_eq_true rfl, Nat.le_of_ble_eq_true rfl⟩) hK hP hS hA va_P_nil rfl hl.1 rfl (Nat.le_of_ble_eq_true rfl) dX2_draught_126 ⟨Nat.le_refl _, Nat.le_refl _⟩ (fun v7 H locs hP hS hf => ?_)
        exact W_lret (fun (z : St × LSt) => wHA cI cJ a z.2 z.1) hx hb hr hlk hP hS hAe hf dX2_draught_129
      · refine lv_lload hx hb dX2_draught_102 (lv_at hl 3 rfl) ?_
        refine lv_aload_n hx hb dX2_draught_104 rfl (lv_at hl 0 rfl) ?_
        refine va_get (D := D) (ci := 2) (v := .ref (a 25)) (C := RX2) (T := TX2) (N := 14) hx hb hts inX2 hown hK hP 0 rfl rfl 8 (by decide) ln2 (fun _ h9 => h9) rfl dX2_draught_105 ?_
        refine lv_iload hx hb dX2_draught_108 (lv_at hl 4 rfl) ?_
        refine k_lald hx hb hK hP 25 1 hf rfl rfl dX2_draught_110 (fun v8 hf => ?_)
        refine lv_ladd hx hb dX2_draught_111 ?_
        refine k_letL hf (fun v9 hf => ?_)
        refine lv_lstore (lv' := [(7, .long v9), (0, .ref (a 0)), (4, .int x4), (5, .long x5), (9, .int x9)]) hx hb dX2_draught_112 hl (by decide) rfl (fun ls hl => ?_)
        refine k_iinc (d := (1 : Int32)) (lv' := fun v10 => [(9, .int v10), (7, .long v9), (0, .ref (a 0)), (4, .int x4), (5, .long x5)]) hx hb dX2_draught_114 hl (k := 4) rfl (by decide) (by decide) (fun _ => rfl) hf (fun v10 ls hl hf => ?_)
        refine lv_goto (tgt := 92) hx hb dX2_draught_117 (by decide) ?_
        exact ih z x4 x5 v9 v10 H locs ls hP hS (lv_sub hl [2, 3, 4, 1, 0] rfl) hf
  have b78 : ∀  (z : (St × LSt)) (x1 : Int32) (x2 : Int32) (x3 : Int32) (x4 : Int32) (H : Heap) (locs : List Loc) (ls : Array Slot), va_P D vwCl (wHA cI cJ a (z.2) (z.1)) H → va_S A s.heap H locs → lv_has ls 10 [(0, .ref (a 0)), (1, .int x1), (2, .int x2), (3, .int x3), (4, .int x4)] → fX2_draught_L78 N z x1 x2 x3 x4 = some r → W p l e rmX2_draught s m ([.ref (a 0), .int p1, .int p2, .int p3, .int p4] : List Value).toArray below meth c H locs 0 0 (MQ below (WQl sz D (wHA cI cJ a τ σ) (wHA cI cJ a (r.2.2) (r.2.1)) r.1) ([.ref (a 0), .int p1, .int p2, .int p3, .int p4] : List Value).toArray s 0 0 A) (F0 m 78 ls []) := by
    intro  z x1 x2 x3 x4 H locs ls hP hS hl hf
    unfold fX2_draught_L78 at hf
    refine lv_aload_n hx hb dX2_draught_78 rfl (lv_at hl 0 rfl) ?_
    refine lv_iload_n hx hb dX2_draught_79 rfl (lv_at hl 1 rfl) ?_
    refine lv_iload_n hx hb dX2_draught_80 rfl (lv_at hl 2 rfl) ?_
    refine d_callVL (As := [.int x1, .int x2]) (rest := []) (w := (fun (z : St × LSt) => wHA cI cJ a z.2 z.1)) (wc := (fun (uq : LSt) => wHA cI cJ a uq (z.1))) (put := (fun uq => (z.1, uq))) (σ := z) (τ0 := (z.2)) ⟨hx, hb, hml, hown, hts⟩ hf (fun vq zq hq => mX2_reckonOdds l D cI cJ a H.size N (z.2) (z.1) x1 x2 (vq, zq) hq) (cwV 2 hts gX2_draught_X2_reckonOdds rfl rfl rfl qX2_reckonOdds ⟨Nat.le_of_ble_eq_true rfl, Nat.le_of_ble_eq_true rfl⟩) hK hP hD hS hA ⟨hP, hD _, fun _ _ _ h => h⟩ 2 rfl rfl rfl rfl hl.1 rfl (Nat.le_of_ble_eq_true rfl) dX2_draught_81 ⟨Nat.le_refl _, Nat.le_refl _⟩ (fun v6 z5 H locs hP hS hf => ?_)
    refine lv_lstore (lv' := [(5, .long v6), (0, .ref (a 0)), (1, .int x1), (2, .int x2), (3, .int x3), (4, .int x4)]) hx hb dX2_draught_84 hl (by decide) rfl (fun ls hl => ?_)
    refine lv_lconst (v := (0 : Int64)) hx hb dX2_draught_86 (by decide) ?_
    refine lv_lstore (lv' := [(7, .long (0 : Int64)), (5, .long v6), (0, .ref (a 0)), (1, .int x1), (2, .int x2), (3, .int x3), (4, .int x4)]) hx hb dX2_draught_87 hl (by decide) rfl (fun ls hl => ?_)
    refine lv_iload_n hx hb dX2_draught_89 rfl (lv_at hl 5 rfl) ?_
    refine lv_istore (lv' := [(9, .int x3), (7, .long (0 : Int64)), (5, .long v6), (0, .ref (a 0)), (1, .int x1), (2, .int x2), (3, .int x3), (4, .int x4)]) hx hb dX2_draught_90 hl (by decide) rfl (fun ls hl => ?_)
    exact b92  N z5 x4 v6 (0 : Int64) x3 H locs ls hP hS (lv_sub hl [3, 7, 2, 1, 0] rfl) hf
  unfold fX2_draught at hf
  refine lv_iload_n hx hb dX2_draught_0 rfl (lv_at hl 1 rfl) ?_
  refine k_if_lt (tgt := 13) hx hb dX2_draught_1 (by decide) hf (fun hf => ?_) (fun hf => ?_)
  · exact b13  z0 s.heap [] ls hP hS (lv_sub hl [0] rfl) hf
  · refine lv_iload_n hx hb dX2_draught_4 rfl (lv_at hl 3 rfl) ?_
    refine k_if_lt (tgt := 13) hx hb dX2_draught_5 (by decide) hf (fun hf => ?_) (fun hf => ?_)
    · exact b13  z0 s.heap [] ls hP hS (lv_sub hl [0] rfl) hf
    · refine lv_iload_n hx hb dX2_draught_8 rfl (lv_at hl 2 rfl) ?_
      refine lv_iconst (v := (2 : Int32)) hx hb dX2_draught_9 (by decide) ?_
      refine k_icmp_ge (tgt := 25) hx hb dX2_draught_10 (by decide) hf (fun hf => ?_) (fun hf => ?_)
      · refine lv_iload_n hx hb dX2_draught_25 rfl (lv_at hl 1 rfl) ?_
        refine lv_bipush (v := (7 : Int32)) hx hb dX2_draught_26 (by decide) ?_
        refine k_icmp_gt (tgt := 43) hx hb dX2_draught_28 (by decide) hf (fun hf => ?_) (fun hf => ?_)
        · exact b43  z0 s.heap [] ls hP hS (lv_sub hl [0] rfl) hf
        · refine lv_iload_n hx hb dX2_draught_31 rfl (lv_at hl 2 rfl) ?_
          refine lv_bipush (v := (20 : Int32)) hx hb dX2_draught_32 (by decide) ?_
          refine k_icmp_gt (tgt := 43) hx hb dX2_draught_34 (by decide) hf (fun hf => ?_) (fun hf => ?_)
          · exact b43  z0 s.heap [] ls hP hS (lv_sub hl [0] rfl) hf
          · refine lv_iload_n hx hb dX2_draught_37 rfl (lv_at hl 3 rfl) ?_
            refine lv_bipush (v := (20 : Int32)) hx hb dX2_draught_38 (by decide) ?_
            refine k_icmp_le (tgt := 55) hx hb dX2_draught_40 (by decide) hf (fun hf => ?_) (fun hf => ?_)
            · refine lv_iload hx hb dX2_draught_55 (lv_at hl 4 rfl) ?_
              refine k_if_eq (tgt := 78) hx hb dX2_draught_57 (by decide) hf (fun hf => ?_) (fun hf => ?_)
              · exact b78  z0 p1 p2 p3 p4 s.heap [] ls hP hS (lv_sub hl [0, 1, 2, 3, 4] rfl) hf
              · refine lv_iload hx hb dX2_draught_60 (lv_at hl 4 rfl) ?_
                refine lv_iconst (v := (1 : Int32)) hx hb dX2_draught_62 (by decide) ?_
                refine k_icmp_eq (tgt := 78) hx hb dX2_draught_63 (by decide) hf (fun hf => ?_) (fun hf => ?_)
                · exact b78  z0 p1 p2 p3 p4 s.heap [] ls hP hS (lv_sub hl [0, 1, 2, 3, 4] rfl) hf
                · refine lv_ldc2 (v := (4000000000000000000 : Int64)) hx hb hown ln1 dX2_draught_66 ?_
                  refine lv_aload_n hx hb dX2_draught_69 rfl (lv_at hl 0 rfl) ?_
                  refine lv_bipush (v := (-2 : Int32)) hx hb dX2_draught_70 (by decide) ?_
                  refine d_callV (As := [.int (-2 : Int32)]) (rest := [.long (4000000000000000000 : Int64)]) (w := (fun (z : St × LSt) => wHA cI cJ a z.2 z.1)) (wc := (wHA cI cJ a (z0.2))) (put := (fun uq => (uq, z0.2))) (σ := z0) (τ0 := (z0.1)) ⟨hx, hb, hml, hown, hts⟩ hf (fun vq zq hq => mX2_refuse l D cI cJ a s.heap.size N (z0.2) (z0.1) (-2 : Int32) (vq, zq) hq) (cwV 1 hts gX2_draught_X2_refuse rfl rfl rfl qX2_refuse ⟨Nat.le_of_ble_eq_true rfl, Nat.le_of_ble_eq_true rfl⟩) hK hP hD hS hA ⟨hP, hD _, fun _ _ _ h => h⟩ 2 rfl rfl rfl rfl hl.1 rfl (Nat.le_of_ble_eq_true rfl) dX2_draught_72 ⟨Nat.le_refl _, Nat.le_refl _⟩ (fun v12 z11 H locs hP hS hf => ?_)
                  refine lv_i2l hx hb dX2_draught_75 rfl ?_
                  refine lv_lsub hx hb dX2_draught_76 ?_
                  exact W_lret (fun (z : St × LSt) => wHA cI cJ a z.2 z.1) hx hb hr hlk hP hS hAe hf dX2_draught_77
            · exact b43  z0 s.heap [] ls hP hS (lv_sub hl [0] rfl) hf
      · exact b13  z0 s.heap [] ls hP hS (lv_sub hl [0] rfl) hf
