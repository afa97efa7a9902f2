theorem cmb_HA_Ho2_1_2_3_4_5_6_7_8_9_10_11_12 (D : va_G) (cI cJ : ClassId) (a : Nat → Nat) (τ : LSt) (σ : St) {H : Heap} {A0 : Nat → Prop} (hP : va_P D vwCl (wHA cI cJ a τ σ) H) (hD : va_D A0 (wHA cI cJ a τ σ)) : va_P D vwCl (wHo2 cI (sb [1, 2, 3, 4, 5, 6, 7, 8, 9, 10, 11, 12] a) (sb [1, 2, 3, 4, 5, 6, 7, 8, 9, 10, 11, 12] σ)) H ∧ va_D A0 (wHo2 cI (sb [1, 2, 3, 4, 5, 6, 7, 8, 9, 10, 11, 12] a) (sb [1, 2, 3, 4, 5, 6, 7, 8, 9, 10, 11, 12] σ)) ∧ ∀ (z : St) (H1 : Heap), (∀ q : Nat, q < H.size → ¬ va_A (wHo2 cI (sb [1, 2, 3, 4, 5, 6, 7, 8, 9, 10, 11, 12] a) (sb [1, 2, 3, 4, 5, 6, 7, 8, 9, 10, 11, 12] σ)) H.size q → H1[q]? = H[q]?) → va_P D vwCl (wHo2 cI (sb [1, 2, 3, 4, 5, 6, 7, 8, 9, 10, 11, 12] a) z) H1 → va_P D vwCl (wHA cI cJ a τ (pb [1, 2, 3, 4, 5, 6, 7, 8, 9, 10, 11, 12] z σ)) H1 :=
  cmb_of (w := wHA cI cJ a τ) (wc := wHo2 cI (sb [1, 2, 3, 4, 5, 6, 7, 8, 9, 10, 11, 12] a)) (put := fun z => pb [1, 2, 3, 4, 5, 6, 7, 8, 9, 10, 11, 12] z σ) hP hD [1, 2, 3, 4, 5, 6, 7, 8, 9, 10, 11, 12] rfl rfl (by decide) (fun _ => rfl) (fun _ => rfl)
theorem cmb_HA_TeH_19_20_7_8_9_10_11_12 (D : va_G) (cI cJ : ClassId) (a : Nat → Nat) (τ : LSt) (σ : St) {H : Heap} {A0 : Nat → Prop} (hP : va_P D vwCl (wHA cI cJ a τ σ) H) (hD : va_D A0 (wHA cI cJ a τ σ)) : va_P D vwCl (wTeH cI (sb [19, 20, 7, 8, 9, 10, 11, 12] a) (sb [19, 20, 7, 8, 9, 10, 11, 12] σ)) H ∧ va_D A0 (wTeH cI (sb [19, 20, 7, 8, 9, 10, 11, 12] a) (sb [19, 20, 7, 8, 9, 10, 11, 12] σ)) ∧ ∀ (z : St) (H1 : Heap), (∀ q : Nat, q < H.size → ¬ va_A (wTeH cI (sb [19, 20, 7, 8, 9, 10, 11, 12] a) (sb [19, 20, 7, 8, 9, 10, 11, 12] σ)) H.size q → H1[q]? = H[q]?) → va_P D vwCl (wTeH cI (sb [19, 20, 7, 8, 9, 10, 11, 12] a) z) H1 → va_P D vwCl (wHA cI cJ a τ (pb [19, 20, 7, 8, 9, 10, 11, 12] z σ)) H1 :=
  cmb_of (w := wHA cI cJ a τ) (wc := wTeH cI (sb [19, 20, 7, 8, 9, 10, 11, 12] a)) (put := fun z => pb [19, 20, 7, 8, 9, 10, 11, 12] z σ) hP hD [19, 20, 7, 8, 9, 10, 11, 12] rfl rfl (by decide) (fun _ => rfl) (fun _ => rfl)
theorem cmb_TeH_Ho_2_3_4_5_6_7 (D : va_G) (cI : ClassId) (a : Nat → Nat) (σ : St) {H : Heap} {A0 : Nat → Prop} (hP : va_P D vwCl (wTeH cI a σ) H) (hD : va_D A0 (wTeH cI a σ)) : va_P D vwCl (wHo cI (sb [2, 3, 4, 5, 6, 7] a) (sb [2, 3, 4, 5, 6, 7] σ)) H ∧ va_D A0 (wHo cI (sb [2, 3, 4, 5, 6, 7] a) (sb [2, 3, 4, 5, 6, 7] σ)) ∧ ∀ (z : St) (H1 : Heap), (∀ q : Nat, q < H.size → ¬ va_A (wHo cI (sb [2, 3, 4, 5, 6, 7] a) (sb [2, 3, 4, 5, 6, 7] σ)) H.size q → H1[q]? = H[q]?) → va_P D vwCl (wHo cI (sb [2, 3, 4, 5, 6, 7] a) z) H1 → va_P D vwCl (wTeH cI a (pb [2, 3, 4, 5, 6, 7] z σ)) H1 :=
  cmb_of (w := wTeH cI a) (wc := wHo cI (sb [2, 3, 4, 5, 6, 7] a)) (put := fun z => pb [2, 3, 4, 5, 6, 7] z σ) hP hD [2, 3, 4, 5, 6, 7] rfl rfl (by decide) (fun _ => rfl) (fun _ => rfl)
theorem cmr_TeH_Te_0_1 (D : va_G) (cI : ClassId) (a : Nat → Nat) (σ : St) {H : Heap} (hP : va_P D vwCl (wTeH cI a σ) H) : va_P D vwCl (wTe cI (sb [0, 1] a) (sb [0, 1] σ)) H := hP.sub [0, 1] rfl
def fX1_goesOn_L88 (N : Nat) (σ : St)  (x4 : Int32) : Option Int32 :=
    if x4 < (48 : Int32) then zr (0 : Int32)
    else if (57 : Int32) < x4 then zr (0 : Int32)
    else zr (1 : Int32)
def fX1_goesOn (N : Nat) (σ : St) (p1 : Int32) (p2 : Int32) : Option Int32 :=
    bo (fX1_letterAt N σ p1) (fun v1 =>
    bo (fX1_letterAt N σ p2) (fun v2 =>
    if p2 = p1 then lt_ (ixS 0 ((v2.toUInt32 % 65536).toInt32)) (fun v5 =>
    if v5 < 0 then zr (0 : Int32)
    else zr (1 : Int32))
    else bo (fX1_lengthOf N v1) (fun v3 =>
    if p2 = (p1 + v3) then if v2 = (59 : Int32) then zr (1 : Int32)
    else zr (0 : Int32)
    else if p2 = (p1 + (1 : Int32)) then if v1 = (116 : Int32) then lt_ (ixS 1 ((v2.toUInt32 % 65536).toInt32)) (fun v4 =>
    if v4 < 0 then zr (0 : Int32)
    else zr (1 : Int32))
    else fX1_goesOn_L88 N σ  v2
    else fX1_goesOn_L88 N σ  v2)))
abbrev rmX1_goesOn : Room := { frames := 4, cells := 0, slots := 0, locals := 91 }
theorem qX1_goesOn : yX1_goesOn.cls = RX1 ∧ yX1_goesOn.cls ≠ "java/lang/invoke/MethodHandle" ∧ yX1_goesOn.cls ≠ "java/lang/invoke/VarHandle" ∧ (parseMethodDescriptor yX1_goesOn.desc).map (fun d => d.parameters.length) = some 2 := by decide +kernel
set_option maxHeartbeats 400000 in
set_option maxRecDepth 100000 in
theorem mX1_goesOn (l : Launch) (D : va_G) (cI cJ : ClassId) (ad av : Nat → Nat) (a : Nat → Nat) (sz N : Nat) (σ : St) (p1 : Int32) (p2 : Int32) (r : Int32) (hf : fX1_goesOn N σ p1 p2 = some r) : Met l yX1_goesOn wsX1_goesOn rmX1_goesOn (RPreS ad av ([.ref (a 0), .int p1, .int p2] : List Value) sz D (tyIJ cI cJ) (wTe cI a σ)) (RQi sz r) 0 0 (fr0 sz) := by
  refine RS_start (cc := cX1_goesOn) (maxL := 5) (ret := (some .boolean)) (by decide) rfl (Nat.le_of_ble_eq_true rfl) (fun p e s m below meth c ls hx hb hr hml hown hts hlk hP hK hS hA hsz hl hX => ?_)
  have hown : s.vm.findClass RX1 = some m.cls := hown
  have hl : lv_has ls 5 [(0, .ref (a 0)), (1, .int p1), (2, .int p2)] := hl
  have b88 : ∀  (x4 : Int32) (H : Heap) (locs : List Loc) (ls : Array Slot), va_P D vwCl (wTe cI a σ) H → va_S (fr0 s.heap.size) s.heap H locs → lv_has ls 5 [(4, .int x4)] → fX1_goesOn_L88 N σ x4 = some r → W p l e rmX1_goesOn s m ([.ref (a 0), .int p1, .int p2] : List Value).toArray below meth c H locs 0 0 (MQ below (RQi sz r) ([.ref (a 0), .int p1, .int p2] : List Value).toArray s 0 0 (fr0 sz)) (F0 m 88 ls []) := by
    intro  x4 H locs ls hP hS hl hf
    unfold fX1_goesOn_L88 at hf
    refine lv_iload hx hb dX1_goesOn_88 (lv_at hl 0 rfl) ?_
    refine lv_bipush (v := (48 : Int32)) hx hb dX1_goesOn_90 (by decide) ?_
    refine k_icmp_lt (tgt := 106) hx hb dX1_goesOn_92 (by decide) hf (fun hf => ?_) (fun hf => ?_)
    · refine lv_iconst (v := (0 : Int32)) hx hb dX1_goesOn_106 (by decide) ?_
      exact R_zret hx hb hr hlk hS hsz hf dX1_goesOn_107
    · refine lv_iload hx hb dX1_goesOn_95 (lv_at hl 0 rfl) ?_
      refine lv_bipush (v := (57 : Int32)) hx hb dX1_goesOn_97 (by decide) ?_
      refine k_icmp_gt (tgt := 106) hx hb dX1_goesOn_99 (by decide) hf (fun hf => ?_) (fun hf => ?_)
      · refine lv_iconst (v := (0 : Int32)) hx hb dX1_goesOn_106 (by decide) ?_
        exact R_zret hx hb hr hlk hS hsz hf dX1_goesOn_107
      · refine lv_iconst (v := (1 : Int32)) hx hb dX1_goesOn_102 (by decide) ?_
        refine lv_goto (tgt := 107) hx hb dX1_goesOn_103 (by decide) ?_
        exact R_zret hx hb hr hlk hS hsz hf dX1_goesOn_107
  unfold fX1_goesOn at hf
  refine lv_aload_n hx hb dX1_goesOn_0 rfl (lv_at hl 0 rfl) ?_
  refine lv_iload_n hx hb dX1_goesOn_1 rfl (lv_at hl 1 rfl) ?_
  refine c_callV (As := [.int p1]) (rest := []) ⟨hx, hb, hml, hown, hts⟩ hf (fun vq hq => mX1_letterAt l D cI cJ a s.heap.size N σ p1 vq hq) (cwV 1 hts gX1_goesOn_X1_letterAt rfl rfl rfl qX1_letterAt ⟨Nat.le_of_ble_eq_true rfl, Nat.le_of_ble_eq_true rfl⟩) hK hP hS hA hP 1 rfl rfl rfl rfl hl.1 rfl (Nat.le_of_ble_eq_true rfl) dX1_goesOn_2 ⟨Nat.le_refl _, Nat.le_refl _⟩ (fun v1 H locs hP hS hf => ?_)
  refine lv_istore_n (lv' := [(3, .int v1), (0, .ref (a 0)), (1, .int p1), (2, .int p2)]) hx hb dX1_goesOn_5 rfl hl (by decide) rfl (fun ls hl => ?_)
  refine lv_aload_n hx hb dX1_goesOn_6 rfl (lv_at hl 1 rfl) ?_
  refine lv_iload_n hx hb dX1_goesOn_7 rfl (lv_at hl 3 rfl) ?_
  refine c_callV (As := [.int p2]) (rest := []) ⟨hx, hb, hml, hown, hts⟩ hf (fun vq hq => mX1_letterAt l D cI cJ a H.size N σ p2 vq hq) (cwV 1 hts gX1_goesOn_X1_letterAt rfl rfl rfl qX1_letterAt ⟨Nat.le_of_ble_eq_true rfl, Nat.le_of_ble_eq_true rfl⟩) hK hP hS hA hP 1 rfl rfl rfl rfl hl.1 rfl (Nat.le_of_ble_eq_true rfl) dX1_goesOn_8 ⟨Nat.le_refl _, Nat.le_refl _⟩ (fun v2 H locs hP hS hf => ?_)
  refine lv_istore (lv' := [(4, .int v2), (3, .int v1), (0, .ref (a 0)), (1, .int p1), (2, .int p2)]) hx hb dX1_goesOn_11 hl (by decide) rfl (fun ls hl => ?_)
  refine lv_iload_n hx hb dX1_goesOn_13 rfl (lv_at hl 4 rfl) ?_
  refine lv_iload_n hx hb dX1_goesOn_14 rfl (lv_at hl 3 rfl) ?_
  refine k_icmp_ne (tgt := 35) hx hb dX1_goesOn_15 (by decide) hf (fun hf => ?_) (fun hf => ?_)
  · refine lv_iload_n hx hb dX1_goesOn_35 rfl (lv_at hl 4 rfl) ?_
    refine lv_iload_n hx hb dX1_goesOn_36 rfl (lv_at hl 3 rfl) ?_
    refine lv_iload_n hx hb dX1_goesOn_37 rfl (lv_at hl 1 rfl) ?_
    refine c_callS (As := [.int v1]) (rest := [.int p1, .int p2]) ⟨hx, hb, hml, hown, hts⟩ hf (fun vq hq => mX1_lengthOf l D cI cJ H.size N v1 vq hq) (va_cwS 1 hts gX1_goesOn_X1_lengthOf rfl rfl rfl qX1_lengthOf ⟨Nat.le_of_ble_eq_true rfl, Nat.le_of_ble_eq_true rfl⟩) hK hP hS hA va_P_nil rfl hl.1 rfl (Nat.le_of_ble_eq_true rfl) dX1_goesOn_38 ⟨Nat.le_refl _, Nat.le_refl _⟩ (fun v3 H locs hP hS hf => ?_)
    refine lv_iadd hx hb dX1_goesOn_41 ?_
    refine k_icmp_ne (tgt := 58) hx hb dX1_goesOn_42 (by decide) hf (fun hf => ?_) (fun hf => ?_)
    · refine lv_iload_n hx hb dX1_goesOn_58 rfl (lv_at hl 4 rfl) ?_
      refine lv_iload_n hx hb dX1_goesOn_59 rfl (lv_at hl 3 rfl) ?_
      refine lv_iconst (v := (1 : Int32)) hx hb dX1_goesOn_60 (by decide) ?_
      refine lv_iadd hx hb dX1_goesOn_61 ?_
      refine k_icmp_ne (tgt := 88) hx hb dX1_goesOn_62 (by decide) hf (fun hf => ?_) (fun hf => ?_)
      · exact b88  v2 H locs ls hP hS (lv_sub hl [0] rfl) hf
      · refine lv_iload_n hx hb dX1_goesOn_65 rfl (lv_at hl 1 rfl) ?_
        refine lv_bipush (v := (116 : Int32)) hx hb dX1_goesOn_66 (by decide) ?_
        refine k_icmp_ne (tgt := 88) hx hb dX1_goesOn_68 (by decide) hf (fun hf => ?_) (fun hf => ?_)
        · exact b88  v2 H locs ls hP hS (lv_sub hl [0] rfl) hf
        · refine va_ldcS hx hb hown hX.2.2.1 dX1_goesOn_71 ?_
          refine lv_iload hx hb dX1_goesOn_73 (lv_at hl 0 rfl) ?_
          refine lv_i2c hx hb dX1_goesOn_75 rfl ?_
          refine e_callJ (As := [.int ((v2.toUInt32 % 65536).toInt32)]) (rest := []) ⟨hx, hb, hml, hown, hts⟩ (i := 1) (by decide) (mJ0_indexOf l D (tyIJ cI cJ) ad av _ (by decide) ((v2.toUInt32 % 65536).toInt32)) (cwV 1 hts gX1_goesOn_J0_indexOf_0f7a4 rfl rfl rfl qJ0_indexOf_0f7a4 ⟨Nat.le_of_ble_eq_true rfl, Nat.le_of_ble_eq_true rfl⟩) hX hK hP hS hA rfl hl.1 rfl (Nat.le_of_ble_eq_true rfl) dX1_goesOn_76 ⟨Nat.le_refl _, Nat.le_refl _⟩ (fun H locs hP hS => ?_)
          refine k_let hf (fun v4 hf => ?_)
          refine k_if_lt (tgt := 86) hx hb dX1_goesOn_79 (by decide) hf (fun hf => ?_) (fun hf => ?_)
          · refine lv_iconst (v := (0 : Int32)) hx hb dX1_goesOn_86 (by decide) ?_
            exact R_zret hx hb hr hlk hS hsz hf dX1_goesOn_87
          · refine lv_iconst (v := (1 : Int32)) hx hb dX1_goesOn_82 (by decide) ?_
            refine lv_goto (tgt := 87) hx hb dX1_goesOn_83 (by decide) ?_
            exact R_zret hx hb hr hlk hS hsz hf dX1_goesOn_87
    · refine lv_iload hx hb dX1_goesOn_45 (lv_at hl 0 rfl) ?_
      refine lv_bipush (v := (59 : Int32)) hx hb dX1_goesOn_47 (by decide) ?_
      refine k_icmp_ne (tgt := 56) hx hb dX1_goesOn_49 (by decide) hf (fun hf => ?_) (fun hf => ?_)
      · refine lv_iconst (v := (0 : Int32)) hx hb dX1_goesOn_56 (by decide) ?_
        exact R_zret hx hb hr hlk hS hsz hf dX1_goesOn_57
      · refine lv_iconst (v := (1 : Int32)) hx hb dX1_goesOn_52 (by decide) ?_
        refine lv_goto (tgt := 57) hx hb dX1_goesOn_53 (by decide) ?_
        exact R_zret hx hb hr hlk hS hsz hf dX1_goesOn_57
  · refine va_ldcS hx hb hown hX.2.1 dX1_goesOn_18 ?_
    refine lv_iload hx hb dX1_goesOn_20 (lv_at hl 0 rfl) ?_
    refine lv_i2c hx hb dX1_goesOn_22 rfl ?_
    refine e_callJ (As := [.int ((v2.toUInt32 % 65536).toInt32)]) (rest := []) ⟨hx, hb, hml, hown, hts⟩ (i := 0) (by decide) (mJ0_indexOf l D (tyIJ cI cJ) ad av _ (by decide) ((v2.toUInt32 % 65536).toInt32)) (cwV 1 hts gX1_goesOn_J0_indexOf_0f7a4 rfl rfl rfl qJ0_indexOf_0f7a4 ⟨Nat.le_of_ble_eq_true rfl, Nat.le_of_ble_eq_true rfl⟩) hX hK hP hS hA rfl hl.1 rfl (Nat.le_of_ble_eq_true rfl) dX1_goesOn_23 ⟨Nat.le_refl _, Nat.le_refl _⟩ (fun H locs hP hS => ?_)
    refine k_let hf (fun v5 hf => ?_)
    refine k_if_lt (tgt := 33) hx hb dX1_goesOn_26 (by decide) hf (fun hf => ?_) (fun hf => ?_)
    · refine lv_iconst (v := (0 : Int32)) hx hb dX1_goesOn_33 (by decide) ?_
      exact R_zret hx hb hr hlk hS hsz hf dX1_goesOn_34
    · refine lv_iconst (v := (1 : Int32)) hx hb dX1_goesOn_29 (by decide) ?_
      refine lv_goto (tgt := 34) hx hb dX1_goesOn_30 (by decide) ?_
      exact R_zret hx hb hr hlk hS hsz hf dX1_goesOn_34
def fX1_brokenAt_L37 (N : Nat) (σ : St) (k4 : Int32 → Int32 → Option Int32) (x1 : Int32) (x2 : Int32) : Option Int32 :=
    lt_ (x2 + (1 : Int32) : Int32) (fun v3 =>
    k4 x1 v3)
def fX1_brokenAt_L4 (N : Nat) (σ : St)  : Nat → Int32 → Int32 → Option Int32
  | 0, _, _ => none
  | n + 1, x1, x2 =>
    if (σ 0 0) ≤ x2 then if (σ 0 0) = 0 then some (σ 0 0)
    else if (σ 0 0) ≤ x1 then some (-1 : Int32)
    else some (σ 0 0)
    else bo (fX1_goesOn N σ x1 x2) (fun v1 =>
    if v1 = 0 then some x2
    else bo (fX1_letterAt N σ x2) (fun v2 =>
    if v2 = (59 : Int32) then lt_ ((x2 + (1 : Int32)) : Int32) (fun v4 =>
    fX1_brokenAt_L37 N σ (fX1_brokenAt_L4 N σ n) v4 x2)
    else fX1_brokenAt_L37 N σ (fX1_brokenAt_L4 N σ n) x1 x2))
def fX1_brokenAt (N : Nat) (σ : St)  : Option Int32 :=
    fX1_brokenAt_L4 N σ  N (0 : Int32) (0 : Int32)
abbrev rmX1_brokenAt : Room := { frames := 5, cells := 0, slots := 0, locals := 115 }
theorem qX1_brokenAt : yX1_brokenAt.cls = RX1 ∧ yX1_brokenAt.cls ≠ "java/lang/invoke/MethodHandle" ∧ yX1_brokenAt.cls ≠ "java/lang/invoke/VarHandle" ∧ (parseMethodDescriptor yX1_brokenAt.desc).map (fun d => d.parameters.length) = some 0 := by decide +kernel
set_option maxHeartbeats 400000 in
set_option maxRecDepth 100000 in
theorem mX1_brokenAt (l : Launch) (D : va_G) (cI cJ : ClassId) (ad av : Nat → Nat) (a : Nat → Nat) (sz N : Nat) (σ : St)  (r : Int32) (hf : fX1_brokenAt N σ = some r) : Met l yX1_brokenAt wsX1_brokenAt rmX1_brokenAt (RPreS ad av ([.ref (a 0)] : List Value) sz D (tyIJ cI cJ) (wTe cI a σ)) (RQi sz r) 0 0 (fr0 sz) := by
  refine RS_start (cc := cX1_brokenAt) (maxL := 3) (ret := (some .int)) (by decide) rfl (Nat.le_of_ble_eq_true rfl) (fun p e s m below meth c ls hx hb hr hml hown hts hlk hP hK hS hA hsz hl hX => ?_)
  have hown : s.vm.findClass RX1 = some m.cls := hown
  have hl : lv_has ls 3 [(0, .ref (a 0))] := hl
  have ln1 := hts (Cond.fieldLink RX1 7 "HoistsAreShared$Telling" "told" "I") (List.mem_of_getElem? (i := 1) rfl)
  have inX1 : ∀ w ∈ u_ws RX1 TX1 2, w ∈ wsX1_brokenAt := fun _ h => List.mem_cons_of_mem _ (List.mem_append_right _ h)
  have b37 : ∀ (k4 : Int32 → Int32 → Option Int32) (hk4 : (∀ (x1 : Int32) (x2 : Int32) (H : Heap) (locs : List Loc) (ls : Array Slot), va_P D vwCl (wTe cI a σ) H → va_S (fr0 s.heap.size) s.heap H locs → lv_has ls 3 [(0, .ref (a 0)), (1, .int x1), (2, .int x2)] → k4 x1 x2 = some r → W p l e rmX1_brokenAt s m ([.ref (a 0)] : List Value).toArray below meth c H locs 0 0 (MQ below (RQi sz r) ([.ref (a 0)] : List Value).toArray s 0 0 (fr0 sz)) (F0 m 4 ls []))) (x1 : Int32) (x2 : Int32) (H : Heap) (locs : List Loc) (ls : Array Slot), va_P D vwCl (wTe cI a σ) H → va_S (fr0 s.heap.size) s.heap H locs → lv_has ls 3 [(0, .ref (a 0)), (1, .int x1), (2, .int x2)] → fX1_brokenAt_L37 N σ k4 x1 x2 = some r → W p l e rmX1_brokenAt s m ([.ref (a 0)] : List Value).toArray below meth c H locs 0 0 (MQ below (RQi sz r) ([.ref (a 0)] : List Value).toArray s 0 0 (fr0 sz)) (F0 m 37 ls []) := by
    intro k4 hk4 x1 x2 H locs ls hP hS hl hf
    unfold fX1_brokenAt_L37 at hf
    refine k_iinc (d := (1 : Int32)) (lv' := fun v3 => [(2, .int v3), (0, .ref (a 0)), (1, .int x1)]) hx hb dX1_brokenAt_37 hl (k := 2) rfl (by decide) (by decide) (fun _ => rfl) hf (fun v3 ls hl hf => ?_)
    refine lv_goto (tgt := 4) hx hb dX1_brokenAt_40 (by decide) ?_
    exact hk4 x1 v3 H locs ls hP hS (lv_sub hl [1, 2, 0] rfl) hf
  have b4 : ∀  (n : Nat) (x1 : Int32) (x2 : Int32) (H : Heap) (locs : List Loc) (ls : Array Slot), va_P D vwCl (wTe cI a σ) H → va_S (fr0 s.heap.size) s.heap H locs → lv_has ls 3 [(0, .ref (a 0)), (1, .int x1), (2, .int x2)] → fX1_brokenAt_L4 N σ n x1 x2 = some r → W p l e rmX1_brokenAt s m ([.ref (a 0)] : List Value).toArray below meth c H locs 0 0 (MQ below (RQi sz r) ([.ref (a 0)] : List Value).toArray s 0 0 (fr0 sz)) (F0 m 4 ls []) := by
    intro n
    induction n with
    | zero => intro x1 x2 H locs ls hP hS hl hf; cases hf
    | succ n ih =>
      intro x1 x2 H locs ls hP hS hl hf
      rw [fX1_brokenAt_L4] at hf
      refine lv_iload_n hx hb dX1_brokenAt_4 rfl (lv_at hl 2 rfl) ?_
      refine lv_aload_n hx hb dX1_brokenAt_5 rfl (lv_at hl 0 rfl) ?_
      refine va_get (D := D) (ci := 1) (v := .int (σ 0 0)) (C := RX1) (T := TX1) (N := 2) hx hb hts inX1 hown hK hP 0 rfl rfl 0 (by decide) ln1 (fun _ h9 => h9) rfl dX1_brokenAt_6 ?_
      refine k_icmp_ge (tgt := 43) hx hb dX1_brokenAt_9 (by decide) hf (fun hf => ?_) (fun hf => ?_)
      · refine lv_aload_n hx hb dX1_brokenAt_43 rfl (lv_at hl 0 rfl) ?_
        refine va_get (D := D) (ci := 1) (v := .int (σ 0 0)) (C := RX1) (T := TX1) (N := 2) hx hb hts inX1 hown hK hP 0 rfl rfl 0 (by decide) ln1 (fun _ h9 => h9) rfl dX1_brokenAt_44 ?_
        refine k_if_eq (tgt := 58) hx hb dX1_brokenAt_47 (by decide) hf (fun hf => ?_) (fun hf => ?_)
        · refine lv_aload_n hx hb dX1_brokenAt_58 rfl (lv_at hl 0 rfl) ?_
          refine va_get (D := D) (ci := 1) (v := .int (σ 0 0)) (C := RX1) (T := TX1) (N := 2) hx hb hts inX1 hown hK hP 0 rfl rfl 0 (by decide) ln1 (fun _ h9 => h9) rfl dX1_brokenAt_59 ?_
          refine lv_goto (tgt := 66) hx hb dX1_brokenAt_62 (by decide) ?_
          exact R_iret hx hb hr hlk hS hsz hf dX1_brokenAt_66
        · refine lv_iload_n hx hb dX1_brokenAt_50 rfl (lv_at hl 1 rfl) ?_
          refine lv_aload_n hx hb dX1_brokenAt_51 rfl (lv_at hl 0 rfl) ?_
          refine va_get (D := D) (ci := 1) (v := .int (σ 0 0)) (C := RX1) (T := TX1) (N := 2) hx hb hts inX1 hown hK hP 0 rfl rfl 0 (by decide) ln1 (fun _ h9 => h9) rfl dX1_brokenAt_52 ?_
          refine k_icmp_ge (tgt := 65) hx hb dX1_brokenAt_55 (by decide) hf (fun hf => ?_) (fun hf => ?_)
          · refine lv_iconst (v := (-1 : Int32)) hx hb dX1_brokenAt_65 (by decide) ?_
            exact R_iret hx hb hr hlk hS hsz hf dX1_brokenAt_66
          · refine lv_aload_n hx hb dX1_brokenAt_58 rfl (lv_at hl 0 rfl) ?_
            refine va_get (D := D) (ci := 1) (v := .int (σ 0 0)) (C := RX1) (T := TX1) (N := 2) hx hb hts inX1 hown hK hP 0 rfl rfl 0 (by decide) ln1 (fun _ h9 => h9) rfl dX1_brokenAt_59 ?_
            refine lv_goto (tgt := 66) hx hb dX1_brokenAt_62 (by decide) ?_
            exact R_iret hx hb hr hlk hS hsz hf dX1_brokenAt_66
      · refine lv_aload_n hx hb dX1_brokenAt_12 rfl (lv_at hl 0 rfl) ?_
        refine lv_iload_n hx hb dX1_brokenAt_13 rfl (lv_at hl 1 rfl) ?_
        refine lv_iload_n hx hb dX1_brokenAt_14 rfl (lv_at hl 2 rfl) ?_
        refine e_callV (As := [.int x1, .int x2]) (rest := []) ⟨hx, hb, hml, hown, hts⟩ hf (fun vq hq => mX1_goesOn l D cI cJ ad av a H.size N σ x1 x2 vq hq) (cwV 2 hts gX1_brokenAt_X1_goesOn rfl rfl rfl qX1_goesOn ⟨Nat.le_of_ble_eq_true rfl, Nat.le_of_ble_eq_true rfl⟩) hX hK hP hS hA hP 1 rfl rfl rfl rfl hl.1 rfl (Nat.le_of_ble_eq_true rfl) dX1_brokenAt_15 ⟨Nat.le_refl _, Nat.le_refl _⟩ (fun v1 H locs hP hS hf => ?_)
        refine k_if_ne (tgt := 23) hx hb dX1_brokenAt_18 (by decide) hf (fun hf => ?_) (fun hf => ?_)
        · refine lv_aload_n hx hb dX1_brokenAt_23 rfl (lv_at hl 0 rfl) ?_
          refine lv_iload_n hx hb dX1_brokenAt_24 rfl (lv_at hl 2 rfl) ?_
          refine c_callV (As := [.int x2]) (rest := []) ⟨hx, hb, hml, hown, hts⟩ hf (fun vq hq => mX1_letterAt l D cI cJ a H.size N σ x2 vq hq) (cwV 1 hts gX1_brokenAt_X1_letterAt rfl rfl rfl qX1_letterAt ⟨Nat.le_of_ble_eq_true rfl, Nat.le_of_ble_eq_true rfl⟩) hK hP hS hA hP 1 rfl rfl rfl rfl hl.1 rfl (Nat.le_of_ble_eq_true rfl) dX1_brokenAt_25 ⟨Nat.le_refl _, Nat.le_refl _⟩ (fun v2 H locs hP hS hf => ?_)
          refine lv_bipush (v := (59 : Int32)) hx hb dX1_brokenAt_28 (by decide) ?_
          refine k_icmp_ne (tgt := 37) hx hb dX1_brokenAt_30 (by decide) hf (fun hf => ?_) (fun hf => ?_)
          · exact b37 (fX1_brokenAt_L4 N σ n) ih x1 x2 H locs ls hP hS (lv_sub hl [0, 1, 2] rfl) hf
          · refine lv_iload_n hx hb dX1_brokenAt_33 rfl (lv_at hl 2 rfl) ?_
            refine lv_iconst (v := (1 : Int32)) hx hb dX1_brokenAt_34 (by decide) ?_
            refine lv_iadd hx hb dX1_brokenAt_35 ?_
            refine k_let hf (fun v4 hf => ?_)
            refine lv_istore_n (lv' := [(1, .int v4), (0, .ref (a 0)), (2, .int x2)]) hx hb dX1_brokenAt_36 rfl hl (by decide) rfl (fun ls hl => ?_)
            exact b37 (fX1_brokenAt_L4 N σ n) ih v4 x2 H locs ls hP hS (lv_sub hl [1, 0, 2] rfl) hf
        · refine lv_iload_n hx hb dX1_brokenAt_21 rfl (lv_at hl 2 rfl) ?_
          exact R_iret hx hb hr hlk hS hsz hf dX1_brokenAt_22
  unfold fX1_brokenAt at hf
  refine lv_iconst (v := (0 : Int32)) hx hb dX1_brokenAt_0 (by decide) ?_
  refine lv_istore_n (lv' := [(1, .int (0 : Int32)), (0, .ref (a 0))]) hx hb dX1_brokenAt_1 rfl hl (by decide) rfl (fun ls hl => ?_)
  refine lv_iconst (v := (0 : Int32)) hx hb dX1_brokenAt_2 (by decide) ?_
  refine lv_istore_n (lv' := [(2, .int (0 : Int32)), (1, .int (0 : Int32)), (0, .ref (a 0))]) hx hb dX1_brokenAt_3 rfl hl (by decide) rfl (fun ls hl => ?_)
  exact b4  N (0 : Int32) (0 : Int32) s.heap [] ls hP hS (lv_sub hl [2, 1, 0] rfl) hf
def fX1_tellStatement (N : Nat) (σ : St) (p2 : Int32) : Option (Int32 × St) :=
    bo (fX1_letterAt N (sb [0, 1] σ) p2) (fun v1 =>
    if v1 = (98 : Int32) then bo (fX1_digit N (sb [0, 1] σ) (p2 + (1 : Int32))) (fun v2 =>
    bo (fX1_number N (sb [0, 1] σ) (p2 + (2 : Int32))) (fun v3 =>
    bx (fX0_load N (sb [2, 3, 4, 5, 6, 7] σ) v2 v3) (fun uq => pb [2, 3, 4, 5, 6, 7] uq σ) (fun v5 z4 =>
    bo (zr v5) (fun v => some (v, z4)))))
    else if v1 = (100 : Int32) then bo (fX1_number N (sb [0, 1] σ) (p2 + (1 : Int32))) (fun v7 =>
    bx (fX0_switchDoor N (sb [2, 3, 4, 5, 6, 7] σ) v7) (fun uq => pb [2, 3, 4, 5, 6, 7] uq σ) (fun v9 z8 =>
    bo (zr v9) (fun v => some (v, z8))))
    else if v1 = (102 : Int32) then bo (fX1_number N (sb [0, 1] σ) (p2 + (1 : Int32))) (fun v11 =>
    bx (fX0_lift N (sb [2, 3, 4, 5, 6, 7] σ) v11) (fun uq => pb [2, 3, 4, 5, 6, 7] uq σ) (fun v13 z12 =>
    bo (zr v13) (fun v => some (v, z12))))
    else if v1 = (104 : Int32) then bo (fX1_digit N (sb [0, 1] σ) (p2 + (1 : Int32))) (fun v15 =>
    bo (fX1_digit N (sb [0, 1] σ) (p2 + (2 : Int32))) (fun v16 =>
    bx (fX0_put N (sb [2, 3, 4, 5, 6, 7] σ) v15 v16) (fun uq => pb [2, 3, 4, 5, 6, 7] uq σ) (fun v18 z17 =>
    bo (zr v18) (fun v => some (v, z17)))))
    else if v1 = (110 : Int32) then bo (fX1_number N (sb [0, 1] σ) (p2 + (1 : Int32))) (fun v20 =>
    bx (fX0_pass N (sb [2, 3, 4, 5, 6, 7] σ) v20) (fun uq => pb [2, 3, 4, 5, 6, 7] uq σ) (fun v22 z21 =>
    bo (zr v22) (fun v => some (v, z21))))
    else if v1 = (116 : Int32) then bo (fX1_letterAt N (sb [0, 1] σ) (p2 + (1 : Int32))) (fun v24 =>
    lt_ (ixS 1 ((v24.toUInt32 % 65536).toInt32)) (fun v25 =>
    bo (fX1_digit N (sb [0, 1] σ) (p2 + (2 : Int32))) (fun v26 =>
    bo (fX1_digit N (sb [0, 1] σ) (p2 + (3 : Int32))) (fun v27 =>
    bx (fX0_add N (sb [2, 3, 4, 5, 6, 7] σ) v25 v26 v27) (fun uq => pb [2, 3, 4, 5, 6, 7] uq σ) (fun v29 z28 =>
    bo (zr v29) (fun v => some (v, z28)))))))
    else bo (zr (0 : Int32)) (fun v => some (v, σ)))
abbrev rmX1_tellStatement : Room := { frames := 4, cells := 0, slots := 0, locals := 94 }
theorem qX1_tellStatement : yX1_tellStatement.cls = RX1 ∧ yX1_tellStatement.cls ≠ "java/lang/invoke/MethodHandle" ∧ yX1_tellStatement.cls ≠ "java/lang/invoke/VarHandle" ∧ (parseMethodDescriptor yX1_tellStatement.desc).map (fun d => d.parameters.length) = some 2 := by decide +kernel
set_option maxHeartbeats 400000 in
set_option maxRecDepth 100000 in
theorem mX1_tellStatement (l : Launch) (D : va_G) (cI cJ : ClassId) (ad av : Nat → Nat) (a : Nat → Nat) (sz N : Nat) (σ : St) (p2 : Int32) (r : (Int32 × St)) (hf : fX1_tellStatement N σ p2 = some r) : Met l yX1_tellStatement wsX1_tellStatement rmX1_tellStatement (WPreS ad av ([.ref (a 0), .ref (a 2), .int p2] : List Value) sz D (tyIJ cI cJ) (wTeH cI a σ)) (WQi sz D (wTeH cI a σ) (wTeH cI a (r.2)) r.1) 0 0 (va_A (wTeH cI a σ) sz) := by
  refine WS_start (cc := cX1_tellStatement) (maxL := 3) (ret := (some .boolean)) (by decide) rfl (Nat.le_of_ble_eq_true rfl) (fun p e s m below meth c ls A hx hb hr hml hown hts hlk hP hK hS hA hD0 hAe hl hX => ?_)
  have hD : ∀ z, va_D A ((fun z => wTeH cI a z) z) := fun z => hD0.ad rfl
  have hown : s.vm.findClass RX1 = some m.cls := hown
  have hl : lv_has ls 3 [(0, .ref (a 0)), (1, .ref (a 2)), (2, .int p2)] := hl
  unfold fX1_tellStatement at hf
  refine lv_aload_n hx hb dX1_tellStatement_0 rfl (lv_at hl 0 rfl) ?_
  refine lv_iload_n hx hb dX1_tellStatement_1 rfl (lv_at hl 2 rfl) ?_
  refine c_callV (As := [.int p2]) (rest := []) ⟨hx, hb, hml, hown, hts⟩ hf (fun vq hq => mX1_letterAt l D cI cJ (sb [0, 1] a) s.heap.size N (sb [0, 1] σ) p2 vq hq) (cwV 1 hts gX1_tellStatement_X1_letterAt rfl rfl rfl qX1_letterAt ⟨Nat.le_of_ble_eq_true rfl, Nat.le_of_ble_eq_true rfl⟩) hK hP hS hA (cmr_TeH_Te_0_1 D cI a σ hP) 1 rfl rfl rfl rfl hl.1 rfl (Nat.le_of_ble_eq_true rfl) dX1_tellStatement_2 ⟨Nat.le_refl _, Nat.le_refl _⟩ (fun v1 H locs hP hS hf => ?_)
  refine sw_if hf (fun c6 hf => ?_) (fun c6 hf => ?_)
  · refine lv_tableIn (off := 142) (tgt := 147) hx hb dX1_tellStatement_5 (by rw [c6]; decide) (by rw [c6]; decide) (by rw [c6]; decide) (by decide) ?_
    refine lv_aload_n hx hb dX1_tellStatement_147 rfl (lv_at hl 1 rfl) ?_
    refine lv_aload_n hx hb dX1_tellStatement_148 rfl (lv_at hl 0 rfl) ?_
    refine lv_iload_n hx hb dX1_tellStatement_149 rfl (lv_at hl 2 rfl) ?_
    refine lv_iconst (v := (1 : Int32)) hx hb dX1_tellStatement_150 (by decide) ?_
    refine lv_iadd hx hb dX1_tellStatement_151 ?_
    refine c_callV (As := [.int (p2 + (1 : Int32))]) (rest := [.ref (a 2)]) ⟨hx, hb, hml, hown, hts⟩ hf (fun vq hq => mX1_digit l D cI cJ (sb [0, 1] a) H.size N (sb [0, 1] σ) (p2 + (1 : Int32)) vq hq) (cwV 1 hts gX1_tellStatement_X1_digit rfl rfl rfl qX1_digit ⟨Nat.le_of_ble_eq_true rfl, Nat.le_of_ble_eq_true rfl⟩) hK hP hS hA (cmr_TeH_Te_0_1 D cI a σ hP) 1 rfl rfl rfl rfl hl.1 rfl (Nat.le_of_ble_eq_true rfl) dX1_tellStatement_152 ⟨Nat.le_refl _, Nat.le_refl _⟩ (fun v2 H locs hP hS hf => ?_)
    refine lv_aload_n hx hb dX1_tellStatement_155 rfl (lv_at hl 0 rfl) ?_
    refine lv_iload_n hx hb dX1_tellStatement_156 rfl (lv_at hl 2 rfl) ?_
    refine lv_iconst (v := (2 : Int32)) hx hb dX1_tellStatement_157 (by decide) ?_
    refine lv_iadd hx hb dX1_tellStatement_158 ?_
    refine c_callV (As := [.int (p2 + (2 : Int32))]) (rest := [.int v2, .ref (a 2)]) ⟨hx, hb, hml, hown, hts⟩ hf (fun vq hq => mX1_number l D cI cJ (sb [0, 1] a) H.size N (sb [0, 1] σ) (p2 + (2 : Int32)) vq hq) (cwV 1 hts gX1_tellStatement_X1_number rfl rfl rfl qX1_number ⟨Nat.le_of_ble_eq_true rfl, Nat.le_of_ble_eq_true rfl⟩) hK hP hS hA (cmr_TeH_Te_0_1 D cI a σ hP) 1 rfl rfl rfl rfl hl.1 rfl (Nat.le_of_ble_eq_true rfl) dX1_tellStatement_159 ⟨Nat.le_refl _, Nat.le_refl _⟩ (fun v3 H locs hP hS hf => ?_)
    refine d_callV (As := [.int v2, .int v3]) (rest := []) (w := (fun z => wTeH cI a z)) (wc := (wHo cI (sb [2, 3, 4, 5, 6, 7] a))) (put := (fun uq => pb [2, 3, 4, 5, 6, 7] uq σ)) (σ := σ) (τ0 := (sb [2, 3, 4, 5, 6, 7] σ)) ⟨hx, hb, hml, hown, hts⟩ hf (fun vq zq hq => mX0_load l D cI cJ (sb [2, 3, 4, 5, 6, 7] a) H.size N (sb [2, 3, 4, 5, 6, 7] σ) v2 v3 (vq, zq) hq) (cwV 2 hts gX1_tellStatement_X0_load rfl rfl rfl qX0_load ⟨Nat.le_of_ble_eq_true rfl, Nat.le_of_ble_eq_true rfl⟩) hK hP hD hS hA (cmb_TeH_Ho_2_3_4_5_6_7 D cI a σ hP (hD _)) 0 rfl rfl rfl rfl hl.1 rfl (Nat.le_of_ble_eq_true rfl) dX1_tellStatement_162 ⟨Nat.le_refl _, Nat.le_refl _⟩ (fun v5 z4 H locs hP hS hf => ?_)
    exact W_zret (fun z => wTeH cI a z) hx hb hr hlk hP hS hAe hf dX1_tellStatement_165
  · have c6 := i32_ne c6 (n := 98) (by decide)
    refine sw_if hf (fun c10 hf => ?_) (fun c10 hf => ?_)
    · refine lv_tableIn (off := 173) (tgt := 178) hx hb dX1_tellStatement_5 (by rw [c10]; decide) (by rw [c10]; decide) (by rw [c10]; decide) (by decide) ?_
      refine lv_aload_n hx hb dX1_tellStatement_178 rfl (lv_at hl 1 rfl) ?_
      refine lv_aload_n hx hb dX1_tellStatement_179 rfl (lv_at hl 0 rfl) ?_
      refine lv_iload_n hx hb dX1_tellStatement_180 rfl (lv_at hl 2 rfl) ?_
      refine lv_iconst (v := (1 : Int32)) hx hb dX1_tellStatement_181 (by decide) ?_
      refine lv_iadd hx hb dX1_tellStatement_182 ?_
      refine c_callV (As := [.int (p2 + (1 : Int32))]) (rest := [.ref (a 2)]) ⟨hx, hb, hml, hown, hts⟩ hf (fun vq hq => mX1_number l D cI cJ (sb [0, 1] a) H.size N (sb [0, 1] σ) (p2 + (1 : Int32)) vq hq) (cwV 1 hts gX1_tellStatement_X1_number rfl rfl rfl qX1_number ⟨Nat.le_of_ble_eq_true rfl, Nat.le_of_ble_eq_true rfl⟩) hK hP hS hA (cmr_TeH_Te_0_1 D cI a σ hP) 1 rfl rfl rfl rfl hl.1 rfl (Nat.le_of_ble_eq_true rfl) dX1_tellStatement_183 ⟨Nat.le_refl _, Nat.le_refl _⟩ (fun v7 H locs hP hS hf => ?_)
      refine d_callV (As := [.int v7]) (rest := []) (w := (fun z => wTeH cI a z)) (wc := (wHo cI (sb [2, 3, 4, 5, 6, 7] a))) (put := (fun uq => pb [2, 3, 4, 5, 6, 7] uq σ)) (σ := σ) (τ0 := (sb [2, 3, 4, 5, 6, 7] σ)) ⟨hx, hb, hml, hown, hts⟩ hf (fun vq zq hq => mX0_switchDoor l D cI cJ (sb [2, 3, 4, 5, 6, 7] a) H.size N (sb [2, 3, 4, 5, 6, 7] σ) v7 (vq, zq) hq) (cwV 1 hts gX1_tellStatement_X0_switchDoor rfl rfl rfl qX0_switchDoor ⟨Nat.le_of_ble_eq_true rfl, Nat.le_of_ble_eq_true rfl⟩) hK hP hD hS hA (cmb_TeH_Ho_2_3_4_5_6_7 D cI a σ hP (hD _)) 0 rfl rfl rfl rfl hl.1 rfl (Nat.le_of_ble_eq_true rfl) dX1_tellStatement_186 ⟨Nat.le_refl _, Nat.le_refl _⟩ (fun v9 z8 H locs hP hS hf => ?_)
      exact W_zret (fun z => wTeH cI a z) hx hb hr hlk hP hS hAe hf dX1_tellStatement_189
    · have c10 := i32_ne c10 (n := 100) (by decide)
      refine sw_if hf (fun c14 hf => ?_) (fun c14 hf => ?_)
      · refine lv_tableIn (off := 161) (tgt := 166) hx hb dX1_tellStatement_5 (by rw [c14]; decide) (by rw [c14]; decide) (by rw [c14]; decide) (by decide) ?_
        refine lv_aload_n hx hb dX1_tellStatement_166 rfl (lv_at hl 1 rfl) ?_
        refine lv_aload_n hx hb dX1_tellStatement_167 rfl (lv_at hl 0 rfl) ?_
        refine lv_iload_n hx hb dX1_tellStatement_168 rfl (lv_at hl 2 rfl) ?_
        refine lv_iconst (v := (1 : Int32)) hx hb dX1_tellStatement_169 (by decide) ?_
        refine lv_iadd hx hb dX1_tellStatement_170 ?_
        refine c_callV (As := [.int (p2 + (1 : Int32))]) (rest := [.ref (a 2)]) ⟨hx, hb, hml, hown, hts⟩ hf (fun vq hq => mX1_number l D cI cJ (sb [0, 1] a) H.size N (sb [0, 1] σ) (p2 + (1 : Int32)) vq hq) (cwV 1 hts gX1_tellStatement_X1_number rfl rfl rfl qX1_number ⟨Nat.le_of_ble_eq_true rfl, Nat.le_of_ble_eq_true rfl⟩) hK hP hS hA (cmr_TeH_Te_0_1 D cI a σ hP) 1 rfl rfl rfl rfl hl.1 rfl (Nat.le_of_ble_eq_true rfl) dX1_tellStatement_171 ⟨Nat.le_refl _, Nat.le_refl _⟩ (fun v11 H locs hP hS hf => ?_)
        refine d_callV (As := [.int v11]) (rest := []) (w := (fun z => wTeH cI a z)) (wc := (wHo cI (sb [2, 3, 4, 5, 6, 7] a))) (put := (fun uq => pb [2, 3, 4, 5, 6, 7] uq σ)) (σ := σ) (τ0 := (sb [2, 3, 4, 5, 6, 7] σ)) ⟨hx, hb, hml, hown, hts⟩ hf (fun vq zq hq => mX0_lift l D cI cJ (sb [2, 3, 4, 5, 6, 7] a) H.size N (sb [2, 3, 4, 5, 6, 7] σ) v11 (vq, zq) hq) (cwV 1 hts gX1_tellStatement_X0_lift rfl rfl rfl qX0_lift ⟨Nat.le_of_ble_eq_true rfl, Nat.le_of_ble_eq_true rfl⟩) hK hP hD hS hA (cmb_TeH_Ho_2_3_4_5_6_7 D cI a σ hP (hD _)) 0 rfl rfl rfl rfl hl.1 rfl (Nat.le_of_ble_eq_true rfl) dX1_tellStatement_174 ⟨Nat.le_refl _, Nat.le_refl _⟩ (fun v13 z12 H locs hP hS hf => ?_)
        exact W_zret (fun z => wTeH cI a z) hx hb hr hlk hP hS hAe hf dX1_tellStatement_177
      · have c14 := i32_ne c14 (n := 102) (by decide)
        refine sw_if hf (fun c19 hf => ?_) (fun c19 hf => ?_)
        · refine lv_tableIn (off := 123) (tgt := 128) hx hb dX1_tellStatement_5 (by rw [c19]; decide) (by rw [c19]; decide) (by rw [c19]; decide) (by decide) ?_
          refine lv_aload_n hx hb dX1_tellStatement_128 rfl (lv_at hl 1 rfl) ?_
          refine lv_aload_n hx hb dX1_tellStatement_129 rfl (lv_at hl 0 rfl) ?_
          refine lv_iload_n hx hb dX1_tellStatement_130 rfl (lv_at hl 2 rfl) ?_
          refine lv_iconst (v := (1 : Int32)) hx hb dX1_tellStatement_131 (by decide) ?_
          refine lv_iadd hx hb dX1_tellStatement_132 ?_
          refine c_callV (As := [.int (p2 + (1 : Int32))]) (rest := [.ref (a 2)]) ⟨hx, hb, hml, hown, hts⟩ hf (fun vq hq => mX1_digit l D cI cJ (sb [0, 1] a) H.size N (sb [0, 1] σ) (p2 + (1 : Int32)) vq hq) (cwV 1 hts gX1_tellStatement_X1_digit rfl rfl rfl qX1_digit ⟨Nat.le_of_ble_eq_true rfl, Nat.le_of_ble_eq_true rfl⟩) hK hP hS hA (cmr_TeH_Te_0_1 D cI a σ hP) 1 rfl rfl rfl rfl hl.1 rfl (Nat.le_of_ble_eq_true rfl) dX1_tellStatement_133 ⟨Nat.le_refl _, Nat.le_refl _⟩ (fun v15 H locs hP hS hf => ?_)
          refine lv_aload_n hx hb dX1_tellStatement_136 rfl (lv_at hl 0 rfl) ?_
          refine lv_iload_n hx hb dX1_tellStatement_137 rfl (lv_at hl 2 rfl) ?_
          refine lv_iconst (v := (2 : Int32)) hx hb dX1_tellStatement_138 (by decide) ?_
          refine lv_iadd hx hb dX1_tellStatement_139 ?_
          refine c_callV (As := [.int (p2 + (2 : Int32))]) (rest := [.int v15, .ref (a 2)]) ⟨hx, hb, hml, hown, hts⟩ hf (fun vq hq => mX1_digit l D cI cJ (sb [0, 1] a) H.size N (sb [0, 1] σ) (p2 + (2 : Int32)) vq hq) (cwV 1 hts gX1_tellStatement_X1_digit rfl rfl rfl qX1_digit ⟨Nat.le_of_ble_eq_true rfl, Nat.le_of_ble_eq_true rfl⟩) hK hP hS hA (cmr_TeH_Te_0_1 D cI a σ hP) 1 rfl rfl rfl rfl hl.1 rfl (Nat.le_of_ble_eq_true rfl) dX1_tellStatement_140 ⟨Nat.le_refl _, Nat.le_refl _⟩ (fun v16 H locs hP hS hf => ?_)
          refine d_callV (As := [.int v15, .int v16]) (rest := []) (w := (fun z => wTeH cI a z)) (wc := (wHo cI (sb [2, 3, 4, 5, 6, 7] a))) (put := (fun uq => pb [2, 3, 4, 5, 6, 7] uq σ)) (σ := σ) (τ0 := (sb [2, 3, 4, 5, 6, 7] σ)) ⟨hx, hb, hml, hown, hts⟩ hf (fun vq zq hq => mX0_put l D cI cJ (sb [2, 3, 4, 5, 6, 7] a) H.size N (sb [2, 3, 4, 5, 6, 7] σ) v15 v16 (vq, zq) hq) (cwV 2 hts gX1_tellStatement_X0_put rfl rfl rfl qX0_put ⟨Nat.le_of_ble_eq_true rfl, Nat.le_of_ble_eq_true rfl⟩) hK hP hD hS hA (cmb_TeH_Ho_2_3_4_5_6_7 D cI a σ hP (hD _)) 0 rfl rfl rfl rfl hl.1 rfl (Nat.le_of_ble_eq_true rfl) dX1_tellStatement_143 ⟨Nat.le_refl _, Nat.le_refl _⟩ (fun v18 z17 H locs hP hS hf => ?_)
          exact W_zret (fun z => wTeH cI a z) hx hb hr hlk hP hS hAe hf dX1_tellStatement_146
        · have c19 := i32_ne c19 (n := 104) (by decide)
          refine sw_if hf (fun c23 hf => ?_) (fun c23 hf => ?_)
          · refine lv_tableIn (off := 185) (tgt := 190) hx hb dX1_tellStatement_5 (by rw [c23]; decide) (by rw [c23]; decide) (by rw [c23]; decide) (by decide) ?_
            refine lv_aload_n hx hb dX1_tellStatement_190 rfl (lv_at hl 1 rfl) ?_
            refine lv_aload_n hx hb dX1_tellStatement_191 rfl (lv_at hl 0 rfl) ?_
            refine lv_iload_n hx hb dX1_tellStatement_192 rfl (lv_at hl 2 rfl) ?_
            refine lv_iconst (v := (1 : Int32)) hx hb dX1_tellStatement_193 (by decide) ?_
            refine lv_iadd hx hb dX1_tellStatement_194 ?_
            refine c_callV (As := [.int (p2 + (1 : Int32))]) (rest := [.ref (a 2)]) ⟨hx, hb, hml, hown, hts⟩ hf (fun vq hq => mX1_number l D cI cJ (sb [0, 1] a) H.size N (sb [0, 1] σ) (p2 + (1 : Int32)) vq hq) (cwV 1 hts gX1_tellStatement_X1_number rfl rfl rfl qX1_number ⟨Nat.le_of_ble_eq_true rfl, Nat.le_of_ble_eq_true rfl⟩) hK hP hS hA (cmr_TeH_Te_0_1 D cI a σ hP) 1 rfl rfl rfl rfl hl.1 rfl (Nat.le_of_ble_eq_true rfl) dX1_tellStatement_195 ⟨Nat.le_refl _, Nat.le_refl _⟩ (fun v20 H locs hP hS hf => ?_)
            refine d_callV (As := [.int v20]) (rest := []) (w := (fun z => wTeH cI a z)) (wc := (wHo cI (sb [2, 3, 4, 5, 6, 7] a))) (put := (fun uq => pb [2, 3, 4, 5, 6, 7] uq σ)) (σ := σ) (τ0 := (sb [2, 3, 4, 5, 6, 7] σ)) ⟨hx, hb, hml, hown, hts⟩ hf (fun vq zq hq => mX0_pass l D cI cJ (sb [2, 3, 4, 5, 6, 7] a) H.size N (sb [2, 3, 4, 5, 6, 7] σ) v20 (vq, zq) hq) (cwV 1 hts gX1_tellStatement_X0_pass rfl rfl rfl qX0_pass ⟨Nat.le_of_ble_eq_true rfl, Nat.le_of_ble_eq_true rfl⟩) hK hP hD hS hA (cmb_TeH_Ho_2_3_4_5_6_7 D cI a σ hP (hD _)) 0 rfl rfl rfl rfl hl.1 rfl (Nat.le_of_ble_eq_true rfl) dX1_tellStatement_198 ⟨Nat.le_refl _, Nat.le_refl _⟩ (fun v22 z21 H locs hP hS hf => ?_)
            exact W_zret (fun z => wTeH cI a z) hx hb hr hlk hP hS hAe hf dX1_tellStatement_201
          · have c23 := i32_ne c23 (n := 110) (by decide)
            refine sw_if hf (fun c30 hf => ?_) (fun c30 hf => ?_)
            · refine lv_tableIn (off := 91) (tgt := 96) hx hb dX1_tellStatement_5 (by rw [c30]; decide) (by rw [c30]; decide) (by rw [c30]; decide) (by decide) ?_
              refine lv_aload_n hx hb dX1_tellStatement_96 rfl (lv_at hl 1 rfl) ?_
              refine va_ldcS hx hb hown hX.2.2.1 dX1_tellStatement_97 ?_
              refine lv_aload_n hx hb dX1_tellStatement_99 rfl (lv_at hl 0 rfl) ?_
              refine lv_iload_n hx hb dX1_tellStatement_100 rfl (lv_at hl 2 rfl) ?_
              refine lv_iconst (v := (1 : Int32)) hx hb dX1_tellStatement_101 (by decide) ?_
              refine lv_iadd hx hb dX1_tellStatement_102 ?_
              refine c_callV (As := [.int (p2 + (1 : Int32))]) (rest := [.ref (ad 1), .ref (a 2)]) ⟨hx, hb, hml, hown, hts⟩ hf (fun vq hq => mX1_letterAt l D cI cJ (sb [0, 1] a) H.size N (sb [0, 1] σ) (p2 + (1 : Int32)) vq hq) (cwV 1 hts gX1_tellStatement_X1_letterAt rfl rfl rfl qX1_letterAt ⟨Nat.le_of_ble_eq_true rfl, Nat.le_of_ble_eq_true rfl⟩) hK hP hS hA (cmr_TeH_Te_0_1 D cI a σ hP) 1 rfl rfl rfl rfl hl.1 rfl (Nat.le_of_ble_eq_true rfl) dX1_tellStatement_103 ⟨Nat.le_refl _, Nat.le_refl _⟩ (fun v24 H locs hP hS hf => ?_)
              refine lv_i2c hx hb dX1_tellStatement_106 rfl ?_
              refine e_callJ (As := [.int ((v24.toUInt32 % 65536).toInt32)]) (rest := [.ref (a 2)]) ⟨hx, hb, hml, hown, hts⟩ (i := 1) (by decide) (mJ0_indexOf l D (tyIJ cI cJ) ad av _ (by decide) ((v24.toUInt32 % 65536).toInt32)) (cwV 1 hts gX1_tellStatement_J0_indexOf_0f7a4 rfl rfl rfl qJ0_indexOf_0f7a4 ⟨Nat.le_of_ble_eq_true rfl, Nat.le_of_ble_eq_true rfl⟩) hX hK hP hS hA rfl hl.1 rfl (Nat.le_of_ble_eq_true rfl) dX1_tellStatement_107 ⟨Nat.le_refl _, Nat.le_refl _⟩ (fun H locs hP hS => ?_)
              refine k_let hf (fun v25 hf => ?_)
              refine lv_aload_n hx hb dX1_tellStatement_110 rfl (lv_at hl 0 rfl) ?_
              refine lv_iload_n hx hb dX1_tellStatement_111 rfl (lv_at hl 2 rfl) ?_
              refine lv_iconst (v := (2 : Int32)) hx hb dX1_tellStatement_112 (by decide) ?_
              refine lv_iadd hx hb dX1_tellStatement_113 ?_
              refine c_callV (As := [.int (p2 + (2 : Int32))]) (rest := [.int v25, .ref (a 2)]) ⟨hx, hb, hml, hown, hts⟩ hf (fun vq hq => mX1_digit l D cI cJ (sb [0, 1] a) H.size N (sb [0, 1] σ) (p2 + (2 : Int32)) vq hq) (cwV 1 hts gX1_tellStatement_X1_digit rfl rfl rfl qX1_digit ⟨Nat.le_of_ble_eq_true rfl, Nat.le_of_ble_eq_true rfl⟩) hK hP hS hA (cmr_TeH_Te_0_1 D cI a σ hP) 1 rfl rfl rfl rfl hl.1 rfl (Nat.le_of_ble_eq_true rfl) dX1_tellStatement_114 ⟨Nat.le_refl _, Nat.le_refl _⟩ (fun v26 H locs hP hS hf => ?_)
              refine lv_aload_n hx hb dX1_tellStatement_117 rfl (lv_at hl 0 rfl) ?_
              refine lv_iload_n hx hb dX1_tellStatement_118 rfl (lv_at hl 2 rfl) ?_
              refine lv_iconst (v := (3 : Int32)) hx hb dX1_tellStatement_119 (by decide) ?_
              refine lv_iadd hx hb dX1_tellStatement_120 ?_
              refine c_callV (As := [.int (p2 + (3 : Int32))]) (rest := [.int v26, .int v25, .ref (a 2)]) ⟨hx, hb, hml, hown, hts⟩ hf (fun vq hq => mX1_digit l D cI cJ (sb [0, 1] a) H.size N (sb [0, 1] σ) (p2 + (3 : Int32)) vq hq) (cwV 1 hts gX1_tellStatement_X1_digit rfl rfl rfl qX1_digit ⟨Nat.le_of_ble_eq_true rfl, Nat.le_of_ble_eq_true rfl⟩) hK hP hS hA (cmr_TeH_Te_0_1 D cI a σ hP) 1 rfl rfl rfl rfl hl.1 rfl (Nat.le_of_ble_eq_true rfl) dX1_tellStatement_121 ⟨Nat.le_refl _, Nat.le_refl _⟩ (fun v27 H locs hP hS hf => ?_)
              refine d_callV (As := [.int v25, .int v26, .int v27]) (rest := []) (w := (fun z => wTeH cI a z)) (wc := (wHo cI (sb [2, 3, 4, 5, 6, 7] a))) (put := (fun uq => pb [2, 3, 4, 5, 6, 7] uq σ)) (σ := σ) (τ0 := (sb [2, 3, 4, 5, 6, 7] σ)) ⟨hx, hb, hml, hown, hts⟩ hf (fun vq zq hq => mX0_add l D cI cJ (sb [2, 3, 4, 5, 6, 7] a) H.size N (sb [2, 3, 4, 5, 6, 7] σ) v25 v26 v27 (vq, zq) hq) (cwV 3 hts gX1_tellStatement_X0_add rfl rfl rfl qX0_add ⟨Nat.le_of_ble_eq_true rfl, Nat.le_of_ble_eq_true rfl⟩) hK hP hD hS hA (cmb_TeH_Ho_2_3_4_5_6_7 D cI a σ hP (hD _)) 0 rfl rfl rfl rfl hl.1 rfl (Nat.le_of_ble_eq_true rfl) dX1_tellStatement_124 ⟨Nat.le_refl _, Nat.le_refl _⟩ (fun v29 z28 H locs hP hS hf => ?_)
              exact W_zret (fun z => wTeH cI a z) hx hb hr hlk hP hS hAe hf dX1_tellStatement_127
            · have c30 := i32_ne c30 (n := 116) (by decide)
              refine sw_tab (off := 197) (tgt := 202) hx hb dX1_tellStatement_5 (by decide) (P := fun j => j ≠ 98 ∧ j ≠ 100 ∧ j ≠ 102 ∧ j ≠ 104 ∧ j ≠ 110 ∧ j ≠ 116) (by decide) (by omega) (by decide) ?_
              refine lv_iconst (v := (0 : Int32)) hx hb dX1_tellStatement_202 (by decide) ?_
              exact W_zret (fun z => wTeH cI a z) hx hb hr hlk hP hS hAe hf dX1_tellStatement_203
def fX1_tell_L69 (N : Nat) (k23 : St → Int32 → Int32 → Int32 → Option (Int32 × St)) (z : St) (x3 : Int32) (x4 : Int32) (x5 : Int32) : Option (Int32 × St) :=
    lt_ (x5 + (1 : Int32) : Int32) (fun v3 =>
    k23 z x3 x4 v3)
def fX1_tell_L23 (N : Nat)  : Nat → St → Int32 → Int32 → Int32 → Option (Int32 × St)
  | 0, _, _, _, _ => none
  | n + 1, z, x3, x4, x5 =>
    if (z 0 0) ≤ x5 then some (x3, z)
    else bo (fX1_letterAt N (sb [0, 1] z) x5) (fun v2 =>
    if v2 = (59 : Int32) then bx (fX1_tellStatement N z x4) (fun uq => uq) (fun v5 z4 =>
    if v5 = 0 then some (((-2000 : Int32) - x4), z4)
    else lt_ (x3 + (1 : Int32) : Int32) (fun v6 =>
    lt_ ((x5 + (1 : Int32)) : Int32) (fun v7 =>
    fX1_tell_L69 N (fX1_tell_L23 N n) z4 v6 v7 x5)))
    else fX1_tell_L69 N (fX1_tell_L23 N n) z x3 x4 x5)
def fX1_tell (N : Nat) (σ : St)  : Option (Int32 × St) :=
    bo (fX1_brokenAt N (sb [0, 1] σ)) (fun v1 =>
    if v1 < 0 then fX1_tell_L23 N  N σ (0 : Int32) (0 : Int32) (0 : Int32)
    else some (((-1000 : Int32) - v1), σ))
abbrev rmX1_tell : Room := { frames := 6, cells := 0, slots := 0, locals := 137 }
theorem qX1_tell : yX1_tell.cls = RX1 ∧ yX1_tell.cls ≠ "java/lang/invoke/MethodHandle" ∧ yX1_tell.cls ≠ "java/lang/invoke/VarHandle" ∧ (parseMethodDescriptor yX1_tell.desc).map (fun d => d.parameters.length) = some 1 := by decide +kernel
set_option maxHeartbeats 400000 in
set_option maxRecDepth 100000 in
theorem mX1_tell (l : Launch) (D : va_G) (cI cJ : ClassId) (ad av : Nat → Nat) (a : Nat → Nat) (sz N : Nat) (σ : St)  (r : (Int32 × St)) (hf : fX1_tell N σ = some r) : Met l yX1_tell wsX1_tell rmX1_tell (WPreS ad av ([.ref (a 0), .ref (a 2)] : List Value) sz D (tyIJ cI cJ) (wTeH cI a σ)) (WQi sz D (wTeH cI a σ) (wTeH cI a (r.2)) r.1) 0 0 (va_A (wTeH cI a σ) sz) := by
  refine WS_start (cc := cX1_tell) (maxL := 6) (ret := (some .int)) (by decide) rfl (Nat.le_of_ble_eq_true rfl) (fun p e s m below meth c ls A hx hb hr hml hown hts hlk hP hK hS hA hD0 hAe hl hX => ?_)
  have hD : ∀ z, va_D A ((fun z => wTeH cI a z) z) := fun z => hD0.ad rfl
  have hown : s.vm.findClass RX1 = some m.cls := hown
  have hl : lv_has ls 6 [(0, .ref (a 0)), (1, .ref (a 2))] := hl
  have ln1 := hts (Cond.fieldLink RX1 7 "HoistsAreShared$Telling" "told" "I") (List.mem_of_getElem? (i := 1) rfl)
  have inX1 : ∀ w ∈ u_ws RX1 TX1 2, w ∈ wsX1_tell := fun _ h => List.mem_cons_of_mem _ (List.mem_append_left _ (List.mem_append_right _ h))
  have b69 : ∀ (k23 : St → Int32 → Int32 → Int32 → Option (Int32 × St)) (hk23 : (∀ (z : St) (x3 : Int32) (x4 : Int32) (x5 : Int32) (H : Heap) (locs : List Loc) (ls : Array Slot), va_P D vwCl (wTeH cI a z) H → va_S A s.heap H locs → lv_has ls 6 [(0, .ref (a 0)), (1, .ref (a 2)), (3, .int x3), (4, .int x4), (5, .int x5)] → k23 z x3 x4 x5 = some r → W p l e rmX1_tell s m ([.ref (a 0), .ref (a 2)] : List Value).toArray below meth c H locs 0 0 (MQ below (WQi sz D (wTeH cI a σ) (wTeH cI a (r.2)) r.1) ([.ref (a 0), .ref (a 2)] : List Value).toArray s 0 0 A) (F0 m 23 ls []))) (z : St) (x3 : Int32) (x4 : Int32) (x5 : Int32) (H : Heap) (locs : List Loc) (ls : Array Slot), va_P D vwCl (wTeH cI a z) H → va_S A s.heap H locs → lv_has ls 6 [(0, .ref (a 0)), (1, .ref (a 2)), (3, .int x3), (4, .int x4), (5, .int x5)] → fX1_tell_L69 N k23 z x3 x4 x5 = some r → W p l e rmX1_tell s m ([.ref (a 0), .ref (a 2)] : List Value).toArray below meth c H locs 0 0 (MQ below (WQi sz D (wTeH cI a σ) (wTeH cI a (r.2)) r.1) ([.ref (a 0), .ref (a 2)] : List Value).toArray s 0 0 A) (F0 m 69 ls []) := by
    intro k23 hk23 z x3 x4 x5 H locs ls hP hS hl hf
    unfold fX1_tell_L69 at hf
    refine k_iinc (d := (1 : Int32)) (lv' := fun v3 => [(5, .int v3), (0, .ref (a 0)), (1, .ref (a 2)), (3, .int x3), (4, .int x4)]) hx hb dX1_tell_69 hl (k := 4) rfl (by decide) (by decide) (fun _ => rfl) hf (fun v3 ls hl hf => ?_)
    refine lv_goto (tgt := 23) hx hb dX1_tell_72 (by decide) ?_
    exact hk23 z x3 x4 v3 H locs ls hP hS (lv_sub hl [1, 2, 3, 4, 0] rfl) hf
  have b23 : ∀  (n : Nat) (z : St) (x3 : Int32) (x4 : Int32) (x5 : Int32) (H : Heap) (locs : List Loc) (ls : Array Slot), va_P D vwCl (wTeH cI a z) H → va_S A s.heap H locs → lv_has ls 6 [(0, .ref (a 0)), (1, .ref (a 2)), (3, .int x3), (4, .int x4), (5, .int x5)] → fX1_tell_L23 N n z x3 x4 x5 = some r → W p l e rmX1_tell s m ([.ref (a 0), .ref (a 2)] : List Value).toArray below meth c H locs 0 0 (MQ below (WQi sz D (wTeH cI a σ) (wTeH cI a (r.2)) r.1) ([.ref (a 0), .ref (a 2)] : List Value).toArray s 0 0 A) (F0 m 23 ls []) := by
    intro n
    induction n with
    | zero => intro z x3 x4 x5 H locs ls hP hS hl hf; cases hf
    | succ n ih =>
      intro z x3 x4 x5 H locs ls hP hS hl hf
      rw [fX1_tell_L23] at hf
      refine lv_iload hx hb dX1_tell_23 (lv_at hl 4 rfl) ?_
      refine lv_aload_n hx hb dX1_tell_25 rfl (lv_at hl 0 rfl) ?_
      refine va_get (D := D) (ci := 1) (v := .int (z 0 0)) (C := RX1) (T := TX1) (N := 2) hx hb hts inX1 hown hK hP 0 rfl rfl 0 (by decide) ln1 (fun _ h9 => h9) rfl dX1_tell_26 ?_
      refine k_icmp_ge (tgt := 75) hx hb dX1_tell_29 (by decide) hf (fun hf => ?_) (fun hf => ?_)
      · refine lv_iload_n hx hb dX1_tell_75 rfl (lv_at hl 2 rfl) ?_
        exact W_iret (fun z => wTeH cI a z) hx hb hr hlk hP hS hAe hf dX1_tell_76
      · refine lv_aload_n hx hb dX1_tell_32 rfl (lv_at hl 0 rfl) ?_
        refine lv_iload hx hb dX1_tell_33 (lv_at hl 4 rfl) ?_
        refine c_callV (As := [.int x5]) (rest := []) ⟨hx, hb, hml, hown, hts⟩ hf (fun vq hq => mX1_letterAt l D cI cJ (sb [0, 1] a) H.size N (sb [0, 1] z) x5 vq hq) (cwV 1 hts gX1_tell_X1_letterAt rfl rfl rfl qX1_letterAt ⟨Nat.le_of_ble_eq_true rfl, Nat.le_of_ble_eq_true rfl⟩) hK hP hS hA (cmr_TeH_Te_0_1 D cI a z hP) 1 rfl rfl rfl rfl hl.1 rfl (Nat.le_of_ble_eq_true rfl) dX1_tell_35 ⟨Nat.le_refl _, Nat.le_refl _⟩ (fun v2 H locs hP hS hf => ?_)
        refine lv_bipush (v := (59 : Int32)) hx hb dX1_tell_38 (by decide) ?_
        refine k_icmp_ne (tgt := 69) hx hb dX1_tell_40 (by decide) hf (fun hf => ?_) (fun hf => ?_)
        · exact b69 (fX1_tell_L23 N n) ih z x3 x4 x5 H locs ls hP hS (lv_sub hl [0, 1, 2, 3, 4] rfl) hf
        · refine lv_aload_n hx hb dX1_tell_43 rfl (lv_at hl 0 rfl) ?_
          refine lv_aload_n hx hb dX1_tell_44 rfl (lv_at hl 1 rfl) ?_
          refine lv_iload hx hb dX1_tell_45 (lv_at hl 3 rfl) ?_
          refine g_callV (As := [.ref (a 2), .int x4]) (rest := []) (w := (fun z => wTeH cI a z)) (wc := (wTeH cI a)) (put := (fun uq => uq)) (σ := z) (τ0 := z) ⟨hx, hb, hml, hown, hts⟩ hf (fun vq zq hq => mX1_tellStatement l D cI cJ ad av a H.size N z x4 (vq, zq) hq) (cwV 2 hts gX1_tell_X1_tellStatement rfl rfl rfl qX1_tellStatement ⟨Nat.le_of_ble_eq_true rfl, Nat.le_of_ble_eq_true rfl⟩) hX hK hP hD hS hA ⟨hP, hD _, fun _ _ _ h => h⟩ 1 rfl rfl rfl rfl hl.1 rfl (Nat.le_of_ble_eq_true rfl) dX1_tell_47 ⟨Nat.le_refl _, Nat.le_refl _⟩ (fun v5 z4 H locs hP hS hf => ?_)
          refine k_if_ne (tgt := 60) hx hb dX1_tell_50 (by decide) hf (fun hf => ?_) (fun hf => ?_)
          · refine k_iinc (d := (1 : Int32)) (lv' := fun v6 => [(3, .int v6), (0, .ref (a 0)), (1, .ref (a 2)), (4, .int x4), (5, .int x5)]) hx hb dX1_tell_60 hl (k := 2) rfl (by decide) (by decide) (fun _ => rfl) hf (fun v6 ls hl hf => ?_)
            refine lv_iload hx hb dX1_tell_63 (lv_at hl 4 rfl) ?_
            refine lv_iconst (v := (1 : Int32)) hx hb dX1_tell_65 (by decide) ?_
            refine lv_iadd hx hb dX1_tell_66 ?_
            refine k_let hf (fun v7 hf => ?_)
            refine lv_istore (lv' := [(4, .int v7), (3, .int v6), (0, .ref (a 0)), (1, .ref (a 2)), (5, .int x5)]) hx hb dX1_tell_67 hl (by decide) rfl (fun ls hl => ?_)
            exact b69 (fX1_tell_L23 N n) ih z4 v6 v7 x5 H locs ls hP hS (lv_sub hl [2, 3, 1, 0, 4] rfl) hf
          · refine lv_sipush (v := (-2000 : Int32)) hx hb dX1_tell_53 (by decide) ?_
            refine lv_iload hx hb dX1_tell_56 (lv_at hl 3 rfl) ?_
            refine lv_isub hx hb dX1_tell_58 ?_
            exact W_iret (fun z => wTeH cI a z) hx hb hr hlk hP hS hAe hf dX1_tell_59
  unfold fX1_tell at hf
  refine lv_aload_n hx hb dX1_tell_0 rfl (lv_at hl 0 rfl) ?_
  refine e_callV (As := []) (rest := []) ⟨hx, hb, hml, hown, hts⟩ hf (fun vq hq => mX1_brokenAt l D cI cJ ad av (sb [0, 1] a) s.heap.size N (sb [0, 1] σ) vq hq) (cwV 0 hts gX1_tell_X1_brokenAt rfl rfl rfl qX1_brokenAt ⟨Nat.le_of_ble_eq_true rfl, Nat.le_of_ble_eq_true rfl⟩) hX hK hP hS hA (cmr_TeH_Te_0_1 D cI a σ hP) 1 rfl rfl rfl rfl hl.1 rfl (Nat.le_of_ble_eq_true rfl) dX1_tell_1 ⟨Nat.le_refl _, Nat.le_refl _⟩ (fun v1 H locs hP hS hf => ?_)
  refine lv_istore_n (lv' := [(2, .int v1), (0, .ref (a 0)), (1, .ref (a 2))]) hx hb dX1_tell_4 rfl hl (by decide) rfl (fun ls hl => ?_)
  refine lv_iload_n hx hb dX1_tell_5 rfl (lv_at hl 0 rfl) ?_
  refine k_if_lt (tgt := 15) hx hb dX1_tell_6 (by decide) hf (fun hf => ?_) (fun hf => ?_)
  · refine lv_iconst (v := (0 : Int32)) hx hb dX1_tell_15 (by decide) ?_
    refine lv_istore_n (lv' := [(3, .int (0 : Int32)), (2, .int v1), (0, .ref (a 0)), (1, .ref (a 2))]) hx hb dX1_tell_16 rfl hl (by decide) rfl (fun ls hl => ?_)
    refine lv_iconst (v := (0 : Int32)) hx hb dX1_tell_17 (by decide) ?_
    refine lv_istore (lv' := [(4, .int (0 : Int32)), (3, .int (0 : Int32)), (2, .int v1), (0, .ref (a 0)), (1, .ref (a 2))]) hx hb dX1_tell_18 hl (by decide) rfl (fun ls hl => ?_)
    refine lv_iconst (v := (0 : Int32)) hx hb dX1_tell_20 (by decide) ?_
    refine lv_istore (lv' := [(5, .int (0 : Int32)), (4, .int (0 : Int32)), (3, .int (0 : Int32)), (2, .int v1), (0, .ref (a 0)), (1, .ref (a 2))]) hx hb dX1_tell_21 hl (by decide) rfl (fun ls hl => ?_)
    exact b23  N σ (0 : Int32) (0 : Int32) (0 : Int32) H locs ls hP hS (lv_sub hl [4, 5, 2, 1, 0] rfl) hf
  · refine lv_sipush (v := (-1000 : Int32)) hx hb dX1_tell_9 (by decide) ?_
    refine lv_iload_n hx hb dX1_tell_12 rfl (lv_at hl 0 rfl) ?_
    refine lv_isub hx hb dX1_tell_13 ?_
    exact W_iret (fun z => wTeH cI a z) hx hb hr hlk hP hS hAe hf dX1_tell_14
def fX2_hoist (N : Nat) (σ : St)  : Option (Int32 × St) :=
    by_ (fX0_copy N (sb [7, 8, 9, 10, 11, 12, 1, 2, 3, 4, 5, 6] σ)) (fun uq => pb [7, 8, 9, 10, 11, 12, 1, 2, 3, 4, 5, 6] uq σ) (fun z1 =>
    bx (fX1_tell N (sb [19, 20, 7, 8, 9, 10, 11, 12] z1)) (fun uq => pb [19, 20, 7, 8, 9, 10, 11, 12] uq z1) (fun v3 z2 =>
    by_ (fX1_forget N (sb [19, 20] z2)) (fun uq => pb [19, 20] uq z2) (fun z4 =>
    if v3 ≤ 0 then some (v3, z4)
    else by_ (fX0_copy N (sb [1, 2, 3, 4, 5, 6, 7, 8, 9, 10, 11, 12] z4)) (fun uq => pb [1, 2, 3, 4, 5, 6, 7, 8, 9, 10, 11, 12] uq z4) (fun z5 =>
    some (v3, z5)))))
abbrev rmX2_hoist : Room := { frames := 7, cells := 0, slots := 0, locals := 162 }
theorem qX2_hoist : yX2_hoist.cls = RX2 ∧ yX2_hoist.cls ≠ "java/lang/invoke/MethodHandle" ∧ yX2_hoist.cls ≠ "java/lang/invoke/VarHandle" ∧ (parseMethodDescriptor yX2_hoist.desc).map (fun d => d.parameters.length) = some 0 := by decide +kernel
set_option maxHeartbeats 400000 in
set_option maxRecDepth 100000 in
theorem mX2_hoist (l : Launch) (D : va_G) (cI cJ : ClassId) (ad av : Nat → Nat) (a : Nat → Nat) (sz N : Nat) (τ : LSt) (σ : St)  (r : (Int32 × St)) (hf : fX2_hoist N σ = some r) : Met l yX2_hoist wsX2_hoist rmX2_hoist (WPreS ad av ([.ref (a 0)] : List Value) sz D (tyIJ cI cJ) (wHA cI cJ a τ σ)) (WQi sz D (wHA cI cJ a τ σ) (wHA cI cJ a τ (r.2)) r.1) 0 0 (va_A (wHA cI cJ a τ σ) sz) := by
  refine WS_start (cc := cX2_hoist) (maxL := 2) (ret := (some .int)) (by decide) rfl (Nat.le_of_ble_eq_true rfl) (fun p e s m below meth c ls A hx hb hr hml hown hts hlk hP hK hS hA hD0 hAe hl hX => ?_)
  have hD : ∀ z, va_D A ((wHA cI cJ a τ) z) := fun z => hD0.ad rfl
  have hown : s.vm.findClass RX2 = some m.cls := hown
  have hl : lv_has ls 2 [(0, .ref (a 0))] := hl
  have ln1 := hts (Cond.fieldLink RX2 16 "HoistsAreShared" "mind" "LHoistsAreShared$Hoist;") (List.mem_of_getElem? (i := 1) rfl)
  have inX2 : ∀ w ∈ u_ws RX2 TX2 14, w ∈ wsX2_hoist := fun _ h => List.mem_cons_of_mem _ (List.mem_append_left _ (List.mem_append_left _ (List.mem_append_right _ h)))
  have ln3 := hts (Cond.fieldLink RX2 10 "HoistsAreShared" "now" "LHoistsAreShared$Hoist;") (List.mem_of_getElem? (i := 2) rfl)
  have ln4 := hts (Cond.fieldLink RX2 25 "HoistsAreShared" "telling" "LHoistsAreShared$Telling;") (List.mem_of_getElem? (i := 3) rfl)
  unfold fX2_hoist at hf
  refine lv_aload_n hx hb dX2_hoist_0 rfl (lv_at hl 0 rfl) ?_
  refine va_get (D := D) (ci := 2) (v := .ref (a 7)) (C := RX2) (T := TX2) (N := 14) hx hb hts inX2 hown hK hP 0 rfl rfl 1 (by decide) ln1 (fun _ h9 => h9) rfl dX2_hoist_1 ?_
  refine lv_aload_n hx hb dX2_hoist_4 rfl (lv_at hl 0 rfl) ?_
  refine va_get (D := D) (ci := 2) (v := .ref (a 1)) (C := RX2) (T := TX2) (N := 14) hx hb hts inX2 hown hK hP 0 rfl rfl 0 (by decide) ln3 (fun _ h9 => h9) rfl dX2_hoist_5 ?_
  refine d_callVv (As := [.ref ((sb [7, 8, 9, 10, 11, 12, 1, 2, 3, 4, 5, 6] a) 6)]) (rest := []) (w := (wHA cI cJ a τ)) (wc := (wHo2 cI (sb [7, 8, 9, 10, 11, 12, 1, 2, 3, 4, 5, 6] a))) (put := (fun uq => pb [7, 8, 9, 10, 11, 12, 1, 2, 3, 4, 5, 6] uq σ)) (σ := σ) (τ0 := (sb [7, 8, 9, 10, 11, 12, 1, 2, 3, 4, 5, 6] σ)) ⟨hx, hb, hml, hown, hts⟩ hf (fun zq hq => mX0_copy l D cI cJ (sb [7, 8, 9, 10, 11, 12, 1, 2, 3, 4, 5, 6] a) s.heap.size N (sb [7, 8, 9, 10, 11, 12, 1, 2, 3, 4, 5, 6] σ) zq hq) (cwV 1 hts gX2_hoist_X0_copy rfl rfl rfl qX0_copy ⟨Nat.le_of_ble_eq_true rfl, Nat.le_of_ble_eq_true rfl⟩) hK hP hD hS hA (cmb_HA_Ho2_7_8_9_10_11_12_1_2_3_4_5_6 D cI cJ a τ σ hP (hD _)) 0 rfl rfl rfl rfl hl.1 rfl (Nat.le_of_ble_eq_true rfl) dX2_hoist_8 ⟨Nat.le_refl _, Nat.le_refl _⟩ (fun z1 H locs hP hS hf => ?_)
  refine lv_aload_n hx hb dX2_hoist_11 rfl (lv_at hl 0 rfl) ?_
  refine va_get (D := D) (ci := 2) (v := .ref (a 19)) (C := RX2) (T := TX2) (N := 14) hx hb hts inX2 hown hK hP 0 rfl rfl 3 (by decide) ln4 (fun _ h9 => h9) rfl dX2_hoist_12 ?_
  refine lv_aload_n hx hb dX2_hoist_15 rfl (lv_at hl 0 rfl) ?_
  refine va_get (D := D) (ci := 2) (v := .ref (a 7)) (C := RX2) (T := TX2) (N := 14) hx hb hts inX2 hown hK hP 0 rfl rfl 1 (by decide) ln1 (fun _ h9 => h9) rfl dX2_hoist_16 ?_
  refine g_callV (As := [.ref ((sb [19, 20, 7, 8, 9, 10, 11, 12] a) 2)]) (rest := []) (w := (wHA cI cJ a τ)) (wc := (wTeH cI (sb [19, 20, 7, 8, 9, 10, 11, 12] a))) (put := (fun uq => pb [19, 20, 7, 8, 9, 10, 11, 12] uq z1)) (σ := z1) (τ0 := (sb [19, 20, 7, 8, 9, 10, 11, 12] z1)) ⟨hx, hb, hml, hown, hts⟩ hf (fun vq zq hq => mX1_tell l D cI cJ ad av (sb [19, 20, 7, 8, 9, 10, 11, 12] a) H.size N (sb [19, 20, 7, 8, 9, 10, 11, 12] z1) (vq, zq) hq) (cwV 1 hts gX2_hoist_X1_tell rfl rfl rfl qX1_tell ⟨Nat.le_of_ble_eq_true rfl, Nat.le_of_ble_eq_true rfl⟩) hX hK hP hD hS hA (cmb_HA_TeH_19_20_7_8_9_10_11_12 D cI cJ a τ z1 hP (hD _)) 1 rfl rfl rfl rfl hl.1 rfl (Nat.le_of_ble_eq_true rfl) dX2_hoist_19 ⟨Nat.le_refl _, Nat.le_refl _⟩ (fun v3 z2 H locs hP hS hf => ?_)
  refine lv_istore_n (lv' := [(1, .int v3), (0, .ref (a 0))]) hx hb dX2_hoist_22 rfl hl (by decide) rfl (fun ls hl => ?_)
  refine lv_aload_n hx hb dX2_hoist_23 rfl (lv_at hl 1 rfl) ?_
  refine va_get (D := D) (ci := 2) (v := .ref (a 19)) (C := RX2) (T := TX2) (N := 14) hx hb hts inX2 hown hK hP 0 rfl rfl 3 (by decide) ln4 (fun _ h9 => h9) rfl dX2_hoist_24 ?_
  refine d_callVv (As := []) (rest := []) (w := (wHA cI cJ a τ)) (wc := (wTe cI (sb [19, 20] a))) (put := (fun uq => pb [19, 20] uq z2)) (σ := z2) (τ0 := (sb [19, 20] z2)) ⟨hx, hb, hml, hown, hts⟩ hf (fun zq hq => mX1_forget l D cI cJ (sb [19, 20] a) H.size N (sb [19, 20] z2) zq hq) (cwV 0 hts gX2_hoist_X1_forget rfl rfl rfl qX1_forget ⟨Nat.le_of_ble_eq_true rfl, Nat.le_of_ble_eq_true rfl⟩) hK hP hD hS hA (cmb_HA_Te_19_20 D cI cJ a τ z2 hP (hD _)) 1 rfl rfl rfl rfl hl.1 rfl (Nat.le_of_ble_eq_true rfl) dX2_hoist_27 ⟨Nat.le_refl _, Nat.le_refl _⟩ (fun z4 H locs hP hS hf => ?_)
  refine lv_iload_n hx hb dX2_hoist_30 rfl (lv_at hl 0 rfl) ?_
  refine k_if_le (tgt := 45) hx hb dX2_hoist_31 (by decide) hf (fun hf => ?_) (fun hf => ?_)
  · refine lv_iload_n hx hb dX2_hoist_45 rfl (lv_at hl 0 rfl) ?_
    exact W_iret (wHA cI cJ a τ) hx hb hr hlk hP hS hAe hf dX2_hoist_46
  · refine lv_aload_n hx hb dX2_hoist_34 rfl (lv_at hl 1 rfl) ?_
    refine va_get (D := D) (ci := 2) (v := .ref (a 1)) (C := RX2) (T := TX2) (N := 14) hx hb hts inX2 hown hK hP 0 rfl rfl 0 (by decide) ln3 (fun _ h9 => h9) rfl dX2_hoist_35 ?_
    refine lv_aload_n hx hb dX2_hoist_38 rfl (lv_at hl 1 rfl) ?_
    refine va_get (D := D) (ci := 2) (v := .ref (a 7)) (C := RX2) (T := TX2) (N := 14) hx hb hts inX2 hown hK hP 0 rfl rfl 1 (by decide) ln1 (fun _ h9 => h9) rfl dX2_hoist_39 ?_
    refine d_callVv (As := [.ref ((sb [1, 2, 3, 4, 5, 6, 7, 8, 9, 10, 11, 12] a) 6)]) (rest := []) (w := (wHA cI cJ a τ)) (wc := (wHo2 cI (sb [1, 2, 3, 4, 5, 6, 7, 8, 9, 10, 11, 12] a))) (put := (fun uq => pb [1, 2, 3, 4, 5, 6, 7, 8, 9, 10, 11, 12] uq z4)) (σ := z4) (τ0 := (sb [1, 2, 3, 4, 5, 6, 7, 8, 9, 10, 11, 12] z4)) ⟨hx, hb, hml, hown, hts⟩ hf (fun zq hq => mX0_copy l D cI cJ (sb [1, 2, 3, 4, 5, 6, 7, 8, 9, 10, 11, 12] a) H.size N (sb [1, 2, 3, 4, 5, 6, 7, 8, 9, 10, 11, 12] z4) zq hq) (cwV 1 hts gX2_hoist_X0_copy rfl rfl rfl qX0_copy ⟨Nat.le_of_ble_eq_true rfl, Nat.le_of_ble_eq_true rfl⟩) hK hP hD hS hA (cmb_HA_Ho2_1_2_3_4_5_6_7_8_9_10_11_12 D cI cJ a τ z4 hP (hD _)) 0 rfl rfl rfl rfl hl.1 rfl (Nat.le_of_ble_eq_true rfl) dX2_hoist_42 ⟨Nat.le_refl _, Nat.le_refl _⟩ (fun z5 H locs hP hS hf => ?_)
    refine lv_iload_n hx hb dX2_hoist_45 rfl (lv_at hl 0 rfl) ?_
    exact W_iret (wHA cI cJ a τ) hx hb hr hlk hP hS hAe hf dX2_hoist_46
