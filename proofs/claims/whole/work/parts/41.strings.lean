/-! String.indexOf over the two texts -/
def ixG (B : List Int32) (b : Int32) : Nat → Nat → Int32
  | 0, _ => -1
  | k + 1, j => if B.getD j 0 = b then nI j else ixG B b k (j + 1)
def ixS (i : Nat) (c : Int32) : Int32 := if c < 0 then -1 else if 255 < c then -1 else ixG (txB.getD i []) c.toInt8.toInt32 6 0
theorem tx_6 {i : Nat} (hi : i < 2) : txL.getD i 0 = 6 := by rcases (show i = 0 ∨ i = 1 by omega) with rfl | rfl <;> rfl
abbrev rmS0 : Room := { frames := 0, cells := 0, slots := 0, locals := 0 }
theorem qJ0_isLatin1 : yJ0_isLatin1_aae02.cls = RJ0 ∧ yJ0_isLatin1_aae02.cls ≠ "java/lang/invoke/MethodHandle" ∧ yJ0_isLatin1_aae02.cls ≠ "java/lang/invoke/VarHandle" ∧ (parseMethodDescriptor yJ0_isLatin1_aae02.desc).map (fun d => d.parameters.length) = some 0 := by decide +kernel
theorem qJ0_coder : yJ0_coder_7d493.cls = RJ0 ∧ yJ0_coder_7d493.cls ≠ "java/lang/invoke/MethodHandle" ∧ yJ0_coder_7d493.cls ≠ "java/lang/invoke/VarHandle" ∧ (parseMethodDescriptor yJ0_coder_7d493.desc).map (fun d => d.parameters.length) = some 0 := by decide +kernel
theorem qJ0_length : yJ0_length_8abf5.cls = RJ0 ∧ yJ0_length_8abf5.cls ≠ "java/lang/invoke/MethodHandle" ∧ yJ0_length_8abf5.cls ≠ "java/lang/invoke/VarHandle" ∧ (parseMethodDescriptor yJ0_length_8abf5.desc).map (fun d => d.parameters.length) = some 0 := by decide +kernel
theorem qJ1_canEncode : yJ1_canEncode_9a6ad.cls ≠ "java/lang/invoke/MethodHandle" ∧ yJ1_canEncode_9a6ad.cls ≠ "java/lang/invoke/VarHandle" ∧ (parseMethodDescriptor yJ1_canEncode_9a6ad.desc).map (fun d => d.parameters.length) = some 1 := by decide +kernel
theorem qJ1_indexOfChar : yJ1_indexOfChar_4cfef.cls ≠ "java/lang/invoke/MethodHandle" ∧ yJ1_indexOfChar_4cfef.cls ≠ "java/lang/invoke/VarHandle" ∧ (parseMethodDescriptor yJ1_indexOfChar_4cfef.desc).map (fun d => d.parameters.length) = some 4 := by decide +kernel
theorem qJ1_indexOf : yJ1_indexOf_4cfef.cls ≠ "java/lang/invoke/MethodHandle" ∧ yJ1_indexOf_4cfef.cls ≠ "java/lang/invoke/VarHandle" ∧ (parseMethodDescriptor yJ1_indexOf_4cfef.desc).map (fun d => d.parameters.length) = some 4 := by decide +kernel
theorem qJ0_indexOfII : yJ0_indexOf_7cf53.cls = RJ0 ∧ yJ0_indexOf_7cf53.cls ≠ "java/lang/invoke/MethodHandle" ∧ yJ0_indexOf_7cf53.cls ≠ "java/lang/invoke/VarHandle" ∧ (parseMethodDescriptor yJ0_indexOf_7cf53.desc).map (fun d => d.parameters.length) = some 2 := by decide +kernel
theorem qJ0_indexOf_0f7a4 : yJ0_indexOf_0f7a4.cls = RJ0 ∧ yJ0_indexOf_0f7a4.cls ≠ "java/lang/invoke/MethodHandle" ∧ yJ0_indexOf_0f7a4.cls ≠ "java/lang/invoke/VarHandle" ∧ (parseMethodDescriptor yJ0_indexOf_0f7a4.desc).map (fun d => d.parameters.length) = some 1 := by decide +kernel
set_option maxRecDepth 100000 in
theorem mJ0_isLatin1 (l : Launch) (D : va_G) (tys : List (ClassId × FieldType)) (ad av : Nat → Nat) (sz : Nat) {i : Nat} (hi : i < 2) : Met l yJ0_isLatin1_aae02 wsJ0_isLatin1_aae02 rmS0 (RPreS ad av [.ref (ad i)] sz D tys []) (RQi sz 1) 0 0 (fr0 sz) := by
  refine RS_start (cc := cJ0_isLatin1_aae02) (maxL := 1) (ret := (some .boolean)) (by decide) rfl (Nat.le_of_ble_eq_true rfl) (fun p e s m below meth c ls hx hb hr hml hown hts hlk hP hK hS hA hsz hl hX => ?_)
  have hown : s.vm.findClass RJ0 = some m.cls := hown
  have hl : lv_has ls 1 [(0, .ref (ad i))] := hl
  have ln1 := hts (Cond.fieldLink RJ0 38 "java/lang/String" "COMPACT_STRINGS" "Z") (List.mem_of_getElem? (i := 1) rfl)
  have ln2 := hts (Cond.fieldLink RJ0 15 "java/lang/String" "coder" "B") (List.mem_of_getElem? (i := 2) rfl)
  refine va_gets hx hb hX.2.2.2 hS hown ln1 (fun _ h => h) dJ0_isLatin1_aae02_0 ?_
  refine lv_if_eq (tgt := 17) hx hb dJ0_isLatin1_aae02_3 (by decide) (fun q => absurd q (by decide)) (fun _ => ?_)
  refine lv_aload_n hx hb dJ0_isLatin1_aae02_6 rfl (lv_at hl 0 rfl) ?_
  refine vk_getf hx hb (hX.1.1 i hi).2.1 hS hown ln2 (fun _ h => h) dJ0_isLatin1_aae02_7 ?_
  refine lv_if_ne (tgt := 17) hx hb dJ0_isLatin1_aae02_10 (by decide) (fun q => absurd rfl q) (fun _ => ?_)
  refine lv_iconst (v := (1 : Int32)) hx hb dJ0_isLatin1_aae02_13 (by decide) ?_
  refine lv_goto (tgt := 18) hx hb dJ0_isLatin1_aae02_14 (by decide) ?_
  exact R_zret hx hb hr hlk hS hsz rfl dJ0_isLatin1_aae02_18
set_option maxRecDepth 100000 in
theorem mJ0_coder (l : Launch) (D : va_G) (tys : List (ClassId × FieldType)) (ad av : Nat → Nat) (sz : Nat) {i : Nat} (hi : i < 2) : Met l yJ0_coder_7d493 wsJ0_coder_7d493 rmS0 (RPreS ad av [.ref (ad i)] sz D tys []) (RQi sz 0) 0 0 (fr0 sz) := by
  refine RS_start (cc := cJ0_coder_7d493) (maxL := 1) (ret := (some .byte)) (by decide) rfl (Nat.le_of_ble_eq_true rfl) (fun p e s m below meth c ls hx hb hr hml hown hts hlk hP hK hS hA hsz hl hX => ?_)
  have hown : s.vm.findClass RJ0 = some m.cls := hown
  have hl : lv_has ls 1 [(0, .ref (ad i))] := hl
  have ln1 := hts (Cond.fieldLink RJ0 38 "java/lang/String" "COMPACT_STRINGS" "Z") (List.mem_of_getElem? (i := 1) rfl)
  have ln2 := hts (Cond.fieldLink RJ0 15 "java/lang/String" "coder" "B") (List.mem_of_getElem? (i := 2) rfl)
  refine va_gets hx hb hX.2.2.2 hS hown ln1 (fun _ h => h) dJ0_coder_7d493_0 ?_
  refine lv_if_eq (tgt := 13) hx hb dJ0_coder_7d493_3 (by decide) (fun q => absurd q (by decide)) (fun _ => ?_)
  refine lv_aload_n hx hb dJ0_coder_7d493_6 rfl (lv_at hl 0 rfl) ?_
  refine vk_getf hx hb (hX.1.1 i hi).2.1 hS hown ln2 (fun _ h => h) dJ0_coder_7d493_7 ?_
  refine lv_goto (tgt := 14) hx hb dJ0_coder_7d493_10 (by decide) ?_
  exact R_bret hx hb hr hlk hS hsz rfl dJ0_coder_7d493_14
abbrev rmS1 : Room := { frames := 1, cells := 0, slots := 0, locals := 20 }
set_option maxRecDepth 100000 in
theorem mJ0_length (l : Launch) (D : va_G) (tys : List (ClassId × FieldType)) (ad av : Nat → Nat) (sz : Nat) {i : Nat} (hi : i < 2) : Met l yJ0_length_8abf5 wsJ0_length_8abf5 rmS1 (RPreS ad av [.ref (ad i)] sz D tys []) (RQi sz 6) 0 0 (fr0 sz) := by
  refine RS_start (cc := cJ0_length_8abf5) (maxL := 1) (ret := (some .int)) (by decide) rfl (Nat.le_of_ble_eq_true rfl) (fun p e s m below meth c ls hx hb hr hml hown hts hlk hP hK hS hA hsz hl hX => ?_)
  have hown : s.vm.findClass RJ0 = some m.cls := hown
  have hl : lv_has ls 1 [(0, .ref (ad i))] := hl
  have ln1 := hts (Cond.fieldLink RJ0 9 "java/lang/String" "value" "[B") (List.mem_of_getElem? (i := 1) rfl)
  refine lv_aload_n hx hb dJ0_length_8abf5_0 rfl (lv_at hl 0 rfl) ?_
  refine vk_getf hx hb (hX.1.1 i hi).2.2.1 hS hown ln1 (fun _ h => h) dJ0_length_8abf5_1 ?_
  refine va_tlen (v := (6 : Int32)) hx hb (hX.1.1 i hi).2.2.2 hS (by rw [tx_6 hi]; rfl) dJ0_length_8abf5_4 ?_
  refine lv_aload_n hx hb dJ0_length_8abf5_5 rfl (lv_at hl 0 rfl) ?_
  refine e_callJ (As := []) (rest := [.int (6 : Int32)]) ⟨hx, hb, hml, hown, hts⟩ hi (mJ0_coder l D tys ad av _ hi) (cwV 0 hts gJ0_length_8abf5_J0_coder_7d493 rfl rfl rfl qJ0_coder ⟨Nat.le_of_ble_eq_true rfl, Nat.le_of_ble_eq_true rfl⟩) hX hK hP hS hA rfl hl.1 rfl (Nat.le_of_ble_eq_true rfl) dJ0_length_8abf5_6 ⟨Nat.le_refl _, Nat.le_refl _⟩ (fun H locs hP hS => ?_)
  refine lv_ishr hx hb dJ0_length_8abf5_9 ?_
  exact R_iret hx hb hr hlk hS hsz (by decide) dJ0_length_8abf5_10
set_option maxRecDepth 100000 in
theorem mJ1_canEncode (l : Launch) (D : va_G) (tys : List (ClassId × FieldType)) (ad av : Nat → Nat) (sz : Nat) (k : Int32) : Met l yJ1_canEncode_9a6ad wsJ1_canEncode_9a6ad rmS0 (RPreS ad av [.int k] sz D tys []) (RQi sz (if k < 0 then 0 else if 255 < k then 0 else 1)) 0 0 (fr0 sz) := by
  refine RS_start (cc := cJ1_canEncode_9a6ad) (maxL := 1) (ret := (some .boolean)) (by decide) rfl (Nat.le_of_ble_eq_true rfl) (fun p e s m below meth c ls hx hb hr hml hown hts hlk hP hK hS hA hsz hl hX => ?_)
  have hl : lv_has ls 1 [(0, .int k)] := hl
  refine lv_iload_n hx hb dJ1_canEncode_9a6ad_0 rfl (lv_at hl 0 rfl) ?_
  refine lv_if_lt (tgt := 15) hx hb dJ1_canEncode_9a6ad_1 (by decide) (fun q => ?_) (fun q => ?_)
  · refine lv_iconst (v := (0 : Int32)) hx hb dJ1_canEncode_9a6ad_15 (by decide) ?_
    exact R_zret hx hb hr hlk hS hsz (by rw [if_pos q]; rfl) dJ1_canEncode_9a6ad_16
  · refine lv_iload_n hx hb dJ1_canEncode_9a6ad_4 rfl (lv_at hl 0 rfl) ?_
    refine lv_sipush (v := (255 : Int32)) hx hb dJ1_canEncode_9a6ad_5 (by decide) ?_
    refine lv_icmp_gt (tgt := 15) hx hb dJ1_canEncode_9a6ad_8 (by decide) (fun q2 => ?_) (fun q2 => ?_)
    · refine lv_iconst (v := (0 : Int32)) hx hb dJ1_canEncode_9a6ad_15 (by decide) ?_
      exact R_zret hx hb hr hlk hS hsz (by rw [if_neg q, if_pos q2]; rfl) dJ1_canEncode_9a6ad_16
    · refine lv_iconst (v := (1 : Int32)) hx hb dJ1_canEncode_9a6ad_11 (by decide) ?_
      refine lv_goto (tgt := 16) hx hb dJ1_canEncode_9a6ad_12 (by decide) ?_
      exact R_zret hx hb hr hlk hS hsz (by rw [if_neg q, if_neg q2]; rfl) dJ1_canEncode_9a6ad_16
set_option maxRecDepth 100000 in
theorem mJ1_indexOfChar (l : Launch) (D : va_G) (tys : List (ClassId × FieldType)) (ad av : Nat → Nat) (sz : Nat) {i : Nat} (hi : i < 2) (k : Int32) : Met l yJ1_indexOfChar_4cfef wsJ1_indexOfChar_4cfef rmS0 (RPreS ad av [.ref (av i), .int k, .int 0, .int 6] sz D tys []) (RQi sz (ixG (txB.getD i []) k.toInt8.toInt32 6 0)) 0 0 (fr0 sz) := by
  refine RS_start (cc := cJ1_indexOfChar_4cfef) (maxL := 6) (ret := (some .int)) (by decide) rfl (Nat.le_of_ble_eq_true rfl) (fun p e s m below meth c ls hx hb hr hml hown hts hlk hP hK hS hA hsz hl hX => ?_)
  have hl : lv_has ls 6 [(0, .ref (av i)), (1, .int k), (2, .int 0), (3, .int 6)] := hl
  have hT := (hX.1.1 i hi).2.2.2
  rw [tx_6 hi] at hT
  have b7 : ∀ (n j : Nat) (ls : Array Slot), j + n = 6 → lv_has ls 6 [(5, .int (nI j)), (4, .int k.toInt8.toInt32), (0, .ref (av i)), (3, .int 6)] → ixG (txB.getD i []) k.toInt8.toInt32 6 0 = ixG (txB.getD i []) k.toInt8.toInt32 n j → W p l e rmS0 s m ([.ref (av i), .int k, .int 0, .int 6] : List Value).toArray below meth c s.heap [] 0 0 (MQ below (RQi sz (ixG (txB.getD i []) k.toInt8.toInt32 6 0)) ([.ref (av i), .int k, .int 0, .int 6] : List Value).toArray s 0 0 (fr0 sz)) (F0 m 7 ls []) := by
    intro n
    induction n with
    | zero =>
      intro j ls hj hl hv
      refine lv_iload hx hb dJ1_indexOfChar_4cfef_7 (lv_at hl 0 rfl) ?_
      refine lv_iload_n hx hb dJ1_indexOfChar_4cfef_9 rfl (lv_at hl 3 rfl) ?_
      refine lv_icmp_ge (tgt := 31) hx hb dJ1_indexOfChar_4cfef_10 (by decide) (fun q => ?_) (fun q => absurd (show (6 : Int32) ≤ nI j from nI_le (a := 6) (by omega) (by omega)) q)
      refine lv_iconst (v := (-1 : Int32)) hx hb dJ1_indexOfChar_4cfef_31 (by decide) ?_
      exact R_iret hx hb hr hlk hS hsz (by rw [hv]; rfl) dJ1_indexOfChar_4cfef_32
    | succ n ih =>
      intro j ls hj hl hv
      have e1 : ixG (txB.getD i []) k.toInt8.toInt32 (n + 1) j = if (txB.getD i []).getD j 0 = k.toInt8.toInt32 then nI j else ixG (txB.getD i []) k.toInt8.toInt32 n (j + 1) := rfl
      rw [e1] at hv
      refine lv_iload hx hb dJ1_indexOfChar_4cfef_7 (lv_at hl 0 rfl) ?_
      refine lv_iload_n hx hb dJ1_indexOfChar_4cfef_9 rfl (lv_at hl 3 rfl) ?_
      refine lv_icmp_ge (tgt := 31) hx hb dJ1_indexOfChar_4cfef_10 (by decide) (fun q => absurd q (nI_ge (b := 6) (by omega) (by omega))) (fun q => ?_)
      refine lv_aload_n hx hb dJ1_indexOfChar_4cfef_13 rfl (lv_at hl 2 rfl) ?_
      refine lv_iload hx hb dJ1_indexOfChar_4cfef_14 (lv_at hl 0 rfl) ?_
      refine va_tb (v := .int ((txB.getD i []).getD j 0)) hx hb hT hS (vp_in_nI (by omega) (by omega)) (by rw [nI_clamp (by omega)]) dJ1_indexOfChar_4cfef_16 ?_
      refine lv_iload hx hb dJ1_indexOfChar_4cfef_17 (lv_at hl 1 rfl) ?_
      refine lv_icmp_ne (tgt := 25) hx hb dJ1_indexOfChar_4cfef_19 (by decide) (fun q2 => ?_) (fun q2 => ?_)
      · rw [if_neg q2] at hv
        refine k_iinc (d := (1 : Int32)) (K := some) (r := nI (j + 1)) (lv' := fun v1 => [(5, .int v1), (4, .int k.toInt8.toInt32), (0, .ref (av i)), (3, .int 6)]) hx hb dJ1_indexOfChar_4cfef_25 hl (k := 0) rfl (by decide) (by decide) (fun _ => rfl) (by show some (nI j + 1) = _; rw [nI_1]) (fun v1 ls hl hf => ?_)
        cases hf
        refine lv_goto (tgt := 7) hx hb dJ1_indexOfChar_4cfef_28 (by decide) ?_
        exact ih (j + 1) ls (by omega) hl hv
      · rw [if_pos q2] at hv
        refine lv_iload hx hb dJ1_indexOfChar_4cfef_22 (lv_at hl 0 rfl) ?_
        exact R_iret hx hb hr hlk hS hsz (by rw [hv]) dJ1_indexOfChar_4cfef_24
  refine lv_iload_n hx hb dJ1_indexOfChar_4cfef_0 rfl (lv_at hl 1 rfl) ?_
  refine lv_i2b hx hb dJ1_indexOfChar_4cfef_1 rfl ?_
  refine lv_istore (lv' := [(4, .int k.toInt8.toInt32), (0, .ref (av i)), (1, .int k), (2, .int 0), (3, .int 6)]) hx hb dJ1_indexOfChar_4cfef_2 hl (by decide) rfl (fun ls hl => ?_)
  refine lv_iload_n hx hb dJ1_indexOfChar_4cfef_4 rfl (lv_at hl 3 rfl) ?_
  refine lv_istore (lv' := [(5, .int 0), (4, .int k.toInt8.toInt32), (0, .ref (av i)), (1, .int k), (2, .int 0), (3, .int 6)]) hx hb dJ1_indexOfChar_4cfef_5 hl (by decide) rfl (fun ls hl => ?_)
  exact b7 6 0 ls rfl (lv_sub hl [0, 1, 2, 5] rfl) rfl
abbrev rmS2 : Room := { frames := 1, cells := 0, slots := 0, locals := 25 }
set_option maxRecDepth 100000 in
theorem mJ1_indexOf (l : Launch) (D : va_G) (tys : List (ClassId × FieldType)) (ad av : Nat → Nat) (sz : Nat) {i : Nat} (hi : i < 2) (k : Int32) : Met l yJ1_indexOf_4cfef wsJ1_indexOf_4cfef rmS2 (RPreS ad av [.ref (av i), .int k, .int 0, .int 6] sz D tys []) (RQi sz (ixS i k)) 0 0 (fr0 sz) := by
  refine RS_start (cc := cJ1_indexOf_4cfef) (maxL := 4) (ret := (some .int)) (by decide) rfl (Nat.le_of_ble_eq_true rfl) (fun p e s m below meth c ls hx hb hr hml hown hts hlk hP hK hS hA hsz hl hX => ?_)
  have hown : s.vm.findClass RJ1 = some m.cls := hown
  have hl : lv_has ls 4 [(0, .ref (av i)), (1, .int k), (2, .int 0), (3, .int 6)] := hl
  have ln1 := hts (Cond.methodLink RJ1 92 Lib.Math.max.name) (List.mem_of_getElem? (i := 1) rfl)
  have ln2 := hts (Cond.static Lib.Math.max.name) (List.mem_of_getElem? (i := 2) rfl)
  have ln3 := hts (Cond.initialized "java/lang/Math") (List.mem_of_getElem? (i := 3) rfl)
  have ln4 := hts (Cond.code Lib.Math.max.name Lib.Math.max.code 2 (some .int)) (List.mem_of_getElem? (i := 4) rfl)
  have ln5 := hts (Cond.methodLink RJ1 38 Lib.Math.min.name) (List.mem_of_getElem? (i := 5) rfl)
  have ln6 := hts (Cond.static Lib.Math.min.name) (List.mem_of_getElem? (i := 6) rfl)
  have ln7 := hts (Cond.code Lib.Math.min.name Lib.Math.min.code 2 (some .int)) (List.mem_of_getElem? (i := 7) rfl)
  have hT := (hX.1.1 i hi).2.2.2
  rw [tx_6 hi] at hT
  refine lv_iload_n hx hb dJ1_indexOf_4cfef_0 rfl (lv_at hl 1 rfl) ?_
  refine e_callS (As := [.int k]) (rest := []) ⟨hx, hb, hml, hown, hts⟩ (mJ1_canEncode l D tys ad av _ k) (va_cwS 1 hts gJ1_indexOf_4cfef_J1_canEncode_9a6ad rfl rfl rfl qJ1_canEncode ⟨Nat.le_of_ble_eq_true rfl, Nat.le_of_ble_eq_true rfl⟩) hX hK hP hS hA rfl hl.1 rfl (Nat.le_of_ble_eq_true rfl) dJ1_indexOf_4cfef_1 ⟨Nat.le_refl _, Nat.le_refl _⟩ (fun H locs hP hS => ?_)
  refine lv_if_ne (tgt := 9) hx hb dJ1_indexOf_4cfef_4 (by decide) (fun q => ?_) (fun q => ?_)
  · have hk : ¬ k < 0 ∧ ¬ 255 < k := by
      by_cases c1 : k < 0
      · rw [if_pos c1] at q; exact absurd rfl q
      · rw [if_neg c1] at q
        by_cases c2 : 255 < k
        · rw [if_pos c2] at q; exact absurd rfl q
        · exact ⟨c1, c2⟩
    refine lv_iload_n hx hb dJ1_indexOf_4cfef_9 rfl (lv_at hl 2 rfl) ?_
    refine lv_iconst (v := (0 : Int32)) hx hb dJ1_indexOf_4cfef_10 (by decide) ?_
    refine k_mmax (K := some) (r := (0 : Int32)) hx hb (hml.trans hl.1.symm) hown ln1 ln2 ln3 ln4 (Nat.le_of_ble_eq_true rfl) (Nat.le_of_ble_eq_true rfl) (Nat.zero_le _) (Nat.zero_le _) dJ1_indexOf_4cfef_11 (by decide) (fun v hv => ?_)
    cases hv
    refine lv_istore_n (lv' := [(2, .int 0), (0, .ref (av i)), (1, .int k), (3, .int 6)]) hx hb dJ1_indexOf_4cfef_14 rfl hl (by decide) rfl (fun ls hl => ?_)
    refine lv_iload_n hx hb dJ1_indexOf_4cfef_15 rfl (lv_at hl 3 rfl) ?_
    refine lv_aload_n hx hb dJ1_indexOf_4cfef_16 rfl (lv_at hl 1 rfl) ?_
    refine va_tlen (v := (6 : Int32)) hx hb hT hS rfl dJ1_indexOf_4cfef_17 ?_
    refine k_mmin (K := some) (r := (6 : Int32)) hx hb (hml.trans hl.1.symm) hown ln5 ln6 ln3 ln7 (Nat.le_of_ble_eq_true rfl) (Nat.le_of_ble_eq_true rfl) (Nat.zero_le _) (Nat.zero_le _) dJ1_indexOf_4cfef_18 (by decide) (fun v hv => ?_)
    cases hv
    refine lv_istore_n (lv' := [(3, .int 6), (2, .int 0), (0, .ref (av i)), (1, .int k)]) hx hb dJ1_indexOf_4cfef_21 rfl hl (by decide) rfl (fun ls hl => ?_)
    refine lv_iload_n hx hb dJ1_indexOf_4cfef_22 rfl (lv_at hl 1 rfl) ?_
    refine lv_iload_n hx hb dJ1_indexOf_4cfef_23 rfl (lv_at hl 0 rfl) ?_
    refine lv_icmp_lt (tgt := 29) hx hb dJ1_indexOf_4cfef_24 (by decide) (fun _ => ?_) (fun q => absurd (by decide) q)
    refine lv_aload_n hx hb dJ1_indexOf_4cfef_29 rfl (lv_at hl 2 rfl) ?_
    refine lv_iload_n hx hb dJ1_indexOf_4cfef_30 rfl (lv_at hl 3 rfl) ?_
    refine lv_iload_n hx hb dJ1_indexOf_4cfef_31 rfl (lv_at hl 1 rfl) ?_
    refine lv_iload_n hx hb dJ1_indexOf_4cfef_32 rfl (lv_at hl 0 rfl) ?_
    refine e_callS (As := [.ref (av i), .int k, .int 0, .int 6]) (rest := []) ⟨hx, hb, hml, hown, hts⟩ (mJ1_indexOfChar l D tys ad av _ hi k) (va_cwS 4 hts gJ1_indexOf_4cfef_J1_indexOfChar_4cfef rfl rfl rfl qJ1_indexOfChar ⟨Nat.le_of_ble_eq_true rfl, Nat.le_of_ble_eq_true rfl⟩) hX hK hP hS hA rfl hl.1 rfl (Nat.le_of_ble_eq_true rfl) dJ1_indexOf_4cfef_33 ⟨Nat.le_refl _, Nat.le_refl _⟩ (fun H locs hP hS => ?_)
    exact R_iret hx hb hr hlk hS hsz (by unfold ixS; rw [if_neg hk.1, if_neg hk.2]) dJ1_indexOf_4cfef_36
  · have hk : ixS i k = -1 := by
      unfold ixS
      by_cases c1 : k < 0
      · rw [if_pos c1]
      · rw [if_neg c1]
        by_cases c2 : 255 < k
        · rw [if_pos c2]
        · rw [if_neg c1, if_neg c2] at q; exact absurd q (by decide)
    refine lv_iconst (v := (-1 : Int32)) hx hb dJ1_indexOf_4cfef_7 (by decide) ?_
    exact R_iret hx hb hr hlk hS hsz (by rw [hk]) dJ1_indexOf_4cfef_8
abbrev rmS3 : Room := { frames := 2, cells := 0, slots := 0, locals := 48 }
set_option maxRecDepth 100000 in
theorem mJ0_indexOfII (l : Launch) (D : va_G) (tys : List (ClassId × FieldType)) (ad av : Nat → Nat) (sz : Nat) {i : Nat} (hi : i < 2) (k : Int32) : Met l yJ0_indexOf_7cf53 wsJ0_indexOf_7cf53 rmS3 (RPreS ad av [.ref (ad i), .int k, .int 0] sz D tys []) (RQi sz (ixS i k)) 0 0 (fr0 sz) := by
  refine RS_start (cc := cJ0_indexOf_7cf53) (maxL := 3) (ret := (some .int)) (by decide) rfl (Nat.le_of_ble_eq_true rfl) (fun p e s m below meth c ls hx hb hr hml hown hts hlk hP hK hS hA hsz hl hX => ?_)
  have hown : s.vm.findClass RJ0 = some m.cls := hown
  have hl : lv_has ls 3 [(0, .ref (ad i)), (1, .int k), (2, .int 0)] := hl
  have ln1 := hts (Cond.fieldLink RJ0 9 "java/lang/String" "value" "[B") (List.mem_of_getElem? (i := 1) rfl)
  refine lv_aload_n hx hb dJ0_indexOf_7cf53_0 rfl (lv_at hl 0 rfl) ?_
  refine e_callJ (As := []) (rest := []) ⟨hx, hb, hml, hown, hts⟩ hi (mJ0_isLatin1 l D tys ad av _ hi) (cwV 0 hts gJ0_indexOf_7cf53_J0_isLatin1_aae02 rfl rfl rfl qJ0_isLatin1 ⟨Nat.le_of_ble_eq_true rfl, Nat.le_of_ble_eq_true rfl⟩) hX hK hP hS hA rfl hl.1 rfl (Nat.le_of_ble_eq_true rfl) dJ0_indexOf_7cf53_1 ⟨Nat.le_refl _, Nat.le_refl _⟩ (fun H locs hP hS => ?_)
  refine lv_if_eq (tgt := 23) hx hb dJ0_indexOf_7cf53_4 (by decide) (fun q => absurd q (by decide)) (fun _ => ?_)
  refine lv_aload_n hx hb dJ0_indexOf_7cf53_7 rfl (lv_at hl 0 rfl) ?_
  refine vk_getf hx hb (hX.1.1 i hi).2.2.1 hS hown ln1 (fun _ h => h) dJ0_indexOf_7cf53_8 ?_
  refine lv_iload_n hx hb dJ0_indexOf_7cf53_11 rfl (lv_at hl 1 rfl) ?_
  refine lv_iload_n hx hb dJ0_indexOf_7cf53_12 rfl (lv_at hl 2 rfl) ?_
  refine lv_aload_n hx hb dJ0_indexOf_7cf53_13 rfl (lv_at hl 0 rfl) ?_
  refine e_callJ (As := []) (rest := [.int 0, .int k, .ref (av i)]) ⟨hx, hb, hml, hown, hts⟩ hi (mJ0_length l D tys ad av _ hi) (cwV 0 hts gJ0_indexOf_7cf53_J0_length_8abf5 rfl rfl rfl qJ0_length ⟨Nat.le_of_ble_eq_true rfl, Nat.le_of_ble_eq_true rfl⟩) hX hK hP hS hA rfl hl.1 rfl (Nat.le_of_ble_eq_true rfl) dJ0_indexOf_7cf53_14 ⟨Nat.le_refl _, Nat.le_refl _⟩ (fun H locs hP hS => ?_)
  refine e_callS (As := [.ref (av i), .int k, .int 0, .int 6]) (rest := []) ⟨hx, hb, hml, hown, hts⟩ (mJ1_indexOf l D tys ad av _ hi k) (va_cwS 4 hts gJ0_indexOf_7cf53_J1_indexOf_4cfef rfl rfl rfl qJ1_indexOf ⟨Nat.le_of_ble_eq_true rfl, Nat.le_of_ble_eq_true rfl⟩) hX hK hP hS hA rfl hl.1 rfl (Nat.le_of_ble_eq_true rfl) dJ0_indexOf_7cf53_17 ⟨Nat.le_refl _, Nat.le_refl _⟩ (fun H locs hP hS => ?_)
  refine lv_goto (tgt := 36) hx hb dJ0_indexOf_7cf53_20 (by decide) ?_
  exact R_iret hx hb hr hlk hS hsz rfl dJ0_indexOf_7cf53_36
abbrev rmS4 : Room := { frames := 3, cells := 0, slots := 0, locals := 70 }
set_option maxRecDepth 100000 in
theorem mJ0_indexOf (l : Launch) (D : va_G) (tys : List (ClassId × FieldType)) (ad av : Nat → Nat) (sz : Nat) {i : Nat} (hi : i < 2) (k : Int32) : Met l yJ0_indexOf_0f7a4 wsJ0_indexOf_0f7a4 rmS4 (RPreS ad av [.ref (ad i), .int k] sz D tys []) (RQi sz (ixS i k)) 0 0 (fr0 sz) := by
  refine RS_start (cc := cJ0_indexOf_0f7a4) (maxL := 2) (ret := (some .int)) (by decide) rfl (Nat.le_of_ble_eq_true rfl) (fun p e s m below meth c ls hx hb hr hml hown hts hlk hP hK hS hA hsz hl hX => ?_)
  have hown : s.vm.findClass RJ0 = some m.cls := hown
  have hl : lv_has ls 2 [(0, .ref (ad i)), (1, .int k)] := hl
  refine lv_aload_n hx hb dJ0_indexOf_0f7a4_0 rfl (lv_at hl 0 rfl) ?_
  refine lv_iload_n hx hb dJ0_indexOf_0f7a4_1 rfl (lv_at hl 1 rfl) ?_
  refine lv_iconst (v := (0 : Int32)) hx hb dJ0_indexOf_0f7a4_2 (by decide) ?_
  refine e_callJ (As := [.int k, .int 0]) (rest := []) ⟨hx, hb, hml, hown, hts⟩ hi (mJ0_indexOfII l D tys ad av _ hi k) (cwV 2 hts gJ0_indexOf_0f7a4_J0_indexOf_7cf53 rfl rfl rfl qJ0_indexOfII ⟨Nat.le_of_ble_eq_true rfl, Nat.le_of_ble_eq_true rfl⟩) hX hK hP hS hA rfl hl.1 rfl (Nat.le_of_ble_eq_true rfl) dJ0_indexOf_0f7a4_3 ⟨Nat.le_refl _, Nat.le_refl _⟩ (fun H locs hP hS => ?_)
  exact R_iret hx hb hr hlk hS hsz rfl dJ0_indexOf_0f7a4_6
