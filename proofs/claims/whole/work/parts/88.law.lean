/-! the law's start: what is known of the machine, what there is at first -/
def A00 : St := fun c => if c = 0 then iMo 1 else zF
theorem nL00 : nL A00 = 0 := by decide
theorem nK00 : nK A00 = 0 := by decide
theorem things0 : ∀ t, t < 8 → iHo 2 t = iMo 1 (4 * t + 6) ∧ iHo 3 t = iMo 1 (4 * t + 7) ∧ iHo 4 t = iMo 1 (4 * t + 8) ∧ iHo 5 t = iMo 1 (4 * t + 9) := by decide +kernel
theorem inv0 : ∀ t, t < 8 → (0 ≤ iMo 1 (4 * t + 6) ∧ iMo 1 (4 * t + 6) ≤ 5) ∧ (0 ≤ iMo 1 (4 * t + 7) ∧ iMo 1 (4 * t + 7) ≤ 9) ∧ (0 ≤ iMo 1 (4 * t + 8) ∧ iMo 1 (4 * t + 8) ≤ 2) ∧ (0 ≤ iMo 1 (4 * t + 9) ∧ iMo 1 (4 * t + 9) ≤ iMo 1 1) := by decide +kernel
theorem CS0 : CS iHA A00 := ⟨⟨by decide +kernel, by decide +kernel, by decide +kernel, by decide +kernel, by decide +kernel, by decide +kernel, things0⟩, fun q => absurd q (by decide), rfl, rfl, fun k hk => by rw [nL00] at hk; exact absurd hk (Nat.not_lt_zero k), rfl, fun k hk => by rw [nK00] at hk; exact absurd hk (Nat.not_lt_zero k), fun k hk => (by decide +kernel : ∀ k, k < 7 → iHA 28 k = A00 4 k) k hk⟩
theorem MS0 : MS iMo A00 := ⟨fun _ _ => rfl, fun q => absurd q (by decide), rfl, rfl, fun k hk => by rw [nL00] at hk; exact absurd hk (Nat.not_lt_zero k), rfl, fun k hk => by rw [nK00] at hk; exact absurd hk (Nat.not_lt_zero k), fun k hk => (by decide +kernel : ∀ k, k < 7 → iMo 7 k = A00 4 k) k hk⟩
theorem AI0 : AI A00 := ⟨⟨⟨0, by omega, by decide +kernel⟩, ⟨0, by omega, by decide +kernel⟩, by decide +kernel, ⟨1081377, by omega, by decide +kernel⟩, by decide +kernel, by decide +kernel, inv0⟩, Or.inl rfl, fun q => absurd q (by decide), ⟨by rw [nL00]; omega, by decide⟩, fun k hk => by rw [nL00] at hk; exact absurd hk (Nat.not_lt_zero k), ⟨by rw [nK00]; omega, by decide⟩, fun k hk => by rw [nK00] at hk; exact absurd hk (Nat.not_lt_zero k)⟩
set_option maxHeartbeats 4000000 in
set_option maxRecDepth 100000 in
theorem SX_start {s : State} {b : Addr} (hts : ∀ w ∈ lw_tbl, w.before #[Value.ref b] s = true) (hgv : (Jvm.Cond.and given_1 narrow_1).before #[Value.ref b] s = true) : ∃ ad av : Nat → Nat, SX ad av (fun q : Nat => s.heap.size ≤ q) s s.heap := by
  have hs := flat_of_before _ hgv
  have hA : ∀ a : Nat, a < s.heap.size → ¬ (fun q : Nat => s.heap.size ≤ q) a := fun a h => Nat.not_le.mpr h
  have hex : ∀ i : Nat, i < 2 → (Cond.exactly ((fun i => if i = 0 then Term.string "HoistsAreShared$Telling" 37 else Term.string "HoistsAreShared$Telling" 47) i) "java/lang/String").before #[Value.ref b] s = true := fun i hi => by
    rcases (show i = 0 ∨ i = 1 by omega) with rfl | rfl
    · exact hs (Cond.exactly (.string "HoistsAreShared$Telling" 37) "java/lang/String") (by decide +kernel)
    · exact hs (Cond.exactly (.string "HoistsAreShared$Telling" 47) "java/lang/String") (by decide +kernel)
  have hco : ∀ i : Nat, i < 2 → (Cond.eq (.field ((fun i => if i = 0 then Term.string "HoistsAreShared$Telling" 37 else Term.string "HoistsAreShared$Telling" 47) i) "java/lang/String" "coder" "B") (.int 0)).before #[Value.ref b] s = true := fun i hi => by
    rcases (show i = 0 ∨ i = 1 by omega) with rfl | rfl
    · exact hs (Cond.eq (.field (.string "HoistsAreShared$Telling" 37) "java/lang/String" "coder" "B") (.int 0)) (by decide +kernel)
    · exact hs (Cond.eq (.field (.string "HoistsAreShared$Telling" 47) "java/lang/String" "coder" "B") (.int 0)) (by decide +kernel)
  have har : ∀ i : Nat, i < 2 → (Cond.arrayOf (.field ((fun i => if i = 0 then Term.string "HoistsAreShared$Telling" 37 else Term.string "HoistsAreShared$Telling" 47) i) "java/lang/String" "value" "[B") .byte).before #[Value.ref b] s = true := fun i hi => by
    rcases (show i = 0 ∨ i = 1 by omega) with rfl | rfl
    · exact hs (Cond.arrayOf (.field (.string "HoistsAreShared$Telling" 37) "java/lang/String" "value" "[B") .byte) (by decide +kernel)
    · exact hs (Cond.arrayOf (.field (.string "HoistsAreShared$Telling" 47) "java/lang/String" "value" "[B") .byte) (by decide +kernel)
  have hle : ∀ i : Nat, i < 2 → (Cond.eq (.length (.field ((fun i => if i = 0 then Term.string "HoistsAreShared$Telling" 37 else Term.string "HoistsAreShared$Telling" 47) i) "java/lang/String" "value" "[B")) (.int (Int32.ofNat (txL.getD i 0)))).before #[Value.ref b] s = true := fun i hi => by
    rcases (show i = 0 ∨ i = 1 by omega) with rfl | rfl
    · exact hs (Cond.eq (.length (.field (.string "HoistsAreShared$Telling" 37) "java/lang/String" "value" "[B")) (.int 6)) (by decide +kernel)
    · exact hs (Cond.eq (.length (.field (.string "HoistsAreShared$Telling" 47) "java/lang/String" "value" "[B")) (.int 6)) (by decide +kernel)
  have hel : ∀ i : Nat, i < 2 → ∀ j : Nat, j < txL.getD i 0 → (Cond.eq (.elem (.field ((fun i => if i = 0 then Term.string "HoistsAreShared$Telling" 37 else Term.string "HoistsAreShared$Telling" 47) i) "java/lang/String" "value" "[B") (.int (Int32.ofNat j))) (.int ((txB.getD i []).getD j 0))).before #[Value.ref b] s = true := fun i hi j hj => by
    rcases (show i = 0 ∨ i = 1 by omega) with rfl | rfl
    · have hj : j < 6 := hj
      rcases (show j = 0 ∨ j = 1 ∨ j = 2 ∨ j = 3 ∨ j = 4 ∨ j = 5 by omega) with rfl | rfl | rfl | rfl | rfl | rfl
      · exact hs (Cond.eq (.elem (.field (.string "HoistsAreShared$Telling" 37) "java/lang/String" "value" "[B") (.int 0)) (.int 116)) (by decide +kernel)
      · exact hs (Cond.eq (.elem (.field (.string "HoistsAreShared$Telling" 37) "java/lang/String" "value" "[B") (.int 1)) (.int 104)) (by decide +kernel)
      · exact hs (Cond.eq (.elem (.field (.string "HoistsAreShared$Telling" 37) "java/lang/String" "value" "[B") (.int 2)) (.int 98)) (by decide +kernel)
      · exact hs (Cond.eq (.elem (.field (.string "HoistsAreShared$Telling" 37) "java/lang/String" "value" "[B") (.int 3)) (.int 102)) (by decide +kernel)
      · exact hs (Cond.eq (.elem (.field (.string "HoistsAreShared$Telling" 37) "java/lang/String" "value" "[B") (.int 4)) (.int 100)) (by decide +kernel)
      · exact hs (Cond.eq (.elem (.field (.string "HoistsAreShared$Telling" 37) "java/lang/String" "value" "[B") (.int 5)) (.int 110)) (by decide +kernel)
    · have hj : j < 6 := hj
      rcases (show j = 0 ∨ j = 1 ∨ j = 2 ∨ j = 3 ∨ j = 4 ∨ j = 5 by omega) with rfl | rfl | rfl | rfl | rfl | rfl
      · exact hs (Cond.eq (.elem (.field (.string "HoistsAreShared$Telling" 47) "java/lang/String" "value" "[B") (.int 0)) (.int 104)) (by decide +kernel)
      · exact hs (Cond.eq (.elem (.field (.string "HoistsAreShared$Telling" 47) "java/lang/String" "value" "[B") (.int 1)) (.int 108)) (by decide +kernel)
      · exact hs (Cond.eq (.elem (.field (.string "HoistsAreShared$Telling" 47) "java/lang/String" "value" "[B") (.int 2)) (.int 116)) (by decide +kernel)
      · exact hs (Cond.eq (.elem (.field (.string "HoistsAreShared$Telling" 47) "java/lang/String" "value" "[B") (.int 3)) (.int 115)) (by decide +kernel)
      · exact hs (Cond.eq (.elem (.field (.string "HoistsAreShared$Telling" 47) "java/lang/String" "value" "[B") (.int 4)) (.int 98)) (by decide +kernel)
      · exact hs (Cond.eq (.elem (.field (.string "HoistsAreShared$Telling" 47) "java/lang/String" "value" "[B") (.int 5)) (.int 119)) (by decide +kernel)
  have hno : (Cond.not (Cond.eq (.string "HoistsAreShared$Telling" 37) (.string "HoistsAreShared$Telling" 47))).before #[Value.ref b] s = true := hs _ (by decide +kernel)
  obtain ⟨ad, av, h1, h2⟩ := vk_Sof (args := #[Value.ref b]) (s := s) (N := 2) (tm := fun i => if i = 0 then Term.string "HoistsAreShared$Telling" 37 else Term.string "HoistsAreShared$Telling" 47) (len := txL) (byt := txB) (A := fun q : Nat => s.heap.size ≤ q) (fun i hi => by rw [tx_6 hi]; omega) hex hco har hle hel (fun i j hi hj hij => by
    rcases (show i = 0 ∨ i = 1 by omega) with rfl | rfl
    · rcases (show j = 0 ∨ j = 1 by omega) with rfl | rfl
      · exact absurd rfl hij
      · exact Or.inl hno
    · rcases (show j = 0 ∨ j = 1 by omega) with rfl | rfl
      · exact Or.inr hno
      · exact absurd rfl hij) hA
  exact ⟨ad, av, h1, vk_R.of (hts (Cond.stringRef "HoistsAreShared$Telling" 37 "thbfdn") (List.mem_of_getElem? (i := 208) (by decide +kernel))) (h2 0 (by omega)), vk_R.of (hts (Cond.stringRef "HoistsAreShared$Telling" 47 "hltsbw") (List.mem_of_getElem? (i := 298) (by decide +kernel))) (h2 1 (by omega)), va_Zof (hts (Cond.laysStatic "java/lang/String" "COMPACT_STRINGS" "Z") (List.mem_of_getElem? (i := 222) (by decide +kernel))) (hts (Cond.initialized "java/lang/String") (List.mem_of_getElem? (i := 54) (by decide +kernel))) (va_eqi (hs (Cond.eq (.static "java/lang/String" "COMPACT_STRINGS" "Z") (.int 1)) (by decide +kernel))) hA⟩
set_option maxHeartbeats 4000000 in
set_option maxRecDepth 100000 in
theorem K_start {s : State} {b : Addr} (hts : ∀ w ∈ lw_tbl, w.before #[Value.ref b] s = true) : ∃ (D : va_G) (cI cJ : ClassId), va_K D vwCl (tyIJ cI cJ) s := by
  obtain ⟨c0, i0, k0⟩ := u_known (C := RX0) (T := TX0) (N := 9) (n := 9) hts wi_wsX00 (hts (.instantiable RX0 9) (List.mem_of_getElem? (i := 70) (by decide +kernel)))
  obtain ⟨c1, i1, k1⟩ := u_known (C := RX1) (T := TX1) (N := 2) (n := 2) hts wi_wsX10 (hts (.instantiable RX1 2) (List.mem_of_getElem? (i := 110) (by decide +kernel)))
  obtain ⟨c2, i2, k2⟩ := u_known (C := RX2) (T := TX2) (N := 14) (n := 14) hts wi_wsX20 (hts (.instantiable RX2 14) (List.mem_of_getElem? (i := 62) (by decide +kernel)))
  obtain ⟨c3, i3, k3⟩ := u_known (C := RX3) (T := TX3) (N := 13) (n := 13) hts wi_wsX30 (hts (.instantiable RX3 13) (List.mem_of_getElem? (i := 715) (by decide +kernel)))
  obtain ⟨cI, kI, mI, eI1, eI2, eI3⟩ := Cond.arrayClass_spec (type := .int) (hts (.arrayClass .int) (List.mem_of_getElem? (i := 108) (by decide +kernel)))
  obtain ⟨cJ, kJ, mJ, eJ1, eJ2, eJ3⟩ := Cond.arrayClass_spec (type := .long) (hts (.arrayClass .long) (List.mem_of_getElem? (i := 166) (by decide +kernel)))
  refine ⟨(fun k => if k = 0 then c0 else if k = 1 then c1 else if k = 2 then c2 else c3, fun k => if k = 0 then i0 else if k = 1 then i1 else if k = 2 then i2 else i3), cI, cJ, fun k q hq => ?_, fun k q hq => ?_⟩
  · match k, hq with
    | 0, hq => cases hq; exact k0
    | 1, hq => cases hq; exact k1
    | 2, hq => cases hq; exact k2
    | 3, hq => cases hq; exact k3
    | k + 4, hq => simp [vwCl] at hq
  · match k, hq with
    | 0, hq => cases hq; exact ⟨fun n z => ⟨fun k h => (by cases h), kI, eI2, mI, eI3⟩, eI1⟩
    | 1, hq => cases hq; exact ⟨fun n z => ⟨fun k h => (by cases h), kJ, eJ2, mJ, eJ3⟩, eJ1⟩
    | k + 2, hq => simp [tyIJ] at hq
set_option maxHeartbeats 8000000 in
set_option maxRecDepth 100000 in
/-- from the entry, for every script of at most 2560 ints, the law comes to its end with true -/
theorem whole_start {p : Program} {e : Env} {s : State} {m : MethodId} {below : List Frame} {meth : Method} {c : Code} (l : Launch) (hflags : l.flags = flags0) {b L : Nat} {xs : Nat → Int32} (hL : L ≤ 2560) (C0 : lw_At p s m meth c b L xs) : W p l e room_1 s m #[Value.ref b] below meth c s.heap [] 0 0 (lw_Z below #[Value.ref b] s) (entryFrame m ([Value.ref b] : List Value).toArray 4) := by
  obtain ⟨hx, hb, hr, hml, hown0, hts0, hX, hbl, hlocks, hgv⟩ := id C0
  have hts : ∀ w ∈ wsL_law, w.before #[Value.ref b] s = true := fun w h => hts0 w (wsL_law_in w h)
  have hown : s.vm.findClass RL = some m.cls := hown0
  have hb : c.code = cL_law := hb
  obtain ⟨D, cI, cJ, hK⟩ := K_start hts0
  obtain ⟨ad, av, hX9⟩ := SX_start hts0 hgv
  have hA : ∀ q : Nat, s.heap.size ≤ q → (fun q : Nat => s.heap.size ≤ q) q := fun _ h => h
  have hS : va_S (fun q : Nat => s.heap.size ≤ q) s.heap s.heap [] := va_S.rf
  have hP : va_P D vwCl [] s.heap := va_P_nil
  have hD : va_D (fun q : Nat => s.heap.size ≤ q) [] := ⟨fun i j p q h => by simp at h, fun k q h => by simp at h⟩
  have hl := lv_entry ([.ref b]) (n := 4) (Nat.le_of_ble_eq_true rfl)
  rw [lg_entry_eq]
  generalize (lg_sl ([.ref b]) ++ List.replicate (4 - (lg_sl ([.ref b])).length) Slot.unset).toArray = ls at hl ⊢
  have hl : lv_has ls 4 [(0, .ref b)] := hl
  refine va_new (D := D) (ci := 2) (fs := [.null, .null, .null, .null, .null, .null, .null, .null, .null, .null, .null, .null, .int 0, .int 0]) (C := RX2) (T := TX2) (N := 14) hx hb hts0 wi_wsX20 tyX2 tyX2_ok hown (hts0 (.classLink RL 7 RX2) (List.mem_of_getElem? (i := 61) (by decide +kernel))) (hts0 (.instantiable RX2 14) (List.mem_of_getElem? (i := 62) (by decide +kernel))) (hts0 (.initialized RX2) (List.mem_of_getElem? (i := 50) (by decide +kernel))) hK hP hD hS hA rfl (fun j hj => by rcases (show j = 0 ∨ j = 1 ∨ j = 2 ∨ j = 3 ∨ j = 4 ∨ j = 5 ∨ j = 6 ∨ j = 7 ∨ j = 8 ∨ j = 9 ∨ j = 10 ∨ j = 11 ∨ j = 12 ∨ j = 13 by omega) with rfl | rfl | rfl | rfl | rfl | rfl | rfl | rfl | rfl | rfl | rfl | rfl | rfl | rfl <;> rfl) (Nat.le_of_ble_eq_true rfl) (Nat.le_of_ble_eq_true rfl) dL_law_0 (fun q0 H hP hD hS => ?_)
  have hP : va_P D vwCl [(q0, .inr (2, [.null, .null, .null, .null, .null, .null, .null, .null, .null, .null, .null, .null, .int 0, .int 0]))] H := hP
  have hD : va_D (fun q : Nat => s.heap.size ≤ q) [(q0, .inr (2, [.null, .null, .null, .null, .null, .null, .null, .null, .null, .null, .null, .null, .int 0, .int 0]))] := hD
  refine W.widen (k := 1) (n := 14) (Nat.le_of_ble_eq_true rfl) (Nat.le_of_ble_eq_true rfl) ?_
  refine lv_dup hx hb dL_law_3 rfl ?_
  have hFc := va_free (wc := [(q0, .inr (2, [.null, .null, .null, .null, .null, .null, .null, .null, .null, .null, .null, .null, .int 0, .int 0]))]) hD hS hA [0] rfl
  refine va_callv (va_runI (As := []) (rest := [.ref q0]) ⟨hx, hb, hml, hown, hts⟩ (mX2_init l D cI cJ q0 H.size) (cwI 0 hts gL_law_X2_init rfl rfl rfl (hts0 (.initialized RX2) (List.mem_of_getElem? (i := 50) (by decide +kernel))) (hts0 (.methodLink RL 9 yX2_init) (List.mem_of_getElem? (i := 63) (by decide +kernel))) (hts0 (.instanceMethod yX2_init) (List.mem_of_getElem? (i := 64) (by decide +kernel))) rfl (by decide +kernel) ⟨(Nat.le_of_ble_eq_true rfl), (Nat.le_of_ble_eq_true rfl)⟩) ⟨WPre.blind, fun U hU hW => ⟨rfl, by rw [hU], by rw [hU]; exact hP, va_K.moved hW.alike hK, hD.weaken (fun _ _ _ _ => trivial)⟩⟩ rfl rfl hl.1 rfl (lv_room (Nat.le_of_ble_eq_true rfl)) dL_law_4 ⟨(Nat.le_of_ble_eq_true rfl), (Nat.le_of_ble_eq_true rfl)⟩) hS (fun q _ h => hFc q h) hFc (fun u t H1 locs ht hvm hw hB hz1 hk1 hS => ?_)
  obtain ⟨hP1, hD1⟩ := hB
  rw [ht] at hP1
  obtain ⟨hP, hD⟩ := va_join (wr := []) (w1 := wHA cI cJ u iLS iHA) hP hD [0] [] rfl rfl (by decide) (by decide) hk1 hFc hP1 hD1
  generalize H1 = H at hP hS ⊢
  refine W.widen (k := 29) (n := 420) (Nat.le_of_ble_eq_true rfl) (Nat.le_of_ble_eq_true rfl) ?_
  have hP : va_P D vwCl (wHA cI cJ u iLS iHA) H := hP
  have hD : va_D (fun q : Nat => s.heap.size ≤ q) (wHA cI cJ u iLS iHA) := hD
  have hw : u 0 = q0 := hw
  rw [← hw]
  refine lv_astore_n (lv' := [(1, .ref (u 0)), (0, .ref b)]) hx hb dL_law_7 rfl hl (by decide) rfl (fun ls hl => ?_)
  refine va_new (D := D) (ci := 3) (fs := [.null, .null, .null, .null, .int 0, .null, .null, .null, .int 0, .int 0, .int 0, .null, .int 0]) (C := RX3) (T := TX3) (N := 13) hx hb hts0 wi_wsX30 tyX3 tyX3_ok hown (hts0 (.classLink RL 10 RX3) (List.mem_of_getElem? (i := 714) (by decide +kernel))) (hts0 (.instantiable RX3 13) (List.mem_of_getElem? (i := 715) (by decide +kernel))) (hts0 (.initialized RX3) (List.mem_of_getElem? (i := 53) (by decide +kernel))) hK hP hD hS hA rfl (fun j hj => by rcases (show j = 0 ∨ j = 1 ∨ j = 2 ∨ j = 3 ∨ j = 4 ∨ j = 5 ∨ j = 6 ∨ j = 7 ∨ j = 8 ∨ j = 9 ∨ j = 10 ∨ j = 11 ∨ j = 12 by omega) with rfl | rfl | rfl | rfl | rfl | rfl | rfl | rfl | rfl | rfl | rfl | rfl | rfl <;> rfl) (Nat.le_of_ble_eq_true rfl) (Nat.le_of_ble_eq_true rfl) dL_law_8 (fun q1 H hP hD hS => ?_)
  refine W.widen (k := 30) (n := 433) (Nat.le_of_ble_eq_true rfl) (Nat.le_of_ble_eq_true rfl) ?_
  refine lv_dup hx hb dL_law_11 rfl ?_
  have hPc : va_P D vwCl [(q1, .inr (3, [.null, .null, .null, .null, .int 0, .null, .null, .null, .int 0, .int 0, .int 0, .null, .int 0]))] H := app_P2 hP
  have hDc : va_D (fun q : Nat => s.heap.size ≤ q) [(q1, .inr (3, [.null, .null, .null, .null, .int 0, .null, .null, .null, .int 0, .int 0, .int 0, .null, .int 0]))] := app_D2 hD
  have hFc : ∀ q, va_A [(q1, .inr (3, [.null, .null, .null, .null, .int 0, .null, .null, .null, .int 0, .int 0, .int 0, .null, .int 0]))] H.size q → (fun q : Nat => s.heap.size ≤ q) q := fun q h => h.elim (fun ⟨k, e2, g⟩ => hDc.2 k (q, e2) g) (fun g => Nat.le_trans hS.1 g)
  refine va_callv (va_runI (As := []) (rest := [.ref q1]) ⟨hx, hb, hml, hown, hts⟩ (mX3_init l D cI cJ q1 H.size) (cwI 0 hts gL_law_X3_init rfl rfl rfl (hts0 (.initialized RX3) (List.mem_of_getElem? (i := 53) (by decide +kernel))) (hts0 (.methodLink RL 12 yX3_init) (List.mem_of_getElem? (i := 716) (by decide +kernel))) (hts0 (.instanceMethod yX3_init) (List.mem_of_getElem? (i := 717) (by decide +kernel))) rfl (by decide +kernel) ⟨(Nat.le_of_ble_eq_true rfl), (Nat.le_of_ble_eq_true rfl)⟩) ⟨WPre.blind, fun U hU hW => ⟨rfl, by rw [hU], by rw [hU]; exact hPc, va_K.moved hW.alike hK, hDc.weaken (fun _ _ _ _ => trivial)⟩⟩ rfl rfl hl.1 rfl (lv_room (Nat.le_of_ble_eq_true rfl)) dL_law_12 ⟨(Nat.le_of_ble_eq_true rfl), (Nat.le_of_ble_eq_true rfl)⟩) hS (fun q _ h => hFc q h) hFc (fun v t H1 locs ht hvm hw9 hB hz1 hk1 hS => ?_)
  obtain ⟨hP1, hD1⟩ := hB
  rw [ht] at hP1
  obtain ⟨hP, hD⟩ := va_join (wr := wHA cI cJ u iLS iHA) (w1 := wMo cI v iMo) hP hD [29] [0, 1, 2, 3, 4, 5, 6, 7, 8, 9, 10, 11, 12, 13, 14, 15, 16, 17, 18, 19, 20, 21, 22, 23, 24, 25, 26, 27, 28] rfl rfl (by decide) (by decide) hk1 hFc hP1 hD1
  generalize H1 = H at hP hS ⊢
  have hw9 : v 0 = q1 := hw9
  rw [← hw9]
  refine lv_astore_n (lv' := [(2, .ref (v 0)), (1, .ref (u 0)), (0, .ref b)]) hx hb dL_law_15 rfl hl (by decide) rfl (fun ls hl => ?_)
  refine lv_iconst (v := (0 : Int32)) hx hb dL_law_16 (by decide) ?_
  refine lv_istore_n (lv' := [(3, .int 0), (2, .ref (v 0)), (1, .ref (u 0)), (0, .ref b)]) hx hb dL_law_17 rfl hl (by decide) rfl (fun ls hl => ?_)
  refine W.widen (k := 38) (n := 707) (Nat.le_of_ble_eq_true rfl) (Nat.le_of_ble_eq_true rfl) ?_
  exact law_loop hL C0 hX9 hK (N := 1000) (by omega) (L + 1) 0 (Nat.zero_le _) (by omega) iLS iHA iMo A00 H _ ⟨hP, hD, hS, CS0, MS0, AI0⟩ ls (lv_sub hl [3, 2, 1, 0] rfl)
